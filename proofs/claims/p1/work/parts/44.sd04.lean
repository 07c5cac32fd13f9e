set_option maxRecDepth 100000 in
set_option maxHeartbeats 8000000 in
/-- TippedCrates.read -/
theorem sd_124 (l : Launch) (f : Nat → Nat) (D : va_G) (cA : FieldType → ClassId) (d : Nat) : mm_Ok2 l f D cA d (yX11_read, cX11_read, 2, (some .int), mc_124) := by
  intro p e R s m args below meth c C hRf hRl pc
  obtain ⟨hx, hb, hml, hr, hlk, hnm, hown, hts, hEX, hgo, hf⟩ := C
  obtain ⟨hK, hA, hX, hZs, hZc, hZq, hTx, hSR0, hSR1, hAO, hN⟩ := id hEX
  have hAW : ∀ w ∈ mm_AW, w ∈ (Cond.code yX11_read cX11_read 2 (some .int) :: mm_AW) := fun w h => List.mem_cons_of_mem _ h
  have hown : s.vm.findClass "TippedCrates" = some m.cls := hown
  show mm_S p l e R s m args below meth c f D mm_cl cA 2 _ pc (mc_124 pc)
  unfold mc_124
  exact (ms_b (ms_b (ms_b (ms_b (ms_lf (ms_aload_n hx hb rfl (by decide +kernel)))
    (ms_b (ms_lf (ms_getf (C := RX11) (T := TX11) (N := 11) hx hb hf hts (fun w h => hAW w (inq_11 w h)) hown hK rfl (by decide) (hts _ (hAW _ qw_851)) rfl (by decide +kernel)))
    (ms_lf (ms_ivV (C := RX4) (T := TX4) (N := 19) hx hb hml hown hts hgo hEX hf hK rfl (mm_GV hAW (mm_GI hAW gi_34) qw_620 qw_621 qw_622 qw_125) rfl ⟨rfl, hd_34⟩ (mm_rm hRf hRl (Nat.le_of_ble_eq_true rfl)) (by decide +kernel)))))
    (ms_b (ms_lf (ms_istore_n hx hb rfl (by decide : 1 < 2) (by decide +kernel)))
    (ms_b (ms_lf (ms_aload_n hx hb rfl (by decide +kernel)))
    (ms_lf (ms_getf (C := RX11) (T := TX11) (N := 11) hx hb hf hts (fun w h => hAW w (inq_11 w h)) hown hK rfl (by decide) (hts _ (hAW _ qw_849)) rfl (by decide +kernel))))))
    (ms_b (ms_b (ms_lf (ms_iconst hx hb (by decide) (by decide +kernel)))
    (ms_b (ms_lf (ms_put (C := RX8) (T := TX8) (N := 7) hx hb hf hts (fun w h => hAW w (inq_8 w h)) tyX8 tyX8_ok nmX8 hown hK rfl (by decide) (hts _ (hAW _ qw_206)) rfl rfl rfl (by decide +kernel)))
    (ms_lf (ms_iload_n hx hb rfl (by decide +kernel)))))
    (ms_b (ms_lf (ms_if_ne hx hb (by decide) (by decide +kernel)))
    (ms_b (ms_lf (ms_aload_n hx hb rfl (by decide +kernel)))
    (ms_lf (ms_getf (C := RX11) (T := TX11) (N := 11) hx hb hf hts (fun w h => hAW w (inq_11 w h)) hown hK rfl (by decide) (hts _ (hAW _ qw_858)) rfl (by decide +kernel)))))))
    (ms_b (ms_b (ms_b (ms_lf (ms_aload_n hx hb rfl (by decide +kernel)))
    (ms_b (ms_lf (ms_getf (C := RX11) (T := TX11) (N := 11) hx hb hf hts (fun w h => hAW w (inq_11 w h)) hown hK rfl (by decide) (hts _ (hAW _ qw_850)) rfl (by decide +kernel)))
    (ms_lf (ms_ivV (C := RX7) (T := TX7) (N := 7) hx hb hml hown hts hgo hEX hf hK rfl (mm_GV hAW (mm_GI hAW gi_75) qw_843 qw_844 qw_845 qw_133) rfl ⟨rfl, hd_75⟩ (mm_rm hRf hRl (Nat.le_of_ble_eq_true rfl)) (by decide +kernel)))))
    (ms_b (ms_lf (ms_aload_n hx hb rfl (by decide +kernel)))
    (ms_b (ms_lf (ms_getf (C := RX11) (T := TX11) (N := 11) hx hb hf hts (fun w h => hAW w (inq_11 w h)) hown hK rfl (by decide) (hts _ (hAW _ qw_857)) rfl (by decide +kernel)))
    (ms_lf (ms_ivV (C := RX2) (T := TX2) (N := 5) hx hb hml hown hts hgo hEX hf hK rfl (mm_GV hAW (mm_GI hAW gi_20) qw_899 qw_900 qw_901 qw_132) rfl ⟨rfl, hd_20⟩ (mm_rm hRf hRl (Nat.le_of_ble_eq_true rfl)) (by decide +kernel))))))
    (ms_b (ms_b (ms_lf (ms_aload_n hx hb rfl (by decide +kernel)))
    (ms_b (ms_lf (ms_getf (C := RX11) (T := TX11) (N := 11) hx hb hf hts (fun w h => hAW w (inq_11 w h)) hown hK rfl (by decide) (hts _ (hAW _ qw_856)) rfl (by decide +kernel)))
    (ms_lf (ms_ivV (C := RX5) (T := TX5) (N := 11) hx hb hml hown hts hgo hEX hf hK rfl (mm_GV hAW (mm_GI hAW gi_57) qw_903 qw_904 qw_905 qw_131) rfl ⟨rfl, hd_57⟩ (mm_rm hRf hRl (Nat.le_of_ble_eq_true rfl)) (by decide +kernel)))))
    (ms_b (ms_lf (ms_pop hx hb (by decide +kernel)))
    (ms_b (ms_lf (ms_iload_n hx hb rfl (by decide +kernel)))
    (ms_lf (ms_iret hx hb hr hlk (by decide +kernel))))))))
set_option maxRecDepth 100000 in
set_option maxHeartbeats 8000000 in
/-- TippedCrates.place -/
theorem sd_125 (l : Launch) (f : Nat → Nat) (D : va_G) (cA : FieldType → ClassId) (d : Nat) : mm_Ok2 l f D cA d (yX11_place, cX11_place, 1, (some .int), mc_125) := by
  intro p e R s m args below meth c C hRf hRl pc
  obtain ⟨hx, hb, hml, hr, hlk, hnm, hown, hts, hEX, hgo, hf⟩ := C
  obtain ⟨hK, hA, hX, hZs, hZc, hZq, hTx, hSR0, hSR1, hAO, hN⟩ := id hEX
  have hAW : ∀ w ∈ mm_AW, w ∈ (Cond.code yX11_place cX11_place 1 (some .int) :: mm_AW) := fun w h => List.mem_cons_of_mem _ h
  have hown : s.vm.findClass "TippedCrates" = some m.cls := hown
  show mm_S p l e R s m args below meth c f D mm_cl cA 1 _ pc (mc_125 pc)
  unfold mc_125
  exact (ms_b (ms_b (ms_lf (ms_aload_n hx hb rfl (by decide +kernel)))
    (ms_lf (ms_getf (C := RX11) (T := TX11) (N := 11) hx hb hf hts (fun w h => hAW w (inq_11 w h)) hown hK rfl (by decide) (hts _ (hAW _ qw_851)) rfl (by decide +kernel))))
    (ms_b (ms_lf (ms_getf (C := RX4) (T := TX4) (N := 19) hx hb hf hts (fun w h => hAW w (inq_4 w h)) hown hK rfl (by decide) (hts _ (hAW _ qw_332)) rfl (by decide +kernel)))
    (ms_lf (ms_iret hx hb hr hlk (by decide +kernel)))))
set_option maxRecDepth 100000 in
set_option maxHeartbeats 8000000 in
/-- TippedCrates.flag -/
theorem sd_126 (l : Launch) (f : Nat → Nat) (D : va_G) (cA : FieldType → ClassId) (d : Nat) : mm_Ok2 l f D cA d (yX11_flag, cX11_flag, 4, (some .int), mc_126) := by
  intro p e R s m args below meth c C hRf hRl pc
  obtain ⟨hx, hb, hml, hr, hlk, hnm, hown, hts, hEX, hgo, hf⟩ := C
  obtain ⟨hK, hA, hX, hZs, hZc, hZq, hTx, hSR0, hSR1, hAO, hN⟩ := id hEX
  have hAW : ∀ w ∈ mm_AW, w ∈ (Cond.code yX11_flag cX11_flag 4 (some .int) :: mm_AW) := fun w h => List.mem_cons_of_mem _ h
  have hown : s.vm.findClass "TippedCrates" = some m.cls := hown
  show mm_S p l e R s m args below meth c f D mm_cl cA 4 _ pc (mc_126 pc)
  unfold mc_126
  exact (ms_b (ms_b (ms_b (ms_b (ms_b (ms_lf (ms_aload_n hx hb rfl (by decide +kernel)))
    (ms_lf (ms_iload_n hx hb rfl (by decide +kernel))))
    (ms_b (ms_lf (ms_ivV (C := RX11) (T := TX11) (N := 11) hx hb hml hown hts hgo hEX hf hK rfl (mm_GV hAW (mm_GI hAW gi_163) qw_915 qw_917 qw_26 qw_117) rfl ⟨rfl, hd_163⟩ (mm_rm hRf hRl (Nat.le_of_ble_eq_true rfl)) (by decide +kernel)))
    (ms_lf (ms_if_ne hx hb (by decide) (by decide +kernel)))))
    (ms_b (ms_b (ms_lf (ms_iconst hx hb (by decide) (by decide +kernel)))
    (ms_lf (ms_iret hx hb hr hlk (by decide +kernel))))
    (ms_b (ms_lf (ms_iload_n hx hb rfl (by decide +kernel)))
    (ms_b (ms_lf (ms_tsw hx hb (by decide) (by decide) (by decide +kernel)))
    (ms_lf (ms_aload_n hx hb rfl (by decide +kernel)))))))
    (ms_b (ms_b (ms_b (ms_lf (ms_getf (C := RX11) (T := TX11) (N := 11) hx hb hf hts (fun w h => hAW w (inq_11 w h)) hown hK rfl (by decide) (hts _ (hAW _ qw_858)) rfl (by decide +kernel)))
    (ms_lf (ms_getf (C := RX7) (T := TX7) (N := 7) hx hb hf hts (fun w h => hAW w (inq_7 w h)) hown hK rfl (by decide) (hts _ (hAW _ qw_566)) rfl (by decide +kernel))))
    (ms_b (ms_lf (ms_iload_n hx hb rfl (by decide +kernel)))
    (ms_lf (ms_iald hx hb hf hA hX (by decide +kernel)))))
    (ms_b (ms_b (ms_lf (ms_iret hx hb hr hlk (by decide +kernel)))
    (ms_lf (ms_aload_n hx hb rfl (by decide +kernel))))
    (ms_b (ms_lf (ms_getf (C := RX11) (T := TX11) (N := 11) hx hb hf hts (fun w h => hAW w (inq_11 w h)) hown hK rfl (by decide) (hts _ (hAW _ qw_850)) rfl (by decide +kernel)))
    (ms_b (ms_lf (ms_iload_n hx hb rfl (by decide +kernel)))
    (ms_lf (ms_ivV (C := RX3) (T := TX3) (N := 12) hx hb hml hown hts hgo hEX hf hK rfl (mm_GV hAW (mm_GI hAW gi_31) qw_920 qw_921 qw_922 qw_123) rfl ⟨rfl, hd_31⟩ (mm_rm hRf hRl (Nat.le_of_ble_eq_true rfl)) (by decide +kernel))))))))
    (ms_b (ms_b (ms_b (ms_b (ms_lf (ms_if_eq hx hb (by decide) (by decide +kernel)))
    (ms_lf (ms_iconst hx hb (by decide) (by decide +kernel))))
    (ms_b (ms_lf (ms_goto hx hb (by decide) (by decide +kernel)))
    (ms_lf (ms_iconst hx hb (by decide) (by decide +kernel)))))
    (ms_b (ms_b (ms_lf (ms_iret hx hb hr hlk (by decide +kernel)))
    (ms_lf (ms_aload_n hx hb rfl (by decide +kernel))))
    (ms_b (ms_lf (ms_getf (C := RX11) (T := TX11) (N := 11) hx hb hf hts (fun w h => hAW w (inq_11 w h)) hown hK rfl (by decide) (hts _ (hAW _ qw_858)) rfl (by decide +kernel)))
    (ms_b (ms_lf (ms_iload_n hx hb rfl (by decide +kernel)))
    (ms_lf (ms_ivV (C := RX7) (T := TX7) (N := 7) hx hb hml hown hts hgo hEX hf hK rfl (mm_GV hAW (mm_GI hAW gi_77) qw_924 qw_925 qw_926 qw_133) rfl ⟨rfl, hd_77⟩ (mm_rm hRf hRl (Nat.le_of_ble_eq_true rfl)) (by decide +kernel)))))))
    (ms_b (ms_b (ms_b (ms_lf (ms_istore_n hx hb rfl (by decide : 3 < 4) (by decide +kernel)))
    (ms_lf (ms_iload_n hx hb rfl (by decide +kernel))))
    (ms_b (ms_lf (ms_iconst hx hb (by decide) (by decide +kernel)))
    (ms_b (ms_lf (ms_ic_ne hx hb (by decide) (by decide +kernel)))
    (ms_lf (ms_bipush hx hb (by decide) (by decide +kernel))))))
    (ms_b (ms_b (ms_lf (ms_goto hx hb (by decide) (by decide +kernel)))
    (ms_lf (ms_iload_n hx hb rfl (by decide +kernel))))
    (ms_b (ms_lf (ms_iret hx hb hr hlk (by decide +kernel)))
    (ms_b (ms_lf (ms_iconst hx hb (by decide) (by decide +kernel)))
    (ms_lf (ms_iret hx hb hr hlk (by decide +kernel)))))))))
set_option maxRecDepth 100000 in
set_option maxHeartbeats 8000000 in
/-- TippedCrates.crate -/
theorem sd_127 (l : Launch) (f : Nat → Nat) (D : va_G) (cA : FieldType → ClassId) (d : Nat) : mm_Ok2 l f D cA d (yX11_crate, cX11_crate, 3, (some .int), mc_127) := by
  intro p e R s m args below meth c C hRf hRl pc
  obtain ⟨hx, hb, hml, hr, hlk, hnm, hown, hts, hEX, hgo, hf⟩ := C
  obtain ⟨hK, hA, hX, hZs, hZc, hZq, hTx, hSR0, hSR1, hAO, hN⟩ := id hEX
  have hAW : ∀ w ∈ mm_AW, w ∈ (Cond.code yX11_crate cX11_crate 3 (some .int) :: mm_AW) := fun w h => List.mem_cons_of_mem _ h
  have hown : s.vm.findClass "TippedCrates" = some m.cls := hown
  show mm_S p l e R s m args below meth c f D mm_cl cA 3 _ pc (mc_127 pc)
  unfold mc_127
  exact (ms_b (ms_b (ms_b (ms_b (ms_b (ms_lf (ms_aload_n hx hb rfl (by decide +kernel)))
    (ms_lf (ms_iload_n hx hb rfl (by decide +kernel))))
    (ms_b (ms_lf (ms_ivV (C := RX11) (T := TX11) (N := 11) hx hb hml hown hts hgo hEX hf hK rfl (mm_GV hAW (mm_GI hAW gi_162) qw_932 qw_934 qw_27 qw_117) rfl ⟨rfl, hd_162⟩ (mm_rm hRf hRl (Nat.le_of_ble_eq_true rfl)) (by decide +kernel)))
    (ms_b (ms_lf (ms_if_ne hx hb (by decide) (by decide +kernel)))
    (ms_lf (ms_iconst hx hb (by decide) (by decide +kernel))))))
    (ms_b (ms_b (ms_lf (ms_iret hx hb hr hlk (by decide +kernel)))
    (ms_lf (ms_iload_n hx hb rfl (by decide +kernel))))
    (ms_b (ms_lf (ms_bipush hx hb (by decide) (by decide +kernel)))
    (ms_b (ms_lf (ms_ic_ne hx hb (by decide) (by decide +kernel)))
    (ms_lf (ms_aload_n hx hb rfl (by decide +kernel)))))))
    (ms_b (ms_b (ms_b (ms_lf (ms_getf (C := RX11) (T := TX11) (N := 11) hx hb hf hts (fun w h => hAW w (inq_11 w h)) hown hK rfl (by decide) (hts _ (hAW _ qw_858)) rfl (by decide +kernel)))
    (ms_lf (ms_getf (C := RX7) (T := TX7) (N := 7) hx hb hf hts (fun w h => hAW w (inq_7 w h)) hown hK rfl (by decide) (hts _ (hAW _ qw_570)) rfl (by decide +kernel))))
    (ms_b (ms_lf (ms_iload_n hx hb rfl (by decide +kernel)))
    (ms_b (ms_lf (ms_iald hx hb hf hA hX (by decide +kernel)))
    (ms_lf (ms_iret hx hb hr hlk (by decide +kernel))))))
    (ms_b (ms_b (ms_lf (ms_iload_n hx hb rfl (by decide +kernel)))
    (ms_lf (ms_bipush hx hb (by decide) (by decide +kernel))))
    (ms_b (ms_lf (ms_ic_ne hx hb (by decide) (by decide +kernel)))
    (ms_b (ms_lf (ms_aload_n hx hb rfl (by decide +kernel)))
    (ms_lf (ms_getf (C := RX11) (T := TX11) (N := 11) hx hb hf hts (fun w h => hAW w (inq_11 w h)) hown hK rfl (by decide) (hts _ (hAW _ qw_858)) rfl (by decide +kernel))))))))
    (ms_b (ms_b (ms_b (ms_b (ms_lf (ms_getf (C := RX7) (T := TX7) (N := 7) hx hb hf hts (fun w h => hAW w (inq_7 w h)) hown hK rfl (by decide) (hts _ (hAW _ qw_577)) rfl (by decide +kernel)))
    (ms_lf (ms_iload_n hx hb rfl (by decide +kernel))))
    (ms_b (ms_lf (ms_iald hx hb hf hA hX (by decide +kernel)))
    (ms_b (ms_lf (ms_iret hx hb hr hlk (by decide +kernel)))
    (ms_lf (ms_iload_n hx hb rfl (by decide +kernel))))))
    (ms_b (ms_b (ms_lf (ms_iconst hx hb (by decide) (by decide +kernel)))
    (ms_lf (ms_iconst hx hb (by decide) (by decide +kernel))))
    (ms_b (ms_lf (ms_ivS hx hb hml hown hts hgo hEX (mm_GS hAW (mm_GI hAW gi_166) qw_919 qw_748 qw_117) rfl hd_166 (mm_rm hRf hRl (Nat.le_of_ble_eq_true rfl)) (by decide +kernel)))
    (ms_b (ms_lf (ms_if_eq hx hb (by decide) (by decide +kernel)))
    (ms_lf (ms_aload_n hx hb rfl (by decide +kernel)))))))
    (ms_b (ms_b (ms_b (ms_lf (ms_getf (C := RX11) (T := TX11) (N := 11) hx hb hf hts (fun w h => hAW w (inq_11 w h)) hown hK rfl (by decide) (hts _ (hAW _ qw_858)) rfl (by decide +kernel)))
    (ms_lf (ms_getf (C := RX7) (T := TX7) (N := 7) hx hb hf hts (fun w h => hAW w (inq_7 w h)) hown hK rfl (by decide) (hts _ (hAW _ qw_574)) rfl (by decide +kernel))))
    (ms_b (ms_lf (ms_iload_n hx hb rfl (by decide +kernel)))
    (ms_b (ms_lf (ms_bipush hx hb (by decide) (by decide +kernel)))
    (ms_lf (ms_imul hx hb (by decide +kernel))))))
    (ms_b (ms_b (ms_lf (ms_iload_n hx hb rfl (by decide +kernel)))
    (ms_b (ms_lf (ms_iadd hx hb (by decide +kernel)))
    (ms_lf (ms_iald hx hb hf hA hX (by decide +kernel)))))
    (ms_b (ms_lf (ms_goto hx hb (by decide) (by decide +kernel)))
    (ms_b (ms_lf (ms_iconst hx hb (by decide) (by decide +kernel)))
    (ms_lf (ms_iret hx hb hr hlk (by decide +kernel)))))))))
set_option maxRecDepth 100000 in
set_option maxHeartbeats 8000000 in
/-- TippedCrates.tells -/
theorem sd_128 (l : Launch) (f : Nat → Nat) (D : va_G) (cA : FieldType → ClassId) (d : Nat) : mm_Ok2 l f D cA d (yX11_tells, cX11_tells, 4, (some .int), mc_128) := by
  intro p e R s m args below meth c C hRf hRl pc
  obtain ⟨hx, hb, hml, hr, hlk, hnm, hown, hts, hEX, hgo, hf⟩ := C
  obtain ⟨hK, hA, hX, hZs, hZc, hZq, hTx, hSR0, hSR1, hAO, hN⟩ := id hEX
  have hAW : ∀ w ∈ mm_AW, w ∈ (Cond.code yX11_tells cX11_tells 4 (some .int) :: mm_AW) := fun w h => List.mem_cons_of_mem _ h
  have hown : s.vm.findClass "TippedCrates" = some m.cls := hown
  show mm_S p l e R s m args below meth c f D mm_cl cA 4 _ pc (mc_128 pc)
  unfold mc_128
  exact (ms_b (ms_b (ms_b (ms_b (ms_b (ms_lf (ms_aload_n hx hb rfl (by decide +kernel)))
    (ms_b (ms_lf (ms_iload_n hx hb rfl (by decide +kernel)))
    (ms_lf (ms_ivV (C := RX11) (T := TX11) (N := 11) hx hb hml hown hts hgo hEX hf hK rfl (mm_GV hAW (mm_GI hAW gi_162) qw_932 qw_934 qw_27 qw_117) rfl ⟨rfl, hd_162⟩ (mm_rm hRf hRl (Nat.le_of_ble_eq_true rfl)) (by decide +kernel)))))
    (ms_b (ms_b (ms_lf (ms_if_eq hx hb (by decide) (by decide +kernel)))
    (ms_lf (ms_iload_n hx hb rfl (by decide +kernel))))
    (ms_b (ms_lf (ms_ivS hx hb hml hown hts hgo hEX (mm_GS hAW (mm_GI hAW gi_165) qw_940 qw_941 qw_117) rfl hd_165 (mm_rm hRf hRl (Nat.le_of_ble_eq_true rfl)) (by decide +kernel)))
    (ms_lf (ms_if_ne hx hb (by decide) (by decide +kernel))))))
    (ms_b (ms_b (ms_lf (ms_iconst hx hb (by decide) (by decide +kernel)))
    (ms_b (ms_lf (ms_iret hx hb hr hlk (by decide +kernel)))
    (ms_lf (ms_aload_n hx hb rfl (by decide +kernel)))))
    (ms_b (ms_b (ms_lf (ms_getf (C := RX11) (T := TX11) (N := 11) hx hb hf hts (fun w h => hAW w (inq_11 w h)) hown hK rfl (by decide) (hts _ (hAW _ qw_852)) rfl (by decide +kernel)))
    (ms_lf (ms_aload_n hx hb rfl (by decide +kernel))))
    (ms_b (ms_lf (ms_getf (C := RX11) (T := TX11) (N := 11) hx hb hf hts (fun w h => hAW w (inq_11 w h)) hown hK rfl (by decide) (hts _ (hAW _ qw_858)) rfl (by decide +kernel)))
    (ms_lf (ms_iload_n hx hb rfl (by decide +kernel)))))))
    (ms_b (ms_b (ms_b (ms_lf (ms_iload_n hx hb rfl (by decide +kernel)))
    (ms_b (ms_lf (ms_ivV (C := RX0) (T := TX0) (N := 1) hx hb hml hown hts hgo hEX hf hK rfl (mm_GV hAW (mm_GI hAW gi_2) qw_943 qw_944 qw_945 qw_126) rfl ⟨rfl, hd_2⟩ (mm_rm hRf hRl (Nat.le_of_ble_eq_true rfl)) (by decide +kernel)))
    (ms_lf (ms_iload_n hx hb rfl (by decide +kernel)))))
    (ms_b (ms_b (ms_lf (ms_tsw hx hb (by decide) (by decide) (by decide +kernel)))
    (ms_lf (ms_aload_n hx hb rfl (by decide +kernel))))
    (ms_b (ms_lf (ms_getf (C := RX11) (T := TX11) (N := 11) hx hb hf hts (fun w h => hAW w (inq_11 w h)) hown hK rfl (by decide) (hts _ (hAW _ qw_852)) rfl (by decide +kernel)))
    (ms_lf (ms_aload_n hx hb rfl (by decide +kernel))))))
    (ms_b (ms_b (ms_b (ms_lf (ms_getf (C := RX11) (T := TX11) (N := 11) hx hb hf hts (fun w h => hAW w (inq_11 w h)) hown hK rfl (by decide) (hts _ (hAW _ qw_858)) rfl (by decide +kernel)))
    (ms_lf (ms_iload_n hx hb rfl (by decide +kernel))))
    (ms_b (ms_lf (ms_iload_n hx hb rfl (by decide +kernel)))
    (ms_lf (ms_ivV (C := RX0) (T := TX0) (N := 1) hx hb hml hown hts hgo hEX hf hK rfl (mm_GV hAW (mm_GI hAW gi_1) qw_959 qw_960 qw_961 qw_126) rfl ⟨rfl, hd_1⟩ (mm_rm hRf hRl (Nat.le_of_ble_eq_true rfl)) (by decide +kernel)))))
    (ms_b (ms_b (ms_lf (ms_if_eq hx hb (by decide) (by decide +kernel)))
    (ms_lf (ms_iconst hx hb (by decide) (by decide +kernel))))
    (ms_b (ms_lf (ms_goto hx hb (by decide) (by decide +kernel)))
    (ms_lf (ms_iconst hx hb (by decide) (by decide +kernel))))))))
    (ms_b (ms_b (ms_b (ms_b (ms_lf (ms_iret hx hb hr hlk (by decide +kernel)))
    (ms_b (ms_lf (ms_aload_n hx hb rfl (by decide +kernel)))
    (ms_lf (ms_getf (C := RX11) (T := TX11) (N := 11) hx hb hf hts (fun w h => hAW w (inq_11 w h)) hown hK rfl (by decide) (hts _ (hAW _ qw_852)) rfl (by decide +kernel)))))
    (ms_b (ms_b (ms_lf (ms_ivV (C := RX0) (T := TX0) (N := 1) hx hb hml hown hts hgo hEX hf hK rfl (mm_GV hAW (mm_GI hAW gi_4) qw_965 qw_966 qw_967 qw_126) rfl ⟨rfl, hd_4⟩ (mm_rm hRf hRl (Nat.le_of_ble_eq_true rfl)) (by decide +kernel)))
    (ms_lf (ms_iret hx hb hr hlk (by decide +kernel))))
    (ms_b (ms_lf (ms_aload_n hx hb rfl (by decide +kernel)))
    (ms_lf (ms_getf (C := RX11) (T := TX11) (N := 11) hx hb hf hts (fun w h => hAW w (inq_11 w h)) hown hK rfl (by decide) (hts _ (hAW _ qw_852)) rfl (by decide +kernel))))))
    (ms_b (ms_b (ms_lf (ms_iconst hx hb (by decide) (by decide +kernel)))
    (ms_b (ms_lf (ms_ivV (C := RX0) (T := TX0) (N := 1) hx hb hml hown hts hgo hEX hf hK rfl (mm_GV hAW (mm_GI hAW gi_6) qw_975 qw_976 qw_977 qw_126) rfl ⟨rfl, hd_6⟩ (mm_rm hRf hRl (Nat.le_of_ble_eq_true rfl)) (by decide +kernel)))
    (ms_lf (ms_if_eq hx hb (by decide) (by decide +kernel)))))
    (ms_b (ms_b (ms_lf (ms_iconst hx hb (by decide) (by decide +kernel)))
    (ms_lf (ms_goto hx hb (by decide) (by decide +kernel))))
    (ms_b (ms_lf (ms_iconst hx hb (by decide) (by decide +kernel)))
    (ms_lf (ms_iret hx hb hr hlk (by decide +kernel)))))))
    (ms_b (ms_b (ms_b (ms_lf (ms_aload_n hx hb rfl (by decide +kernel)))
    (ms_b (ms_lf (ms_getf (C := RX11) (T := TX11) (N := 11) hx hb hf hts (fun w h => hAW w (inq_11 w h)) hown hK rfl (by decide) (hts _ (hAW _ qw_852)) rfl (by decide +kernel)))
    (ms_lf (ms_iconst hx hb (by decide) (by decide +kernel)))))
    (ms_b (ms_b (ms_lf (ms_ivV (C := RX0) (T := TX0) (N := 1) hx hb hml hown hts hgo hEX hf hK rfl (mm_GV hAW (mm_GI hAW gi_6) qw_975 qw_976 qw_977 qw_126) rfl ⟨rfl, hd_6⟩ (mm_rm hRf hRl (Nat.le_of_ble_eq_true rfl)) (by decide +kernel)))
    (ms_lf (ms_if_eq hx hb (by decide) (by decide +kernel))))
    (ms_b (ms_lf (ms_iconst hx hb (by decide) (by decide +kernel)))
    (ms_lf (ms_goto hx hb (by decide) (by decide +kernel))))))
    (ms_b (ms_b (ms_b (ms_lf (ms_iconst hx hb (by decide) (by decide +kernel)))
    (ms_lf (ms_iret hx hb hr hlk (by decide +kernel))))
    (ms_b (ms_lf (ms_aload_n hx hb rfl (by decide +kernel)))
    (ms_lf (ms_getf (C := RX11) (T := TX11) (N := 11) hx hb hf hts (fun w h => hAW w (inq_11 w h)) hown hK rfl (by decide) (hts _ (hAW _ qw_852)) rfl (by decide +kernel)))))
    (ms_b (ms_b (ms_lf (ms_ivV (C := RX0) (T := TX0) (N := 1) hx hb hml hown hts hgo hEX hf hK rfl (mm_GV hAW (mm_GI hAW gi_5) qw_979 qw_980 qw_981 qw_126) rfl ⟨rfl, hd_5⟩ (mm_rm hRf hRl (Nat.le_of_ble_eq_true rfl)) (by decide +kernel)))
    (ms_lf (ms_iret hx hb hr hlk (by decide +kernel))))
    (ms_b (ms_lf (ms_iconst hx hb (by decide) (by decide +kernel)))
    (ms_lf (ms_iret hx hb hr hlk (by decide +kernel)))))))))
set_option maxRecDepth 100000 in
set_option maxHeartbeats 8000000 in
/-- TippedCrates.tip -/
theorem sd_129 (l : Launch) (f : Nat → Nat) (D : va_G) (cA : FieldType → ClassId) (d : Nat) : mm_Ok2 l f D cA d (yX11_tip, cX11_tip, 3, (some .int), mc_129) := by
  intro p e R s m args below meth c C hRf hRl pc
  obtain ⟨hx, hb, hml, hr, hlk, hnm, hown, hts, hEX, hgo, hf⟩ := C
  obtain ⟨hK, hA, hX, hZs, hZc, hZq, hTx, hSR0, hSR1, hAO, hN⟩ := id hEX
  have hAW : ∀ w ∈ mm_AW, w ∈ (Cond.code yX11_tip cX11_tip 3 (some .int) :: mm_AW) := fun w h => List.mem_cons_of_mem _ h
  have hown : s.vm.findClass "TippedCrates" = some m.cls := hown
  show mm_S p l e R s m args below meth c f D mm_cl cA 3 _ pc (mc_129 pc)
  unfold mc_129
  exact (ms_b (ms_b (ms_b (ms_b (ms_b (ms_lf (ms_aload_n hx hb rfl (by decide +kernel)))
    (ms_lf (ms_iload_n hx hb rfl (by decide +kernel))))
    (ms_b (ms_lf (ms_ivV (C := RX11) (T := TX11) (N := 11) hx hb hml hown hts hgo hEX hf hK rfl (mm_GV hAW (mm_GI hAW gi_162) qw_932 qw_934 qw_27 qw_117) rfl ⟨rfl, hd_162⟩ (mm_rm hRf hRl (Nat.le_of_ble_eq_true rfl)) (by decide +kernel)))
    (ms_lf (ms_if_eq hx hb (by decide) (by decide +kernel)))))
    (ms_b (ms_b (ms_lf (ms_iload_n hx hb rfl (by decide +kernel)))
    (ms_lf (ms_ivS hx hb hml hown hts hgo hEX (mm_GS hAW (mm_GI hAW gi_165) qw_940 qw_941 qw_117) rfl hd_165 (mm_rm hRf hRl (Nat.le_of_ble_eq_true rfl)) (by decide +kernel))))
    (ms_b (ms_lf (ms_if_eq hx hb (by decide) (by decide +kernel)))
    (ms_lf (ms_aload_n hx hb rfl (by decide +kernel))))))
    (ms_b (ms_b (ms_b (ms_lf (ms_getf (C := RX11) (T := TX11) (N := 11) hx hb hf hts (fun w h => hAW w (inq_11 w h)) hown hK rfl (by decide) (hts _ (hAW _ qw_852)) rfl (by decide +kernel)))
    (ms_lf (ms_aload_n hx hb rfl (by decide +kernel))))
    (ms_b (ms_lf (ms_getf (C := RX11) (T := TX11) (N := 11) hx hb hf hts (fun w h => hAW w (inq_11 w h)) hown hK rfl (by decide) (hts _ (hAW _ qw_858)) rfl (by decide +kernel)))
    (ms_lf (ms_iload_n hx hb rfl (by decide +kernel)))))
    (ms_b (ms_b (ms_lf (ms_iload_n hx hb rfl (by decide +kernel)))
    (ms_lf (ms_ivV (C := RX0) (T := TX0) (N := 1) hx hb hml hown hts hgo hEX hf hK rfl (mm_GV hAW (mm_GI hAW gi_1) qw_959 qw_960 qw_961 qw_126) rfl ⟨rfl, hd_1⟩ (mm_rm hRf hRl (Nat.le_of_ble_eq_true rfl)) (by decide +kernel))))
    (ms_b (ms_lf (ms_if_ne hx hb (by decide) (by decide +kernel)))
    (ms_b (ms_lf (ms_iconst hx hb (by decide) (by decide +kernel)))
    (ms_lf (ms_iret hx hb hr hlk (by decide +kernel))))))))
    (ms_b (ms_b (ms_b (ms_b (ms_lf (ms_aload_n hx hb rfl (by decide +kernel)))
    (ms_lf (ms_getf (C := RX11) (T := TX11) (N := 11) hx hb hf hts (fun w h => hAW w (inq_11 w h)) hown hK rfl (by decide) (hts _ (hAW _ qw_857)) rfl (by decide +kernel))))
    (ms_b (ms_lf (ms_aload_n hx hb rfl (by decide +kernel)))
    (ms_lf (ms_getf (C := RX11) (T := TX11) (N := 11) hx hb hf hts (fun w h => hAW w (inq_11 w h)) hown hK rfl (by decide) (hts _ (hAW _ qw_858)) rfl (by decide +kernel)))))
    (ms_b (ms_b (ms_lf (ms_ivV (C := RX2) (T := TX2) (N := 5) hx hb hml hown hts hgo hEX hf hK rfl (mm_GV hAW (mm_GI hAW gi_21) qw_987 qw_988 qw_989 qw_132) rfl ⟨rfl, hd_21⟩ (mm_rm hRf hRl (Nat.le_of_ble_eq_true rfl)) (by decide +kernel)))
    (ms_lf (ms_aload_n hx hb rfl (by decide +kernel))))
    (ms_b (ms_lf (ms_getf (C := RX11) (T := TX11) (N := 11) hx hb hf hts (fun w h => hAW w (inq_11 w h)) hown hK rfl (by decide) (hts _ (hAW _ qw_852)) rfl (by decide +kernel)))
    (ms_b (ms_lf (ms_aload_n hx hb rfl (by decide +kernel)))
    (ms_lf (ms_getf (C := RX11) (T := TX11) (N := 11) hx hb hf hts (fun w h => hAW w (inq_11 w h)) hown hK rfl (by decide) (hts _ (hAW _ qw_858)) rfl (by decide +kernel)))))))
    (ms_b (ms_b (ms_b (ms_lf (ms_iload_n hx hb rfl (by decide +kernel)))
    (ms_lf (ms_iload_n hx hb rfl (by decide +kernel))))
    (ms_b (ms_lf (ms_ivV (C := RX0) (T := TX0) (N := 1) hx hb hml hown hts hgo hEX hf hK rfl (mm_GV hAW (mm_GI hAW gi_7) qw_996 qw_997 qw_998 qw_126) rfl ⟨rfl, hd_7⟩ (mm_rm hRf hRl (Nat.le_of_ble_eq_true rfl)) (by decide +kernel)))
    (ms_lf (ms_aload_n hx hb rfl (by decide +kernel)))))
    (ms_b (ms_b (ms_lf (ms_getf (C := RX11) (T := TX11) (N := 11) hx hb hf hts (fun w h => hAW w (inq_11 w h)) hown hK rfl (by decide) (hts _ (hAW _ qw_858)) rfl (by decide +kernel)))
    (ms_lf (ms_getf (C := RX7) (T := TX7) (N := 7) hx hb hf hts (fun w h => hAW w (inq_7 w h)) hown hK rfl (by decide) (hts _ (hAW _ qw_570)) rfl (by decide +kernel))))
    (ms_b (ms_lf (ms_iload_n hx hb rfl (by decide +kernel)))
    (ms_b (ms_lf (ms_iald hx hb hf hA hX (by decide +kernel)))
    (ms_lf (ms_iret hx hb hr hlk (by decide +kernel)))))))))
set_option maxRecDepth 100000 in
set_option maxHeartbeats 8000000 in
/-- TippedCrates.paint -/
theorem sd_130 (l : Launch) (f : Nat → Nat) (D : va_G) (cA : FieldType → ClassId) (d : Nat) : mm_Ok2 l f D cA d (yX11_paint, cX11_paint, 3, (some .boolean), mc_130) := by
  intro p e R s m args below meth c C hRf hRl pc
  obtain ⟨hx, hb, hml, hr, hlk, hnm, hown, hts, hEX, hgo, hf⟩ := C
  obtain ⟨hK, hA, hX, hZs, hZc, hZq, hTx, hSR0, hSR1, hAO, hN⟩ := id hEX
  have hAW : ∀ w ∈ mm_AW, w ∈ (Cond.code yX11_paint cX11_paint 3 (some .boolean) :: mm_AW) := fun w h => List.mem_cons_of_mem _ h
  have hown : s.vm.findClass "TippedCrates" = some m.cls := hown
  show mm_S p l e R s m args below meth c f D mm_cl cA 3 _ pc (mc_130 pc)
  unfold mc_130
  exact (ms_b (ms_b (ms_b (ms_b (ms_b (ms_lf (ms_aload_n hx hb rfl (by decide +kernel)))
    (ms_lf (ms_iload_n hx hb rfl (by decide +kernel))))
    (ms_b (ms_lf (ms_ivV (C := RX11) (T := TX11) (N := 11) hx hb hml hown hts hgo hEX hf hK rfl (mm_GV hAW (mm_GI hAW gi_163) qw_915 qw_917 qw_26 qw_117) rfl ⟨rfl, hd_163⟩ (mm_rm hRf hRl (Nat.le_of_ble_eq_true rfl)) (by decide +kernel)))
    (ms_b (ms_lf (ms_if_eq hx hb (by decide) (by decide +kernel)))
    (ms_lf (ms_iload_n hx hb rfl (by decide +kernel))))))
    (ms_b (ms_b (ms_lf (ms_ivS hx hb hml hown hts hgo hEX (mm_GS hAW (mm_GI hAW gi_164) qw_1008 qw_1009 qw_117) rfl hd_164 (mm_rm hRf hRl (Nat.le_of_ble_eq_true rfl)) (by decide +kernel)))
    (ms_lf (ms_if_eq hx hb (by decide) (by decide +kernel))))
    (ms_b (ms_lf (ms_aload_n hx hb rfl (by decide +kernel)))
    (ms_b (ms_lf (ms_getf (C := RX11) (T := TX11) (N := 11) hx hb hf hts (fun w h => hAW w (inq_11 w h)) hown hK rfl (by decide) (hts _ (hAW _ qw_858)) rfl (by decide +kernel)))
    (ms_lf (ms_getf (C := RX7) (T := TX7) (N := 7) hx hb hf hts (fun w h => hAW w (inq_7 w h)) hown hK rfl (by decide) (hts _ (hAW _ qw_566)) rfl (by decide +kernel)))))))
    (ms_b (ms_b (ms_b (ms_lf (ms_iload_n hx hb rfl (by decide +kernel)))
    (ms_lf (ms_iald hx hb hf hA hX (by decide +kernel))))
    (ms_b (ms_lf (ms_iload_n hx hb rfl (by decide +kernel)))
    (ms_b (ms_lf (ms_ic_ne hx hb (by decide) (by decide +kernel)))
    (ms_lf (ms_iconst hx hb (by decide) (by decide +kernel))))))
    (ms_b (ms_b (ms_lf (ms_iret hx hb hr hlk (by decide +kernel)))
    (ms_b (ms_lf (ms_aload_n hx hb rfl (by decide +kernel)))
    (ms_lf (ms_getf (C := RX11) (T := TX11) (N := 11) hx hb hf hts (fun w h => hAW w (inq_11 w h)) hown hK rfl (by decide) (hts _ (hAW _ qw_850)) rfl (by decide +kernel)))))
    (ms_b (ms_lf (ms_iload_n hx hb rfl (by decide +kernel)))
    (ms_b (ms_lf (ms_ivV (C := RX3) (T := TX3) (N := 12) hx hb hml hown hts hgo hEX hf hK rfl (mm_GV hAW (mm_GI hAW gi_31) qw_920 qw_921 qw_922 qw_123) rfl ⟨rfl, hd_31⟩ (mm_rm hRf hRl (Nat.le_of_ble_eq_true rfl)) (by decide +kernel)))
    (ms_lf (ms_if_ne hx hb (by decide) (by decide +kernel))))))))
    (ms_b (ms_b (ms_b (ms_b (ms_lf (ms_aload_n hx hb rfl (by decide +kernel)))
    (ms_lf (ms_getf (C := RX11) (T := TX11) (N := 11) hx hb hf hts (fun w h => hAW w (inq_11 w h)) hown hK rfl (by decide) (hts _ (hAW _ qw_858)) rfl (by decide +kernel))))
    (ms_b (ms_lf (ms_iload_n hx hb rfl (by decide +kernel)))
    (ms_b (ms_lf (ms_ivV (C := RX7) (T := TX7) (N := 7) hx hb hml hown hts hgo hEX hf hK rfl (mm_GV hAW (mm_GI hAW gi_77) qw_924 qw_925 qw_926 qw_133) rfl ⟨rfl, hd_77⟩ (mm_rm hRf hRl (Nat.le_of_ble_eq_true rfl)) (by decide +kernel)))
    (ms_lf (ms_iconst hx hb (by decide) (by decide +kernel))))))
    (ms_b (ms_b (ms_lf (ms_ic_eq hx hb (by decide) (by decide +kernel)))
    (ms_lf (ms_iconst hx hb (by decide) (by decide +kernel))))
    (ms_b (ms_lf (ms_iret hx hb hr hlk (by decide +kernel)))
    (ms_b (ms_lf (ms_aload_n hx hb rfl (by decide +kernel)))
    (ms_lf (ms_getf (C := RX11) (T := TX11) (N := 11) hx hb hf hts (fun w h => hAW w (inq_11 w h)) hown hK rfl (by decide) (hts _ (hAW _ qw_857)) rfl (by decide +kernel)))))))
    (ms_b (ms_b (ms_b (ms_lf (ms_aload_n hx hb rfl (by decide +kernel)))
    (ms_lf (ms_getf (C := RX11) (T := TX11) (N := 11) hx hb hf hts (fun w h => hAW w (inq_11 w h)) hown hK rfl (by decide) (hts _ (hAW _ qw_858)) rfl (by decide +kernel))))
    (ms_b (ms_lf (ms_ivV (C := RX2) (T := TX2) (N := 5) hx hb hml hown hts hgo hEX hf hK rfl (mm_GV hAW (mm_GI hAW gi_21) qw_987 qw_988 qw_989 qw_132) rfl ⟨rfl, hd_21⟩ (mm_rm hRf hRl (Nat.le_of_ble_eq_true rfl)) (by decide +kernel)))
    (ms_b (ms_lf (ms_aload_n hx hb rfl (by decide +kernel)))
    (ms_lf (ms_getf (C := RX11) (T := TX11) (N := 11) hx hb hf hts (fun w h => hAW w (inq_11 w h)) hown hK rfl (by decide) (hts _ (hAW _ qw_858)) rfl (by decide +kernel))))))
    (ms_b (ms_b (ms_lf (ms_getf (C := RX7) (T := TX7) (N := 7) hx hb hf hts (fun w h => hAW w (inq_7 w h)) hown hK rfl (by decide) (hts _ (hAW _ qw_566)) rfl (by decide +kernel)))
    (ms_b (ms_lf (ms_iload_n hx hb rfl (by decide +kernel)))
    (ms_lf (ms_iload_n hx hb rfl (by decide +kernel)))))
    (ms_b (ms_lf (ms_iast hx hb hf hA (by decide +kernel)))
    (ms_b (ms_lf (ms_iconst hx hb (by decide) (by decide +kernel)))
    (ms_lf (ms_iret hx hb hr hlk (by decide +kernel)))))))))
set_option maxRecDepth 100000 in
set_option maxHeartbeats 8000000 in
/-- TippedCrates.minutes -/
theorem sd_131 (l : Launch) (f : Nat → Nat) (D : va_G) (cA : FieldType → ClassId) (d : Nat) : mm_Ok2 l f D cA d (yX11_minutes, cX11_minutes, 2, (some .int), mc_131) := by
  intro p e R s m args below meth c C hRf hRl pc
  obtain ⟨hx, hb, hml, hr, hlk, hnm, hown, hts, hEX, hgo, hf⟩ := C
  obtain ⟨hK, hA, hX, hZs, hZc, hZq, hTx, hSR0, hSR1, hAO, hN⟩ := id hEX
  have hAW : ∀ w ∈ mm_AW, w ∈ (Cond.code yX11_minutes cX11_minutes 2 (some .int) :: mm_AW) := fun w h => List.mem_cons_of_mem _ h
  have hown : s.vm.findClass "TippedCrates" = some m.cls := hown
  show mm_S p l e R s m args below meth c f D mm_cl cA 2 _ pc (mc_131 pc)
  unfold mc_131
  exact (ms_b (ms_b (ms_b (ms_b (ms_lf (ms_iload_n hx hb rfl (by decide +kernel)))
    (ms_b (ms_lf (ms_iconst hx hb (by decide) (by decide +kernel)))
    (ms_lf (ms_bipush hx hb (by decide) (by decide +kernel)))))
    (ms_b (ms_lf (ms_ivS hx hb hml hown hts hgo hEX (mm_GS hAW (mm_GI hAW gi_166) qw_919 qw_748 qw_117) rfl hd_166 (mm_rm hRf hRl (Nat.le_of_ble_eq_true rfl)) (by decide +kernel)))
    (ms_b (ms_lf (ms_if_ne hx hb (by decide) (by decide +kernel)))
    (ms_lf (ms_iconst hx hb (by decide) (by decide +kernel))))))
    (ms_b (ms_b (ms_lf (ms_iret hx hb hr hlk (by decide +kernel)))
    (ms_b (ms_lf (ms_iload_n hx hb rfl (by decide +kernel)))
    (ms_lf (ms_if_le hx hb (by decide) (by decide +kernel)))))
    (ms_b (ms_b (ms_lf (ms_aload_n hx hb rfl (by decide +kernel)))
    (ms_lf (ms_getf (C := RX11) (T := TX11) (N := 11) hx hb hf hts (fun w h => hAW w (inq_11 w h)) hown hK rfl (by decide) (hts _ (hAW _ qw_857)) rfl (by decide +kernel))))
    (ms_b (ms_lf (ms_aload_n hx hb rfl (by decide +kernel)))
    (ms_lf (ms_getf (C := RX11) (T := TX11) (N := 11) hx hb hf hts (fun w h => hAW w (inq_11 w h)) hown hK rfl (by decide) (hts _ (hAW _ qw_858)) rfl (by decide +kernel)))))))
    (ms_b (ms_b (ms_b (ms_lf (ms_ivV (C := RX2) (T := TX2) (N := 5) hx hb hml hown hts hgo hEX hf hK rfl (mm_GV hAW (mm_GI hAW gi_21) qw_987 qw_988 qw_989 qw_132) rfl ⟨rfl, hd_21⟩ (mm_rm hRf hRl (Nat.le_of_ble_eq_true rfl)) (by decide +kernel)))
    (ms_b (ms_lf (ms_aload_n hx hb rfl (by decide +kernel)))
    (ms_lf (ms_getf (C := RX11) (T := TX11) (N := 11) hx hb hf hts (fun w h => hAW w (inq_11 w h)) hown hK rfl (by decide) (hts _ (hAW _ qw_852)) rfl (by decide +kernel)))))
    (ms_b (ms_b (ms_lf (ms_aload_n hx hb rfl (by decide +kernel)))
    (ms_lf (ms_getf (C := RX11) (T := TX11) (N := 11) hx hb hf hts (fun w h => hAW w (inq_11 w h)) hown hK rfl (by decide) (hts _ (hAW _ qw_858)) rfl (by decide +kernel))))
    (ms_b (ms_lf (ms_iload_n hx hb rfl (by decide +kernel)))
    (ms_lf (ms_aload_n hx hb rfl (by decide +kernel))))))
    (ms_b (ms_b (ms_lf (ms_getf (C := RX11) (T := TX11) (N := 11) hx hb hf hts (fun w h => hAW w (inq_11 w h)) hown hK rfl (by decide) (hts _ (hAW _ qw_850)) rfl (by decide +kernel)))
    (ms_b (ms_lf (ms_getf (C := RX3) (T := TX3) (N := 12) hx hb hf hts (fun w h => hAW w (inq_3 w h)) hown hK rfl (by decide) (hts _ (hAW _ qw_271)) rfl (by decide +kernel)))
    (ms_lf (ms_ivV (C := RX0) (T := TX0) (N := 1) hx hb hml hown hts hgo hEX hf hK rfl (mm_GV hAW (mm_GI hAW gi_8) qw_1015 qw_1016 qw_1017 qw_126) rfl ⟨rfl, hd_8⟩ (mm_rm hRf hRl (Nat.le_of_ble_eq_true rfl)) (by decide +kernel)))))
    (ms_b (ms_b (ms_lf (ms_aload_n hx hb rfl (by decide +kernel)))
    (ms_lf (ms_getf (C := RX11) (T := TX11) (N := 11) hx hb hf hts (fun w h => hAW w (inq_11 w h)) hown hK rfl (by decide) (hts _ (hAW _ qw_858)) rfl (by decide +kernel))))
    (ms_b (ms_lf (ms_getf (C := RX7) (T := TX7) (N := 7) hx hb hf hts (fun w h => hAW w (inq_7 w h)) hown hK rfl (by decide) (hts _ (hAW _ qw_582)) rfl (by decide +kernel)))
    (ms_lf (ms_iret hx hb hr hlk (by decide +kernel))))))))
set_option maxRecDepth 100000 in
set_option maxHeartbeats 8000000 in
/-- TippedCrates.undo -/
theorem sd_132 (l : Launch) (f : Nat → Nat) (D : va_G) (cA : FieldType → ClassId) (d : Nat) : mm_Ok2 l f D cA d (yX11_undo, cX11_undo, 1, (some .boolean), mc_132) := by
  intro p e R s m args below meth c C hRf hRl pc
  obtain ⟨hx, hb, hml, hr, hlk, hnm, hown, hts, hEX, hgo, hf⟩ := C
  obtain ⟨hK, hA, hX, hZs, hZc, hZq, hTx, hSR0, hSR1, hAO, hN⟩ := id hEX
  have hAW : ∀ w ∈ mm_AW, w ∈ (Cond.code yX11_undo cX11_undo 1 (some .boolean) :: mm_AW) := fun w h => List.mem_cons_of_mem _ h
  have hown : s.vm.findClass "TippedCrates" = some m.cls := hown
  show mm_S p l e R s m args below meth c f D mm_cl cA 1 _ pc (mc_132 pc)
  unfold mc_132
  exact (ms_b (ms_b (ms_lf (ms_aload_n hx hb rfl (by decide +kernel)))
    (ms_b (ms_lf (ms_getf (C := RX11) (T := TX11) (N := 11) hx hb hf hts (fun w h => hAW w (inq_11 w h)) hown hK rfl (by decide) (hts _ (hAW _ qw_857)) rfl (by decide +kernel)))
    (ms_lf (ms_aload_n hx hb rfl (by decide +kernel)))))
    (ms_b (ms_lf (ms_getf (C := RX11) (T := TX11) (N := 11) hx hb hf hts (fun w h => hAW w (inq_11 w h)) hown hK rfl (by decide) (hts _ (hAW _ qw_858)) rfl (by decide +kernel)))
    (ms_b (ms_lf (ms_ivV (C := RX2) (T := TX2) (N := 5) hx hb hml hown hts hgo hEX hf hK rfl (mm_GV hAW (mm_GI hAW gi_22) qw_1038 qw_1039 qw_1040 qw_132) rfl ⟨rfl, hd_22⟩ (mm_rm hRf hRl (Nat.le_of_ble_eq_true rfl)) (by decide +kernel)))
    (ms_lf (ms_iret hx hb hr hlk (by decide +kernel))))))
set_option maxRecDepth 100000 in
set_option maxHeartbeats 8000000 in
/-- TippedCrates.fewest -/
theorem sd_133 (l : Launch) (f : Nat → Nat) (D : va_G) (cA : FieldType → ClassId) (d : Nat) : mm_Ok2 l f D cA d (yX11_fewest, cX11_fewest, 5, (some .int), mc_133) := by
  intro p e R s m args below meth c C hRf hRl pc
  obtain ⟨hx, hb, hml, hr, hlk, hnm, hown, hts, hEX, hgo, hf⟩ := C
  obtain ⟨hK, hA, hX, hZs, hZc, hZq, hTx, hSR0, hSR1, hAO, hN⟩ := id hEX
  have hAW : ∀ w ∈ mm_AW, w ∈ (Cond.code yX11_fewest cX11_fewest 5 (some .int) :: mm_AW) := fun w h => List.mem_cons_of_mem _ h
  have hown : s.vm.findClass "TippedCrates" = some m.cls := hown
  show mm_S p l e R s m args below meth c f D mm_cl cA 5 _ pc (mc_133 pc)
  unfold mc_133
  exact (ms_b (ms_b (ms_b (ms_b (ms_b (ms_lf (ms_aload_n hx hb rfl (by decide +kernel)))
    (ms_lf (ms_iload_n hx hb rfl (by decide +kernel))))
    (ms_b (ms_lf (ms_ivV (C := RX11) (T := TX11) (N := 11) hx hb hml hown hts hgo hEX hf hK rfl (mm_GV hAW (mm_GI hAW gi_162) qw_932 qw_934 qw_27 qw_117) rfl ⟨rfl, hd_162⟩ (mm_rm hRf hRl (Nat.le_of_ble_eq_true rfl)) (by decide +kernel)))
    (ms_lf (ms_if_eq hx hb (by decide) (by decide +kernel)))))
    (ms_b (ms_b (ms_lf (ms_aload_n hx hb rfl (by decide +kernel)))
    (ms_lf (ms_iload_n hx hb rfl (by decide +kernel))))
    (ms_b (ms_lf (ms_ivV (C := RX11) (T := TX11) (N := 11) hx hb hml hown hts hgo hEX hf hK rfl (mm_GV hAW (mm_GI hAW gi_163) qw_915 qw_917 qw_26 qw_117) rfl ⟨rfl, hd_163⟩ (mm_rm hRf hRl (Nat.le_of_ble_eq_true rfl)) (by decide +kernel)))
    (ms_lf (ms_if_eq hx hb (by decide) (by decide +kernel))))))
    (ms_b (ms_b (ms_b (ms_lf (ms_iload_n hx hb rfl (by decide +kernel)))
    (ms_lf (ms_ivS hx hb hml hown hts hgo hEX (mm_GS hAW (mm_GI hAW gi_164) qw_1008 qw_1009 qw_117) rfl hd_164 (mm_rm hRf hRl (Nat.le_of_ble_eq_true rfl)) (by decide +kernel))))
    (ms_b (ms_lf (ms_if_ne hx hb (by decide) (by decide +kernel)))
    (ms_lf (ms_iconst hx hb (by decide) (by decide +kernel)))))
    (ms_b (ms_b (ms_lf (ms_iret hx hb hr hlk (by decide +kernel)))
    (ms_lf (ms_aload_n hx hb rfl (by decide +kernel))))
    (ms_b (ms_lf (ms_getf (C := RX11) (T := TX11) (N := 11) hx hb hf hts (fun w h => hAW w (inq_11 w h)) hown hK rfl (by decide) (hts _ (hAW _ qw_854)) rfl (by decide +kernel)))
    (ms_lf (ms_aload_n hx hb rfl (by decide +kernel)))))))
    (ms_b (ms_b (ms_b (ms_b (ms_lf (ms_getf (C := RX11) (T := TX11) (N := 11) hx hb hf hts (fun w h => hAW w (inq_11 w h)) hown hK rfl (by decide) (hts _ (hAW _ qw_858)) rfl (by decide +kernel)))
    (ms_lf (ms_iload_n hx hb rfl (by decide +kernel))))
    (ms_b (ms_lf (ms_ivV (C := RX6) (T := TX6) (N := 5) hx hb hml hown hts hgo hEX hf hK rfl (mm_GV hAW (mm_GI hAW gi_70) qw_1046 qw_1047 qw_1048 qw_129) rfl ⟨rfl, hd_70⟩ (mm_rm hRf hRl (Nat.le_of_ble_eq_true rfl)) (by decide +kernel)))
    (ms_lf (ms_aload_n hx hb rfl (by decide +kernel)))))
    (ms_b (ms_b (ms_lf (ms_getf (C := RX11) (T := TX11) (N := 11) hx hb hf hts (fun w h => hAW w (inq_11 w h)) hown hK rfl (by decide) (hts _ (hAW _ qw_855)) rfl (by decide +kernel)))
    (ms_lf (ms_ivV (C := RX10) (T := TX10) (N := 13) hx hb hml hown hts hgo hEX hf hK rfl (mm_GV hAW (mm_GI hAW gi_105) qw_1056 qw_1057 qw_1058 qw_130) rfl ⟨rfl, hd_105⟩ (mm_rm hRf hRl (Nat.le_of_ble_eq_true rfl)) (by decide +kernel))))
    (ms_b (ms_lf (ms_aload_n hx hb rfl (by decide +kernel)))
    (ms_lf (ms_getf (C := RX11) (T := TX11) (N := 11) hx hb hf hts (fun w h => hAW w (inq_11 w h)) hown hK rfl (by decide) (hts _ (hAW _ qw_855)) rfl (by decide +kernel))))))
    (ms_b (ms_b (ms_b (ms_lf (ms_aload_n hx hb rfl (by decide +kernel)))
    (ms_lf (ms_getf (C := RX11) (T := TX11) (N := 11) hx hb hf hts (fun w h => hAW w (inq_11 w h)) hown hK rfl (by decide) (hts _ (hAW _ qw_855)) rfl (by decide +kernel))))
    (ms_b (ms_lf (ms_iload_n hx hb rfl (by decide +kernel)))
    (ms_lf (ms_iload_n hx hb rfl (by decide +kernel)))))
    (ms_b (ms_b (ms_lf (ms_ivV (C := RX10) (T := TX10) (N := 13) hx hb hml hown hts hgo hEX hf hK rfl (mm_GV hAW (mm_GI hAW gi_107) qw_1069 qw_1070 qw_1071 qw_130) rfl ⟨rfl, hd_107⟩ (mm_rm hRf hRl (Nat.le_of_ble_eq_true rfl)) (by decide +kernel)))
    (ms_lf (ms_iload hx hb (by decide +kernel))))
    (ms_b (ms_lf (ms_ivV (C := RX10) (T := TX10) (N := 13) hx hb hml hown hts hgo hEX hf hK rfl (mm_GV hAW (mm_GI hAW gi_108) qw_1077 qw_1078 qw_1079 qw_130) rfl ⟨rfl, hd_108⟩ (mm_rm hRf hRl (Nat.le_of_ble_eq_true rfl)) (by decide +kernel)))
    (ms_lf (ms_iret hx hb hr hlk (by decide +kernel))))))))
set_option maxRecDepth 100000 in
set_option maxHeartbeats 8000000 in
/-- TippedCrates.cheapest -/
theorem sd_134 (l : Launch) (f : Nat → Nat) (D : va_G) (cA : FieldType → ClassId) (d : Nat) : mm_Ok2 l f D cA d (yX11_cheapest, cX11_cheapest, 3, (some .int), mc_134) := by
  intro p e R s m args below meth c C hRf hRl pc
  obtain ⟨hx, hb, hml, hr, hlk, hnm, hown, hts, hEX, hgo, hf⟩ := C
  obtain ⟨hK, hA, hX, hZs, hZc, hZq, hTx, hSR0, hSR1, hAO, hN⟩ := id hEX
  have hAW : ∀ w ∈ mm_AW, w ∈ (Cond.code yX11_cheapest cX11_cheapest 3 (some .int) :: mm_AW) := fun w h => List.mem_cons_of_mem _ h
  have hown : s.vm.findClass "TippedCrates" = some m.cls := hown
  show mm_S p l e R s m args below meth c f D mm_cl cA 3 _ pc (mc_134 pc)
  unfold mc_134
  exact (ms_b (ms_b (ms_b (ms_b (ms_lf (ms_aload_n hx hb rfl (by decide +kernel)))
    (ms_b (ms_lf (ms_iload_n hx hb rfl (by decide +kernel)))
    (ms_lf (ms_ivV (C := RX11) (T := TX11) (N := 11) hx hb hml hown hts hgo hEX hf hK rfl (mm_GV hAW (mm_GI hAW gi_162) qw_932 qw_934 qw_27 qw_117) rfl ⟨rfl, hd_162⟩ (mm_rm hRf hRl (Nat.le_of_ble_eq_true rfl)) (by decide +kernel)))))
    (ms_b (ms_lf (ms_if_eq hx hb (by decide) (by decide +kernel)))
    (ms_b (ms_lf (ms_aload_n hx hb rfl (by decide +kernel)))
    (ms_lf (ms_iload_n hx hb rfl (by decide +kernel))))))
    (ms_b (ms_b (ms_lf (ms_ivV (C := RX11) (T := TX11) (N := 11) hx hb hml hown hts hgo hEX hf hK rfl (mm_GV hAW (mm_GI hAW gi_163) qw_915 qw_917 qw_26 qw_117) rfl ⟨rfl, hd_163⟩ (mm_rm hRf hRl (Nat.le_of_ble_eq_true rfl)) (by decide +kernel)))
    (ms_b (ms_lf (ms_if_ne hx hb (by decide) (by decide +kernel)))
    (ms_lf (ms_iconst hx hb (by decide) (by decide +kernel)))))
    (ms_b (ms_lf (ms_iret hx hb hr hlk (by decide +kernel)))
    (ms_b (ms_lf (ms_aload_n hx hb rfl (by decide +kernel)))
    (ms_lf (ms_getf (C := RX11) (T := TX11) (N := 11) hx hb hf hts (fun w h => hAW w (inq_11 w h)) hown hK rfl (by decide) (hts _ (hAW _ qw_854)) rfl (by decide +kernel)))))))
    (ms_b (ms_b (ms_b (ms_lf (ms_aload_n hx hb rfl (by decide +kernel)))
    (ms_b (ms_lf (ms_getf (C := RX11) (T := TX11) (N := 11) hx hb hf hts (fun w h => hAW w (inq_11 w h)) hown hK rfl (by decide) (hts _ (hAW _ qw_858)) rfl (by decide +kernel)))
    (ms_lf (ms_iload_n hx hb rfl (by decide +kernel)))))
    (ms_b (ms_lf (ms_ivV (C := RX6) (T := TX6) (N := 5) hx hb hml hown hts hgo hEX hf hK rfl (mm_GV hAW (mm_GI hAW gi_70) qw_1046 qw_1047 qw_1048 qw_129) rfl ⟨rfl, hd_70⟩ (mm_rm hRf hRl (Nat.le_of_ble_eq_true rfl)) (by decide +kernel)))
    (ms_b (ms_lf (ms_aload_n hx hb rfl (by decide +kernel)))
    (ms_lf (ms_getf (C := RX11) (T := TX11) (N := 11) hx hb hf hts (fun w h => hAW w (inq_11 w h)) hown hK rfl (by decide) (hts _ (hAW _ qw_855)) rfl (by decide +kernel))))))
    (ms_b (ms_b (ms_lf (ms_aload_n hx hb rfl (by decide +kernel)))
    (ms_b (ms_lf (ms_getf (C := RX11) (T := TX11) (N := 11) hx hb hf hts (fun w h => hAW w (inq_11 w h)) hown hK rfl (by decide) (hts _ (hAW _ qw_858)) rfl (by decide +kernel)))
    (ms_lf (ms_iload_n hx hb rfl (by decide +kernel)))))
    (ms_b (ms_lf (ms_iload_n hx hb rfl (by decide +kernel)))
    (ms_b (ms_lf (ms_ivV (C := RX10) (T := TX10) (N := 13) hx hb hml hown hts hgo hEX hf hK rfl (mm_GV hAW (mm_GI hAW gi_115) qw_1085 qw_1086 qw_1087 qw_130) rfl ⟨rfl, hd_115⟩ (mm_rm hRf hRl (Nat.le_of_ble_eq_true rfl)) (by decide +kernel)))
    (ms_lf (ms_iret hx hb hr hlk (by decide +kernel))))))))
set_option maxRecDepth 100000 in
set_option maxHeartbeats 8000000 in
/-- TippedCrates.never -/
theorem sd_135 (l : Launch) (f : Nat → Nat) (D : va_G) (cA : FieldType → ClassId) (d : Nat) : mm_Ok2 l f D cA d (yX11_never, cX11_never, 3, (some .int), mc_135) := by
  intro p e R s m args below meth c C hRf hRl pc
  obtain ⟨hx, hb, hml, hr, hlk, hnm, hown, hts, hEX, hgo, hf⟩ := C
  obtain ⟨hK, hA, hX, hZs, hZc, hZq, hTx, hSR0, hSR1, hAO, hN⟩ := id hEX
  have hAW : ∀ w ∈ mm_AW, w ∈ (Cond.code yX11_never cX11_never 3 (some .int) :: mm_AW) := fun w h => List.mem_cons_of_mem _ h
  have hown : s.vm.findClass "TippedCrates" = some m.cls := hown
  show mm_S p l e R s m args below meth c f D mm_cl cA 3 _ pc (mc_135 pc)
  unfold mc_135
  exact (ms_b (ms_b (ms_b (ms_b (ms_lf (ms_aload_n hx hb rfl (by decide +kernel)))
    (ms_b (ms_lf (ms_iload_n hx hb rfl (by decide +kernel)))
    (ms_lf (ms_ivV (C := RX11) (T := TX11) (N := 11) hx hb hml hown hts hgo hEX hf hK rfl (mm_GV hAW (mm_GI hAW gi_162) qw_932 qw_934 qw_27 qw_117) rfl ⟨rfl, hd_162⟩ (mm_rm hRf hRl (Nat.le_of_ble_eq_true rfl)) (by decide +kernel)))))
    (ms_b (ms_b (ms_lf (ms_if_eq hx hb (by decide) (by decide +kernel)))
    (ms_lf (ms_iload_n hx hb rfl (by decide +kernel))))
    (ms_b (ms_lf (ms_ivS hx hb hml hown hts hgo hEX (mm_GS hAW (mm_GI hAW gi_164) qw_1008 qw_1009 qw_117) rfl hd_164 (mm_rm hRf hRl (Nat.le_of_ble_eq_true rfl)) (by decide +kernel)))
    (ms_lf (ms_if_ne hx hb (by decide) (by decide +kernel))))))
    (ms_b (ms_b (ms_lf (ms_iconst hx hb (by decide) (by decide +kernel)))
    (ms_b (ms_lf (ms_iret hx hb hr hlk (by decide +kernel)))
    (ms_lf (ms_aload_n hx hb rfl (by decide +kernel)))))
    (ms_b (ms_b (ms_lf (ms_getf (C := RX11) (T := TX11) (N := 11) hx hb hf hts (fun w h => hAW w (inq_11 w h)) hown hK rfl (by decide) (hts _ (hAW _ qw_854)) rfl (by decide +kernel)))
    (ms_lf (ms_aload_n hx hb rfl (by decide +kernel))))
    (ms_b (ms_lf (ms_getf (C := RX11) (T := TX11) (N := 11) hx hb hf hts (fun w h => hAW w (inq_11 w h)) hown hK rfl (by decide) (hts _ (hAW _ qw_858)) rfl (by decide +kernel)))
    (ms_lf (ms_iload_n hx hb rfl (by decide +kernel)))))))
    (ms_b (ms_b (ms_b (ms_lf (ms_ivV (C := RX6) (T := TX6) (N := 5) hx hb hml hown hts hgo hEX hf hK rfl (mm_GV hAW (mm_GI hAW gi_70) qw_1046 qw_1047 qw_1048 qw_129) rfl ⟨rfl, hd_70⟩ (mm_rm hRf hRl (Nat.le_of_ble_eq_true rfl)) (by decide +kernel)))
    (ms_b (ms_lf (ms_aload_n hx hb rfl (by decide +kernel)))
    (ms_lf (ms_getf (C := RX11) (T := TX11) (N := 11) hx hb hf hts (fun w h => hAW w (inq_11 w h)) hown hK rfl (by decide) (hts _ (hAW _ qw_855)) rfl (by decide +kernel)))))
    (ms_b (ms_b (ms_lf (ms_ivV (C := RX10) (T := TX10) (N := 13) hx hb hml hown hts hgo hEX hf hK rfl (mm_GV hAW (mm_GI hAW gi_105) qw_1056 qw_1057 qw_1058 qw_130) rfl ⟨rfl, hd_105⟩ (mm_rm hRf hRl (Nat.le_of_ble_eq_true rfl)) (by decide +kernel)))
    (ms_lf (ms_aload_n hx hb rfl (by decide +kernel))))
    (ms_b (ms_lf (ms_getf (C := RX11) (T := TX11) (N := 11) hx hb hf hts (fun w h => hAW w (inq_11 w h)) hown hK rfl (by decide) (hts _ (hAW _ qw_850)) rfl (by decide +kernel)))
    (ms_lf (ms_ivV (C := RX3) (T := TX3) (N := 12) hx hb hml hown hts hgo hEX hf hK rfl (mm_GV hAW (mm_GI hAW gi_32) qw_1113 qw_1114 qw_1115 qw_123) rfl ⟨rfl, hd_32⟩ (mm_rm hRf hRl (Nat.le_of_ble_eq_true rfl)) (by decide +kernel))))))
    (ms_b (ms_b (ms_b (ms_lf (ms_aload_n hx hb rfl (by decide +kernel)))
    (ms_lf (ms_getf (C := RX11) (T := TX11) (N := 11) hx hb hf hts (fun w h => hAW w (inq_11 w h)) hown hK rfl (by decide) (hts _ (hAW _ qw_855)) rfl (by decide +kernel))))
    (ms_b (ms_lf (ms_iload_n hx hb rfl (by decide +kernel)))
    (ms_lf (ms_ivV (C := RX10) (T := TX10) (N := 13) hx hb hml hown hts hgo hEX hf hK rfl (mm_GV hAW (mm_GI hAW gi_109) qw_1117 qw_1118 qw_1119 qw_130) rfl ⟨rfl, hd_109⟩ (mm_rm hRf hRl (Nat.le_of_ble_eq_true rfl)) (by decide +kernel)))))
    (ms_b (ms_b (ms_lf (ms_iconst hx hb (by decide) (by decide +kernel)))
    (ms_lf (ms_ixor hx hb (by decide +kernel))))
    (ms_b (ms_lf (ms_iand hx hb (by decide +kernel)))
    (ms_lf (ms_iret hx hb hr hlk (by decide +kernel))))))))
set_option maxRecDepth 100000 in
set_option maxHeartbeats 8000000 in
/-- TippedCrates.nearest -/
theorem sd_136 (l : Launch) (f : Nat → Nat) (D : va_G) (cA : FieldType → ClassId) (d : Nat) : mm_Ok2 l f D cA d (yX11_nearest, cX11_nearest, 4, (some .int), mc_136) := by
  intro p e R s m args below meth c C hRf hRl pc
  obtain ⟨hx, hb, hml, hr, hlk, hnm, hown, hts, hEX, hgo, hf⟩ := C
  obtain ⟨hK, hA, hX, hZs, hZc, hZq, hTx, hSR0, hSR1, hAO, hN⟩ := id hEX
  have hAW : ∀ w ∈ mm_AW, w ∈ (Cond.code yX11_nearest cX11_nearest 4 (some .int) :: mm_AW) := fun w h => List.mem_cons_of_mem _ h
  have hown : s.vm.findClass "TippedCrates" = some m.cls := hown
  show mm_S p l e R s m args below meth c f D mm_cl cA 4 _ pc (mc_136 pc)
  unfold mc_136
  exact (ms_b (ms_b (ms_b (ms_b (ms_lf (ms_aload_n hx hb rfl (by decide +kernel)))
    (ms_b (ms_lf (ms_iload_n hx hb rfl (by decide +kernel)))
    (ms_lf (ms_ivV (C := RX11) (T := TX11) (N := 11) hx hb hml hown hts hgo hEX hf hK rfl (mm_GV hAW (mm_GI hAW gi_162) qw_932 qw_934 qw_27 qw_117) rfl ⟨rfl, hd_162⟩ (mm_rm hRf hRl (Nat.le_of_ble_eq_true rfl)) (by decide +kernel)))))
    (ms_b (ms_b (ms_lf (ms_if_eq hx hb (by decide) (by decide +kernel)))
    (ms_lf (ms_iload_n hx hb rfl (by decide +kernel))))
    (ms_b (ms_lf (ms_ivS hx hb hml hown hts hgo hEX (mm_GS hAW (mm_GI hAW gi_164) qw_1008 qw_1009 qw_117) rfl hd_164 (mm_rm hRf hRl (Nat.le_of_ble_eq_true rfl)) (by decide +kernel)))
    (ms_lf (ms_if_eq hx hb (by decide) (by decide +kernel))))))
    (ms_b (ms_b (ms_lf (ms_iload_n hx hb rfl (by decide +kernel)))
    (ms_b (ms_lf (ms_iconst hx hb (by decide) (by decide +kernel)))
    (ms_lf (ms_iconst hx hb (by decide) (by decide +kernel)))))
    (ms_b (ms_b (ms_lf (ms_ivS hx hb hml hown hts hgo hEX (mm_GS hAW (mm_GI hAW gi_166) qw_919 qw_748 qw_117) rfl hd_166 (mm_rm hRf hRl (Nat.le_of_ble_eq_true rfl)) (by decide +kernel)))
    (ms_lf (ms_if_ne hx hb (by decide) (by decide +kernel))))
    (ms_b (ms_lf (ms_iconst hx hb (by decide) (by decide +kernel)))
    (ms_lf (ms_iret hx hb hr hlk (by decide +kernel)))))))
    (ms_b (ms_b (ms_b (ms_lf (ms_aload_n hx hb rfl (by decide +kernel)))
    (ms_b (ms_lf (ms_getf (C := RX11) (T := TX11) (N := 11) hx hb hf hts (fun w h => hAW w (inq_11 w h)) hown hK rfl (by decide) (hts _ (hAW _ qw_854)) rfl (by decide +kernel)))
    (ms_lf (ms_aload_n hx hb rfl (by decide +kernel)))))
    (ms_b (ms_b (ms_lf (ms_getf (C := RX11) (T := TX11) (N := 11) hx hb hf hts (fun w h => hAW w (inq_11 w h)) hown hK rfl (by decide) (hts _ (hAW _ qw_858)) rfl (by decide +kernel)))
    (ms_lf (ms_iload_n hx hb rfl (by decide +kernel))))
    (ms_b (ms_lf (ms_ivV (C := RX6) (T := TX6) (N := 5) hx hb hml hown hts hgo hEX hf hK rfl (mm_GV hAW (mm_GI hAW gi_70) qw_1046 qw_1047 qw_1048 qw_129) rfl ⟨rfl, hd_70⟩ (mm_rm hRf hRl (Nat.le_of_ble_eq_true rfl)) (by decide +kernel)))
    (ms_lf (ms_aload_n hx hb rfl (by decide +kernel))))))
    (ms_b (ms_b (ms_b (ms_lf (ms_getf (C := RX11) (T := TX11) (N := 11) hx hb hf hts (fun w h => hAW w (inq_11 w h)) hown hK rfl (by decide) (hts _ (hAW _ qw_855)) rfl (by decide +kernel)))
    (ms_lf (ms_ivV (C := RX10) (T := TX10) (N := 13) hx hb hml hown hts hgo hEX hf hK rfl (mm_GV hAW (mm_GI hAW gi_105) qw_1056 qw_1057 qw_1058 qw_130) rfl ⟨rfl, hd_105⟩ (mm_rm hRf hRl (Nat.le_of_ble_eq_true rfl)) (by decide +kernel))))
    (ms_b (ms_lf (ms_aload_n hx hb rfl (by decide +kernel)))
    (ms_lf (ms_getf (C := RX11) (T := TX11) (N := 11) hx hb hf hts (fun w h => hAW w (inq_11 w h)) hown hK rfl (by decide) (hts _ (hAW _ qw_855)) rfl (by decide +kernel)))))
    (ms_b (ms_b (ms_lf (ms_iload_n hx hb rfl (by decide +kernel)))
    (ms_lf (ms_iload_n hx hb rfl (by decide +kernel))))
    (ms_b (ms_lf (ms_ivV (C := RX10) (T := TX10) (N := 13) hx hb hml hown hts hgo hEX hf hK rfl (mm_GV hAW (mm_GI hAW gi_110) qw_1125 qw_1126 qw_1127 qw_130) rfl ⟨rfl, hd_110⟩ (mm_rm hRf hRl (Nat.le_of_ble_eq_true rfl)) (by decide +kernel)))
    (ms_lf (ms_iret hx hb hr hlk (by decide +kernel))))))))
set_option maxRecDepth 100000 in
set_option maxHeartbeats 8000000 in
/-- TippedCrates.spots -/
theorem sd_137 (l : Launch) (f : Nat → Nat) (D : va_G) (cA : FieldType → ClassId) (d : Nat) : mm_Ok2 l f D cA d (yX11_spots, cX11_spots, 2, (some .int), mc_137) := by
  intro p e R s m args below meth c C hRf hRl pc
  obtain ⟨hx, hb, hml, hr, hlk, hnm, hown, hts, hEX, hgo, hf⟩ := C
  obtain ⟨hK, hA, hX, hZs, hZc, hZq, hTx, hSR0, hSR1, hAO, hN⟩ := id hEX
  have hAW : ∀ w ∈ mm_AW, w ∈ (Cond.code yX11_spots cX11_spots 2 (some .int) :: mm_AW) := fun w h => List.mem_cons_of_mem _ h
  have hown : s.vm.findClass "TippedCrates" = some m.cls := hown
  show mm_S p l e R s m args below meth c f D mm_cl cA 2 _ pc (mc_137 pc)
  unfold mc_137
  exact (ms_b (ms_b (ms_b (ms_b (ms_lf (ms_aload_n hx hb rfl (by decide +kernel)))
    (ms_lf (ms_iload_n hx hb rfl (by decide +kernel))))
    (ms_b (ms_lf (ms_ivV (C := RX11) (T := TX11) (N := 11) hx hb hml hown hts hgo hEX hf hK rfl (mm_GV hAW (mm_GI hAW gi_162) qw_932 qw_934 qw_27 qw_117) rfl ⟨rfl, hd_162⟩ (mm_rm hRf hRl (Nat.le_of_ble_eq_true rfl)) (by decide +kernel)))
    (ms_lf (ms_if_ne hx hb (by decide) (by decide +kernel)))))
    (ms_b (ms_b (ms_lf (ms_iconst hx hb (by decide) (by decide +kernel)))
    (ms_lf (ms_iret hx hb hr hlk (by decide +kernel))))
    (ms_b (ms_lf (ms_aload_n hx hb rfl (by decide +kernel)))
    (ms_b (ms_lf (ms_getf (C := RX11) (T := TX11) (N := 11) hx hb hf hts (fun w h => hAW w (inq_11 w h)) hown hK rfl (by decide) (hts _ (hAW _ qw_854)) rfl (by decide +kernel)))
    (ms_lf (ms_aload_n hx hb rfl (by decide +kernel)))))))
    (ms_b (ms_b (ms_b (ms_lf (ms_getf (C := RX11) (T := TX11) (N := 11) hx hb hf hts (fun w h => hAW w (inq_11 w h)) hown hK rfl (by decide) (hts _ (hAW _ qw_858)) rfl (by decide +kernel)))
    (ms_lf (ms_iload_n hx hb rfl (by decide +kernel))))
    (ms_b (ms_lf (ms_ivV (C := RX6) (T := TX6) (N := 5) hx hb hml hown hts hgo hEX hf hK rfl (mm_GV hAW (mm_GI hAW gi_70) qw_1046 qw_1047 qw_1048 qw_129) rfl ⟨rfl, hd_70⟩ (mm_rm hRf hRl (Nat.le_of_ble_eq_true rfl)) (by decide +kernel)))
    (ms_b (ms_lf (ms_aload_n hx hb rfl (by decide +kernel)))
    (ms_lf (ms_getf (C := RX11) (T := TX11) (N := 11) hx hb hf hts (fun w h => hAW w (inq_11 w h)) hown hK rfl (by decide) (hts _ (hAW _ qw_855)) rfl (by decide +kernel))))))
    (ms_b (ms_b (ms_lf (ms_ivV (C := RX10) (T := TX10) (N := 13) hx hb hml hown hts hgo hEX hf hK rfl (mm_GV hAW (mm_GI hAW gi_105) qw_1056 qw_1057 qw_1058 qw_130) rfl ⟨rfl, hd_105⟩ (mm_rm hRf hRl (Nat.le_of_ble_eq_true rfl)) (by decide +kernel)))
    (ms_lf (ms_aload_n hx hb rfl (by decide +kernel))))
    (ms_b (ms_lf (ms_getf (C := RX11) (T := TX11) (N := 11) hx hb hf hts (fun w h => hAW w (inq_11 w h)) hown hK rfl (by decide) (hts _ (hAW _ qw_855)) rfl (by decide +kernel)))
    (ms_b (ms_lf (ms_getf (C := RX10) (T := TX10) (N := 13) hx hb hf hts (fun w h => hAW w (inq_10 w h)) hown hK rfl (by decide) (hts _ (hAW _ qw_467)) rfl (by decide +kernel)))
    (ms_lf (ms_iret hx hb hr hlk (by decide +kernel))))))))
set_option maxRecDepth 100000 in
set_option maxHeartbeats 8000000 in
/-- TippedCrates.round -/
theorem sd_138 (l : Launch) (f : Nat → Nat) (D : va_G) (cA : FieldType → ClassId) (d : Nat) : mm_Ok2 l f D cA d (yX11_round, cX11_round, 3, (some .int), mc_138) := by
  intro p e R s m args below meth c C hRf hRl pc
  obtain ⟨hx, hb, hml, hr, hlk, hnm, hown, hts, hEX, hgo, hf⟩ := C
  obtain ⟨hK, hA, hX, hZs, hZc, hZq, hTx, hSR0, hSR1, hAO, hN⟩ := id hEX
  have hAW : ∀ w ∈ mm_AW, w ∈ (Cond.code yX11_round cX11_round 3 (some .int) :: mm_AW) := fun w h => List.mem_cons_of_mem _ h
  have hown : s.vm.findClass "TippedCrates" = some m.cls := hown
  show mm_S p l e R s m args below meth c f D mm_cl cA 3 _ pc (mc_138 pc)
  unfold mc_138
  exact (ms_b (ms_b (ms_b (ms_b (ms_lf (ms_aload_n hx hb rfl (by decide +kernel)))
    (ms_b (ms_lf (ms_iload_n hx hb rfl (by decide +kernel)))
    (ms_lf (ms_ivV (C := RX11) (T := TX11) (N := 11) hx hb hml hown hts hgo hEX hf hK rfl (mm_GV hAW (mm_GI hAW gi_162) qw_932 qw_934 qw_27 qw_117) rfl ⟨rfl, hd_162⟩ (mm_rm hRf hRl (Nat.le_of_ble_eq_true rfl)) (by decide +kernel)))))
    (ms_b (ms_b (ms_lf (ms_if_eq hx hb (by decide) (by decide +kernel)))
    (ms_lf (ms_iload_n hx hb rfl (by decide +kernel))))
    (ms_b (ms_lf (ms_iconst hx hb (by decide) (by decide +kernel)))
    (ms_lf (ms_iconst hx hb (by decide) (by decide +kernel))))))
    (ms_b (ms_b (ms_b (ms_lf (ms_ivS hx hb hml hown hts hgo hEX (mm_GS hAW (mm_GI hAW gi_166) qw_919 qw_748 qw_117) rfl hd_166 (mm_rm hRf hRl (Nat.le_of_ble_eq_true rfl)) (by decide +kernel)))
    (ms_lf (ms_if_ne hx hb (by decide) (by decide +kernel))))
    (ms_b (ms_lf (ms_iconst hx hb (by decide) (by decide +kernel)))
    (ms_lf (ms_iret hx hb hr hlk (by decide +kernel)))))
    (ms_b (ms_b (ms_lf (ms_aload_n hx hb rfl (by decide +kernel)))
    (ms_lf (ms_getf (C := RX11) (T := TX11) (N := 11) hx hb hf hts (fun w h => hAW w (inq_11 w h)) hown hK rfl (by decide) (hts _ (hAW _ qw_854)) rfl (by decide +kernel))))
    (ms_b (ms_lf (ms_aload_n hx hb rfl (by decide +kernel)))
    (ms_lf (ms_getf (C := RX11) (T := TX11) (N := 11) hx hb hf hts (fun w h => hAW w (inq_11 w h)) hown hK rfl (by decide) (hts _ (hAW _ qw_858)) rfl (by decide +kernel)))))))
    (ms_b (ms_b (ms_b (ms_lf (ms_iload_n hx hb rfl (by decide +kernel)))
    (ms_b (ms_lf (ms_ivV (C := RX6) (T := TX6) (N := 5) hx hb hml hown hts hgo hEX hf hK rfl (mm_GV hAW (mm_GI hAW gi_70) qw_1046 qw_1047 qw_1048 qw_129) rfl ⟨rfl, hd_70⟩ (mm_rm hRf hRl (Nat.le_of_ble_eq_true rfl)) (by decide +kernel)))
    (ms_lf (ms_aload_n hx hb rfl (by decide +kernel)))))
    (ms_b (ms_b (ms_lf (ms_getf (C := RX11) (T := TX11) (N := 11) hx hb hf hts (fun w h => hAW w (inq_11 w h)) hown hK rfl (by decide) (hts _ (hAW _ qw_855)) rfl (by decide +kernel)))
    (ms_lf (ms_ivV (C := RX10) (T := TX10) (N := 13) hx hb hml hown hts hgo hEX hf hK rfl (mm_GV hAW (mm_GI hAW gi_105) qw_1056 qw_1057 qw_1058 qw_130) rfl ⟨rfl, hd_105⟩ (mm_rm hRf hRl (Nat.le_of_ble_eq_true rfl)) (by decide +kernel))))
    (ms_b (ms_lf (ms_iload_n hx hb rfl (by decide +kernel)))
    (ms_lf (ms_if_ne hx hb (by decide) (by decide +kernel))))))
    (ms_b (ms_b (ms_b (ms_lf (ms_aload_n hx hb rfl (by decide +kernel)))
    (ms_lf (ms_getf (C := RX11) (T := TX11) (N := 11) hx hb hf hts (fun w h => hAW w (inq_11 w h)) hown hK rfl (by decide) (hts _ (hAW _ qw_855)) rfl (by decide +kernel))))
    (ms_b (ms_lf (ms_ivV (C := RX10) (T := TX10) (N := 13) hx hb hml hown hts hgo hEX hf hK rfl (mm_GV hAW (mm_GI hAW gi_111) qw_1137 qw_1138 qw_1139 qw_130) rfl ⟨rfl, hd_111⟩ (mm_rm hRf hRl (Nat.le_of_ble_eq_true rfl)) (by decide +kernel)))
    (ms_lf (ms_goto hx hb (by decide) (by decide +kernel)))))
    (ms_b (ms_b (ms_lf (ms_aload_n hx hb rfl (by decide +kernel)))
    (ms_lf (ms_getf (C := RX11) (T := TX11) (N := 11) hx hb hf hts (fun w h => hAW w (inq_11 w h)) hown hK rfl (by decide) (hts _ (hAW _ qw_855)) rfl (by decide +kernel))))
    (ms_b (ms_lf (ms_ivV (C := RX10) (T := TX10) (N := 13) hx hb hml hown hts hgo hEX hf hK rfl (mm_GV hAW (mm_GI hAW gi_112) qw_1141 qw_1142 qw_1143 qw_130) rfl ⟨rfl, hd_112⟩ (mm_rm hRf hRl (Nat.le_of_ble_eq_true rfl)) (by decide +kernel)))
    (ms_lf (ms_iret hx hb hr hlk (by decide +kernel))))))))
set_option maxRecDepth 100000 in
set_option maxHeartbeats 8000000 in
/-- TippedCrates.richest -/
theorem sd_139 (l : Launch) (f : Nat → Nat) (D : va_G) (cA : FieldType → ClassId) (d : Nat) : mm_Ok2 l f D cA d (yX11_richest, cX11_richest, 4, (some .int), mc_139) := by
  intro p e R s m args below meth c C hRf hRl pc
  obtain ⟨hx, hb, hml, hr, hlk, hnm, hown, hts, hEX, hgo, hf⟩ := C
  obtain ⟨hK, hA, hX, hZs, hZc, hZq, hTx, hSR0, hSR1, hAO, hN⟩ := id hEX
  have hAW : ∀ w ∈ mm_AW, w ∈ (Cond.code yX11_richest cX11_richest 4 (some .int) :: mm_AW) := fun w h => List.mem_cons_of_mem _ h
  have hown : s.vm.findClass "TippedCrates" = some m.cls := hown
  show mm_S p l e R s m args below meth c f D mm_cl cA 4 _ pc (mc_139 pc)
  unfold mc_139
  exact (ms_b (ms_b (ms_b (ms_b (ms_lf (ms_aload_n hx hb rfl (by decide +kernel)))
    (ms_b (ms_lf (ms_iload_n hx hb rfl (by decide +kernel)))
    (ms_lf (ms_ivV (C := RX11) (T := TX11) (N := 11) hx hb hml hown hts hgo hEX hf hK rfl (mm_GV hAW (mm_GI hAW gi_162) qw_932 qw_934 qw_27 qw_117) rfl ⟨rfl, hd_162⟩ (mm_rm hRf hRl (Nat.le_of_ble_eq_true rfl)) (by decide +kernel)))))
    (ms_b (ms_b (ms_lf (ms_if_eq hx hb (by decide) (by decide +kernel)))
    (ms_lf (ms_iload_n hx hb rfl (by decide +kernel))))
    (ms_b (ms_lf (ms_iconst hx hb (by decide) (by decide +kernel)))
    (ms_lf (ms_bipush hx hb (by decide) (by decide +kernel))))))
    (ms_b (ms_b (ms_lf (ms_ivS hx hb hml hown hts hgo hEX (mm_GS hAW (mm_GI hAW gi_166) qw_919 qw_748 qw_117) rfl hd_166 (mm_rm hRf hRl (Nat.le_of_ble_eq_true rfl)) (by decide +kernel)))
    (ms_b (ms_lf (ms_if_eq hx hb (by decide) (by decide +kernel)))
    (ms_lf (ms_iload_n hx hb rfl (by decide +kernel)))))
    (ms_b (ms_b (ms_lf (ms_iconst hx hb (by decide) (by decide +kernel)))
    (ms_lf (ms_iconst hx hb (by decide) (by decide +kernel))))
    (ms_b (ms_lf (ms_ivS hx hb hml hown hts hgo hEX (mm_GS hAW (mm_GI hAW gi_166) qw_919 qw_748 qw_117) rfl hd_166 (mm_rm hRf hRl (Nat.le_of_ble_eq_true rfl)) (by decide +kernel)))
    (ms_lf (ms_if_ne hx hb (by decide) (by decide +kernel)))))))
    (ms_b (ms_b (ms_b (ms_lf (ms_iconst hx hb (by decide) (by decide +kernel)))
    (ms_b (ms_lf (ms_iret hx hb hr hlk (by decide +kernel)))
    (ms_lf (ms_aload_n hx hb rfl (by decide +kernel)))))
    (ms_b (ms_b (ms_lf (ms_getf (C := RX11) (T := TX11) (N := 11) hx hb hf hts (fun w h => hAW w (inq_11 w h)) hown hK rfl (by decide) (hts _ (hAW _ qw_854)) rfl (by decide +kernel)))
    (ms_lf (ms_aload_n hx hb rfl (by decide +kernel))))
    (ms_b (ms_lf (ms_getf (C := RX11) (T := TX11) (N := 11) hx hb hf hts (fun w h => hAW w (inq_11 w h)) hown hK rfl (by decide) (hts _ (hAW _ qw_858)) rfl (by decide +kernel)))
    (ms_lf (ms_iload_n hx hb rfl (by decide +kernel))))))
    (ms_b (ms_b (ms_lf (ms_ivV (C := RX6) (T := TX6) (N := 5) hx hb hml hown hts hgo hEX hf hK rfl (mm_GV hAW (mm_GI hAW gi_70) qw_1046 qw_1047 qw_1048 qw_129) rfl ⟨rfl, hd_70⟩ (mm_rm hRf hRl (Nat.le_of_ble_eq_true rfl)) (by decide +kernel)))
    (ms_b (ms_lf (ms_aload_n hx hb rfl (by decide +kernel)))
    (ms_lf (ms_getf (C := RX11) (T := TX11) (N := 11) hx hb hf hts (fun w h => hAW w (inq_11 w h)) hown hK rfl (by decide) (hts _ (hAW _ qw_855)) rfl (by decide +kernel)))))
    (ms_b (ms_b (ms_lf (ms_iload_n hx hb rfl (by decide +kernel)))
    (ms_lf (ms_iload_n hx hb rfl (by decide +kernel))))
    (ms_b (ms_lf (ms_ivV (C := RX10) (T := TX10) (N := 13) hx hb hml hown hts hgo hEX hf hK rfl (mm_GV hAW (mm_GI hAW gi_119) qw_1149 qw_1150 qw_1151 qw_130) rfl ⟨rfl, hd_119⟩ (mm_rm hRf hRl (Nat.le_of_ble_eq_true rfl)) (by decide +kernel)))
    (ms_lf (ms_iret hx hb hr hlk (by decide +kernel))))))))
set_option maxRecDepth 100000 in
set_option maxHeartbeats 8000000 in
/-- TippedCrates.spell -/
theorem sd_140 (l : Launch) (f : Nat → Nat) (D : va_G) (cA : FieldType → ClassId) (d : Nat) : mm_Ok2 l f D cA d (yX11_spell, cX11_spell, 4, (some .int), mc_140) := by
  intro p e R s m args below meth c C hRf hRl pc
  obtain ⟨hx, hb, hml, hr, hlk, hnm, hown, hts, hEX, hgo, hf⟩ := C
  obtain ⟨hK, hA, hX, hZs, hZc, hZq, hTx, hSR0, hSR1, hAO, hN⟩ := id hEX
  have hAW : ∀ w ∈ mm_AW, w ∈ (Cond.code yX11_spell cX11_spell 4 (some .int) :: mm_AW) := fun w h => List.mem_cons_of_mem _ h
  have hown : s.vm.findClass "TippedCrates" = some m.cls := hown
  show mm_S p l e R s m args below meth c f D mm_cl cA 4 _ pc (mc_140 pc)
  unfold mc_140
  exact (ms_b (ms_b (ms_b (ms_b (ms_b (ms_lf (ms_aload_n hx hb rfl (by decide +kernel)))
    (ms_lf (ms_iload_n hx hb rfl (by decide +kernel))))
    (ms_b (ms_lf (ms_ivV (C := RX11) (T := TX11) (N := 11) hx hb hml hown hts hgo hEX hf hK rfl (mm_GV hAW (mm_GI hAW gi_162) qw_932 qw_934 qw_27 qw_117) rfl ⟨rfl, hd_162⟩ (mm_rm hRf hRl (Nat.le_of_ble_eq_true rfl)) (by decide +kernel)))
    (ms_lf (ms_if_eq hx hb (by decide) (by decide +kernel)))))
    (ms_b (ms_b (ms_lf (ms_iload_n hx hb rfl (by decide +kernel)))
    (ms_lf (ms_iconst hx hb (by decide) (by decide +kernel))))
    (ms_b (ms_lf (ms_bipush hx hb (by decide) (by decide +kernel)))
    (ms_lf (ms_ivS hx hb hml hown hts hgo hEX (mm_GS hAW (mm_GI hAW gi_166) qw_919 qw_748 qw_117) rfl hd_166 (mm_rm hRf hRl (Nat.le_of_ble_eq_true rfl)) (by decide +kernel))))))
    (ms_b (ms_b (ms_b (ms_lf (ms_if_ne hx hb (by decide) (by decide +kernel)))
    (ms_lf (ms_iconst hx hb (by decide) (by decide +kernel))))
    (ms_b (ms_lf (ms_iret hx hb hr hlk (by decide +kernel)))
    (ms_lf (ms_iload_n hx hb rfl (by decide +kernel)))))
    (ms_b (ms_b (ms_lf (ms_if_lt hx hb (by decide) (by decide +kernel)))
    (ms_lf (ms_iload_n hx hb rfl (by decide +kernel))))
    (ms_b (ms_lf (ms_gs hx hb hown (hZs 4 _ rfl) (hts _ (hAW _ qw_1162)) rfl (by decide +kernel)))
    (ms_lf (ms_iload_n hx hb rfl (by decide +kernel)))))))
    (ms_b (ms_b (ms_b (ms_b (ms_lf (ms_iald hx hb hf hA hX (by decide +kernel)))
    (ms_lf (ms_ic_lt hx hb (by decide) (by decide +kernel))))
    (ms_b (ms_lf (ms_iconst hx hb (by decide) (by decide +kernel)))
    (ms_lf (ms_iret hx hb hr hlk (by decide +kernel)))))
    (ms_b (ms_b (ms_lf (ms_aload_n hx hb rfl (by decide +kernel)))
    (ms_lf (ms_getf (C := RX11) (T := TX11) (N := 11) hx hb hf hts (fun w h => hAW w (inq_11 w h)) hown hK rfl (by decide) (hts _ (hAW _ qw_854)) rfl (by decide +kernel))))
    (ms_b (ms_lf (ms_aload_n hx hb rfl (by decide +kernel)))
    (ms_lf (ms_getf (C := RX11) (T := TX11) (N := 11) hx hb hf hts (fun w h => hAW w (inq_11 w h)) hown hK rfl (by decide) (hts _ (hAW _ qw_858)) rfl (by decide +kernel))))))
    (ms_b (ms_b (ms_b (ms_lf (ms_iload_n hx hb rfl (by decide +kernel)))
    (ms_lf (ms_ivV (C := RX6) (T := TX6) (N := 5) hx hb hml hown hts hgo hEX hf hK rfl (mm_GV hAW (mm_GI hAW gi_70) qw_1046 qw_1047 qw_1048 qw_129) rfl ⟨rfl, hd_70⟩ (mm_rm hRf hRl (Nat.le_of_ble_eq_true rfl)) (by decide +kernel))))
    (ms_b (ms_lf (ms_aload_n hx hb rfl (by decide +kernel)))
    (ms_lf (ms_getf (C := RX11) (T := TX11) (N := 11) hx hb hf hts (fun w h => hAW w (inq_11 w h)) hown hK rfl (by decide) (hts _ (hAW _ qw_856)) rfl (by decide +kernel)))))
    (ms_b (ms_b (ms_lf (ms_iload_n hx hb rfl (by decide +kernel)))
    (ms_lf (ms_iload_n hx hb rfl (by decide +kernel))))
    (ms_b (ms_lf (ms_ivV (C := RX5) (T := TX5) (N := 11) hx hb hml hown hts hgo hEX hf hK rfl (mm_GV hAW (mm_GI hAW gi_64) qw_1164 qw_1165 qw_1166 qw_131) rfl ⟨rfl, hd_64⟩ (mm_rm hRf hRl (Nat.le_of_ble_eq_true rfl)) (by decide +kernel)))
    (ms_lf (ms_iret hx hb hr hlk (by decide +kernel))))))))
set_option maxRecDepth 100000 in
set_option maxHeartbeats 8000000 in
/-- TippedCrates.game -/
theorem sd_141 (l : Launch) (f : Nat → Nat) (D : va_G) (cA : FieldType → ClassId) (d : Nat) : mm_Ok2 l f D cA d (yX11_game, cX11_game, 5, (some .int), mc_141) := by
  intro p e R s m args below meth c C hRf hRl pc
  obtain ⟨hx, hb, hml, hr, hlk, hnm, hown, hts, hEX, hgo, hf⟩ := C
  obtain ⟨hK, hA, hX, hZs, hZc, hZq, hTx, hSR0, hSR1, hAO, hN⟩ := id hEX
  have hAW : ∀ w ∈ mm_AW, w ∈ (Cond.code yX11_game cX11_game 5 (some .int) :: mm_AW) := fun w h => List.mem_cons_of_mem _ h
  have hown : s.vm.findClass "TippedCrates" = some m.cls := hown
  show mm_S p l e R s m args below meth c f D mm_cl cA 5 _ pc (mc_141 pc)
  unfold mc_141
  exact (ms_b (ms_b (ms_b (ms_b (ms_b (ms_lf (ms_aload_n hx hb rfl (by decide +kernel)))
    (ms_lf (ms_iload_n hx hb rfl (by decide +kernel))))
    (ms_b (ms_lf (ms_ivV (C := RX11) (T := TX11) (N := 11) hx hb hml hown hts hgo hEX hf hK rfl (mm_GV hAW (mm_GI hAW gi_162) qw_932 qw_934 qw_27 qw_117) rfl ⟨rfl, hd_162⟩ (mm_rm hRf hRl (Nat.le_of_ble_eq_true rfl)) (by decide +kernel)))
    (ms_lf (ms_if_eq hx hb (by decide) (by decide +kernel)))))
    (ms_b (ms_b (ms_lf (ms_iload_n hx hb rfl (by decide +kernel)))
    (ms_lf (ms_iconst hx hb (by decide) (by decide +kernel))))
    (ms_b (ms_lf (ms_bipush hx hb (by decide) (by decide +kernel)))
    (ms_b (ms_lf (ms_ivS hx hb hml hown hts hgo hEX (mm_GS hAW (mm_GI hAW gi_166) qw_919 qw_748 qw_117) rfl hd_166 (mm_rm hRf hRl (Nat.le_of_ble_eq_true rfl)) (by decide +kernel)))
    (ms_lf (ms_if_eq hx hb (by decide) (by decide +kernel)))))))
    (ms_b (ms_b (ms_b (ms_lf (ms_iload_n hx hb rfl (by decide +kernel)))
    (ms_lf (ms_iconst hx hb (by decide) (by decide +kernel))))
    (ms_b (ms_lf (ms_iconst hx hb (by decide) (by decide +kernel)))
    (ms_lf (ms_ivS hx hb hml hown hts hgo hEX (mm_GS hAW (mm_GI hAW gi_166) qw_919 qw_748 qw_117) rfl hd_166 (mm_rm hRf hRl (Nat.le_of_ble_eq_true rfl)) (by decide +kernel)))))
    (ms_b (ms_b (ms_lf (ms_if_ne hx hb (by decide) (by decide +kernel)))
    (ms_lf (ms_iconst hx hb (by decide) (by decide +kernel))))
    (ms_b (ms_lf (ms_iret hx hb hr hlk (by decide +kernel)))
    (ms_b (ms_lf (ms_aload_n hx hb rfl (by decide +kernel)))
    (ms_lf (ms_getf (C := RX11) (T := TX11) (N := 11) hx hb hf hts (fun w h => hAW w (inq_11 w h)) hown hK rfl (by decide) (hts _ (hAW _ qw_854)) rfl (by decide +kernel))))))))
    (ms_b (ms_b (ms_b (ms_b (ms_lf (ms_aload_n hx hb rfl (by decide +kernel)))
    (ms_lf (ms_getf (C := RX11) (T := TX11) (N := 11) hx hb hf hts (fun w h => hAW w (inq_11 w h)) hown hK rfl (by decide) (hts _ (hAW _ qw_858)) rfl (by decide +kernel))))
    (ms_b (ms_lf (ms_iload_n hx hb rfl (by decide +kernel)))
    (ms_lf (ms_ivV (C := RX6) (T := TX6) (N := 5) hx hb hml hown hts hgo hEX hf hK rfl (mm_GV hAW (mm_GI hAW gi_70) qw_1046 qw_1047 qw_1048 qw_129) rfl ⟨rfl, hd_70⟩ (mm_rm hRf hRl (Nat.le_of_ble_eq_true rfl)) (by decide +kernel)))))
    (ms_b (ms_b (ms_lf (ms_aload_n hx hb rfl (by decide +kernel)))
    (ms_lf (ms_getf (C := RX11) (T := TX11) (N := 11) hx hb hf hts (fun w h => hAW w (inq_11 w h)) hown hK rfl (by decide) (hts _ (hAW _ qw_856)) rfl (by decide +kernel))))
    (ms_b (ms_lf (ms_iload_n hx hb rfl (by decide +kernel)))
    (ms_b (ms_lf (ms_ivV (C := RX5) (T := TX5) (N := 11) hx hb hml hown hts hgo hEX hf hK rfl (mm_GV hAW (mm_GI hAW gi_66) qw_1179 qw_1180 qw_1181 qw_131) rfl ⟨rfl, hd_66⟩ (mm_rm hRf hRl (Nat.le_of_ble_eq_true rfl)) (by decide +kernel)))
    (ms_lf (ms_istore hx hb (by decide : 4 < 5) (by decide +kernel)))))))
    (ms_b (ms_b (ms_b (ms_lf (ms_iload_n hx hb rfl (by decide +kernel)))
    (ms_lf (ms_if_ne hx hb (by decide) (by decide +kernel))))
    (ms_b (ms_lf (ms_iload hx hb (by decide +kernel)))
    (ms_b (ms_lf (ms_goto hx hb (by decide) (by decide +kernel)))
    (ms_lf (ms_aload_n hx hb rfl (by decide +kernel))))))
    (ms_b (ms_b (ms_lf (ms_getf (C := RX11) (T := TX11) (N := 11) hx hb hf hts (fun w h => hAW w (inq_11 w h)) hown hK rfl (by decide) (hts _ (hAW _ qw_856)) rfl (by decide +kernel)))
    (ms_lf (ms_iload hx hb (by decide +kernel))))
    (ms_b (ms_lf (ms_iload_n hx hb rfl (by decide +kernel)))
    (ms_b (ms_lf (ms_ivV (C := RX5) (T := TX5) (N := 11) hx hb hml hown hts hgo hEX hf hK rfl (mm_GV hAW (mm_GI hAW gi_67) qw_1188 qw_1189 qw_1190 qw_131) rfl ⟨rfl, hd_67⟩ (mm_rm hRf hRl (Nat.le_of_ble_eq_true rfl)) (by decide +kernel)))
    (ms_lf (ms_iret hx hb hr hlk (by decide +kernel)))))))))
set_option maxRecDepth 100000 in
set_option maxHeartbeats 8000000 in
/-- TippedCrates.tops -/
theorem sd_142 (l : Launch) (f : Nat → Nat) (D : va_G) (cA : FieldType → ClassId) (d : Nat) : mm_Ok2 l f D cA d (yX11_tops, cX11_tops, 2, (some .int), mc_142) := by
  intro p e R s m args below meth c C hRf hRl pc
  obtain ⟨hx, hb, hml, hr, hlk, hnm, hown, hts, hEX, hgo, hf⟩ := C
  obtain ⟨hK, hA, hX, hZs, hZc, hZq, hTx, hSR0, hSR1, hAO, hN⟩ := id hEX
  have hAW : ∀ w ∈ mm_AW, w ∈ (Cond.code yX11_tops cX11_tops 2 (some .int) :: mm_AW) := fun w h => List.mem_cons_of_mem _ h
  have hown : s.vm.findClass "TippedCrates" = some m.cls := hown
  show mm_S p l e R s m args below meth c f D mm_cl cA 2 _ pc (mc_142 pc)
  unfold mc_142
  exact (ms_b (ms_b (ms_b (ms_b (ms_lf (ms_aload_n hx hb rfl (by decide +kernel)))
    (ms_lf (ms_iload_n hx hb rfl (by decide +kernel))))
    (ms_b (ms_lf (ms_ivV (C := RX11) (T := TX11) (N := 11) hx hb hml hown hts hgo hEX hf hK rfl (mm_GV hAW (mm_GI hAW gi_162) qw_932 qw_934 qw_27 qw_117) rfl ⟨rfl, hd_162⟩ (mm_rm hRf hRl (Nat.le_of_ble_eq_true rfl)) (by decide +kernel)))
    (ms_lf (ms_if_ne hx hb (by decide) (by decide +kernel)))))
    (ms_b (ms_b (ms_lf (ms_iconst hx hb (by decide) (by decide +kernel)))
    (ms_lf (ms_iret hx hb hr hlk (by decide +kernel))))
    (ms_b (ms_lf (ms_aload_n hx hb rfl (by decide +kernel)))
    (ms_b (ms_lf (ms_getf (C := RX11) (T := TX11) (N := 11) hx hb hf hts (fun w h => hAW w (inq_11 w h)) hown hK rfl (by decide) (hts _ (hAW _ qw_854)) rfl (by decide +kernel)))
    (ms_lf (ms_aload_n hx hb rfl (by decide +kernel)))))))
    (ms_b (ms_b (ms_b (ms_lf (ms_getf (C := RX11) (T := TX11) (N := 11) hx hb hf hts (fun w h => hAW w (inq_11 w h)) hown hK rfl (by decide) (hts _ (hAW _ qw_858)) rfl (by decide +kernel)))
    (ms_lf (ms_iload_n hx hb rfl (by decide +kernel))))
    (ms_b (ms_lf (ms_ivV (C := RX6) (T := TX6) (N := 5) hx hb hml hown hts hgo hEX hf hK rfl (mm_GV hAW (mm_GI hAW gi_70) qw_1046 qw_1047 qw_1048 qw_129) rfl ⟨rfl, hd_70⟩ (mm_rm hRf hRl (Nat.le_of_ble_eq_true rfl)) (by decide +kernel)))
    (ms_b (ms_lf (ms_aload_n hx hb rfl (by decide +kernel)))
    (ms_lf (ms_getf (C := RX11) (T := TX11) (N := 11) hx hb hf hts (fun w h => hAW w (inq_11 w h)) hown hK rfl (by decide) (hts _ (hAW _ qw_855)) rfl (by decide +kernel))))))
    (ms_b (ms_b (ms_lf (ms_ivV (C := RX10) (T := TX10) (N := 13) hx hb hml hown hts hgo hEX hf hK rfl (mm_GV hAW (mm_GI hAW gi_105) qw_1056 qw_1057 qw_1058 qw_130) rfl ⟨rfl, hd_105⟩ (mm_rm hRf hRl (Nat.le_of_ble_eq_true rfl)) (by decide +kernel)))
    (ms_lf (ms_aload_n hx hb rfl (by decide +kernel))))
    (ms_b (ms_lf (ms_getf (C := RX11) (T := TX11) (N := 11) hx hb hf hts (fun w h => hAW w (inq_11 w h)) hown hK rfl (by decide) (hts _ (hAW _ qw_855)) rfl (by decide +kernel)))
    (ms_b (ms_lf (ms_ivV (C := RX10) (T := TX10) (N := 13) hx hb hml hown hts hgo hEX hf hK rfl (mm_GV hAW (mm_GI hAW gi_113) qw_1196 qw_1197 qw_1198 qw_130) rfl ⟨rfl, hd_113⟩ (mm_rm hRf hRl (Nat.le_of_ble_eq_true rfl)) (by decide +kernel)))
    (ms_lf (ms_iret hx hb hr hlk (by decide +kernel))))))))
set_option maxRecDepth 100000 in
set_option maxHeartbeats 8000000 in
/-- TippedCrates.beside -/
theorem sd_143 (l : Launch) (f : Nat → Nat) (D : va_G) (cA : FieldType → ClassId) (d : Nat) : mm_Ok2 l f D cA d (yX11_beside, cX11_beside, 3, (some .int), mc_143) := by
  intro p e R s m args below meth c C hRf hRl pc
  obtain ⟨hx, hb, hml, hr, hlk, hnm, hown, hts, hEX, hgo, hf⟩ := C
  obtain ⟨hK, hA, hX, hZs, hZc, hZq, hTx, hSR0, hSR1, hAO, hN⟩ := id hEX
  have hAW : ∀ w ∈ mm_AW, w ∈ (Cond.code yX11_beside cX11_beside 3 (some .int) :: mm_AW) := fun w h => List.mem_cons_of_mem _ h
  have hown : s.vm.findClass "TippedCrates" = some m.cls := hown
  show mm_S p l e R s m args below meth c f D mm_cl cA 3 _ pc (mc_143 pc)
  unfold mc_143
  exact (ms_b (ms_b (ms_b (ms_b (ms_lf (ms_aload_n hx hb rfl (by decide +kernel)))
    (ms_b (ms_lf (ms_iload_n hx hb rfl (by decide +kernel)))
    (ms_lf (ms_ivV (C := RX11) (T := TX11) (N := 11) hx hb hml hown hts hgo hEX hf hK rfl (mm_GV hAW (mm_GI hAW gi_162) qw_932 qw_934 qw_27 qw_117) rfl ⟨rfl, hd_162⟩ (mm_rm hRf hRl (Nat.le_of_ble_eq_true rfl)) (by decide +kernel)))))
    (ms_b (ms_b (ms_lf (ms_if_eq hx hb (by decide) (by decide +kernel)))
    (ms_lf (ms_aload_n hx hb rfl (by decide +kernel))))
    (ms_b (ms_lf (ms_iload_n hx hb rfl (by decide +kernel)))
    (ms_lf (ms_ivV (C := RX11) (T := TX11) (N := 11) hx hb hml hown hts hgo hEX hf hK rfl (mm_GV hAW (mm_GI hAW gi_162) qw_932 qw_934 qw_27 qw_117) rfl ⟨rfl, hd_162⟩ (mm_rm hRf hRl (Nat.le_of_ble_eq_true rfl)) (by decide +kernel))))))
    (ms_b (ms_b (ms_b (ms_lf (ms_if_eq hx hb (by decide) (by decide +kernel)))
    (ms_lf (ms_iload_n hx hb rfl (by decide +kernel))))
    (ms_b (ms_lf (ms_iload_n hx hb rfl (by decide +kernel)))
    (ms_lf (ms_ic_ne hx hb (by decide) (by decide +kernel)))))
    (ms_b (ms_b (ms_lf (ms_iconst hx hb (by decide) (by decide +kernel)))
    (ms_lf (ms_iret hx hb hr hlk (by decide +kernel))))
    (ms_b (ms_lf (ms_aload_n hx hb rfl (by decide +kernel)))
    (ms_lf (ms_getf (C := RX11) (T := TX11) (N := 11) hx hb hf hts (fun w h => hAW w (inq_11 w h)) hown hK rfl (by decide) (hts _ (hAW _ qw_854)) rfl (by decide +kernel)))))))
    (ms_b (ms_b (ms_b (ms_b (ms_lf (ms_aload_n hx hb rfl (by decide +kernel)))
    (ms_lf (ms_getf (C := RX11) (T := TX11) (N := 11) hx hb hf hts (fun w h => hAW w (inq_11 w h)) hown hK rfl (by decide) (hts _ (hAW _ qw_858)) rfl (by decide +kernel))))
    (ms_b (ms_lf (ms_iload_n hx hb rfl (by decide +kernel)))
    (ms_lf (ms_ivV (C := RX6) (T := TX6) (N := 5) hx hb hml hown hts hgo hEX hf hK rfl (mm_GV hAW (mm_GI hAW gi_70) qw_1046 qw_1047 qw_1048 qw_129) rfl ⟨rfl, hd_70⟩ (mm_rm hRf hRl (Nat.le_of_ble_eq_true rfl)) (by decide +kernel)))))
    (ms_b (ms_b (ms_lf (ms_aload_n hx hb rfl (by decide +kernel)))
    (ms_lf (ms_getf (C := RX11) (T := TX11) (N := 11) hx hb hf hts (fun w h => hAW w (inq_11 w h)) hown hK rfl (by decide) (hts _ (hAW _ qw_855)) rfl (by decide +kernel))))
    (ms_b (ms_lf (ms_ivV (C := RX10) (T := TX10) (N := 13) hx hb hml hown hts hgo hEX hf hK rfl (mm_GV hAW (mm_GI hAW gi_105) qw_1056 qw_1057 qw_1058 qw_130) rfl ⟨rfl, hd_105⟩ (mm_rm hRf hRl (Nat.le_of_ble_eq_true rfl)) (by decide +kernel)))
    (ms_lf (ms_aload_n hx hb rfl (by decide +kernel))))))
    (ms_b (ms_b (ms_b (ms_lf (ms_getf (C := RX11) (T := TX11) (N := 11) hx hb hf hts (fun w h => hAW w (inq_11 w h)) hown hK rfl (by decide) (hts _ (hAW _ qw_855)) rfl (by decide +kernel)))
    (ms_lf (ms_aload_n hx hb rfl (by decide +kernel))))
    (ms_b (ms_lf (ms_getf (C := RX11) (T := TX11) (N := 11) hx hb hf hts (fun w h => hAW w (inq_11 w h)) hown hK rfl (by decide) (hts _ (hAW _ qw_858)) rfl (by decide +kernel)))
    (ms_lf (ms_getf (C := RX7) (T := TX7) (N := 7) hx hb hf hts (fun w h => hAW w (inq_7 w h)) hown hK rfl (by decide) (hts _ (hAW _ qw_570)) rfl (by decide +kernel)))))
    (ms_b (ms_b (ms_lf (ms_iload_n hx hb rfl (by decide +kernel)))
    (ms_lf (ms_iald hx hb hf hA hX (by decide +kernel))))
    (ms_b (ms_lf (ms_ivV (C := RX10) (T := TX10) (N := 13) hx hb hml hown hts hgo hEX hf hK rfl (mm_GV hAW (mm_GI hAW gi_114) qw_1204 qw_1205 qw_1206 qw_130) rfl ⟨rfl, hd_114⟩ (mm_rm hRf hRl (Nat.le_of_ble_eq_true rfl)) (by decide +kernel)))
    (ms_lf (ms_iret hx hb hr hlk (by decide +kernel))))))))
set_option maxRecDepth 100000 in
set_option maxHeartbeats 8000000 in
/-- TippedCrates.alike -/
theorem sd_144 (l : Launch) (f : Nat → Nat) (D : va_G) (cA : FieldType → ClassId) (d : Nat) : mm_Ok2 l f D cA d (yX11_alike, cX11_alike, 3, (some .int), mc_144) := by
  intro p e R s m args below meth c C hRf hRl pc
  obtain ⟨hx, hb, hml, hr, hlk, hnm, hown, hts, hEX, hgo, hf⟩ := C
  obtain ⟨hK, hA, hX, hZs, hZc, hZq, hTx, hSR0, hSR1, hAO, hN⟩ := id hEX
  have hAW : ∀ w ∈ mm_AW, w ∈ (Cond.code yX11_alike cX11_alike 3 (some .int) :: mm_AW) := fun w h => List.mem_cons_of_mem _ h
  have hown : s.vm.findClass "TippedCrates" = some m.cls := hown
  show mm_S p l e R s m args below meth c f D mm_cl cA 3 _ pc (mc_144 pc)
  unfold mc_144
  exact (ms_b (ms_b (ms_b (ms_b (ms_b (ms_lf (ms_aload_n hx hb rfl (by decide +kernel)))
    (ms_lf (ms_iload_n hx hb rfl (by decide +kernel))))
    (ms_b (ms_lf (ms_ivV (C := RX11) (T := TX11) (N := 11) hx hb hml hown hts hgo hEX hf hK rfl (mm_GV hAW (mm_GI hAW gi_162) qw_932 qw_934 qw_27 qw_117) rfl ⟨rfl, hd_162⟩ (mm_rm hRf hRl (Nat.le_of_ble_eq_true rfl)) (by decide +kernel)))
    (ms_lf (ms_if_eq hx hb (by decide) (by decide +kernel)))))
    (ms_b (ms_b (ms_lf (ms_aload_n hx hb rfl (by decide +kernel)))
    (ms_lf (ms_iload_n hx hb rfl (by decide +kernel))))
    (ms_b (ms_lf (ms_ivV (C := RX11) (T := TX11) (N := 11) hx hb hml hown hts hgo hEX hf hK rfl (mm_GV hAW (mm_GI hAW gi_162) qw_932 qw_934 qw_27 qw_117) rfl ⟨rfl, hd_162⟩ (mm_rm hRf hRl (Nat.le_of_ble_eq_true rfl)) (by decide +kernel)))
    (ms_lf (ms_if_ne hx hb (by decide) (by decide +kernel))))))
    (ms_b (ms_b (ms_b (ms_lf (ms_iconst hx hb (by decide) (by decide +kernel)))
    (ms_lf (ms_iret hx hb hr hlk (by decide +kernel))))
    (ms_b (ms_lf (ms_aload_n hx hb rfl (by decide +kernel)))
    (ms_lf (ms_getf (C := RX11) (T := TX11) (N := 11) hx hb hf hts (fun w h => hAW w (inq_11 w h)) hown hK rfl (by decide) (hts _ (hAW _ qw_853)) rfl (by decide +kernel)))))
    (ms_b (ms_b (ms_lf (ms_aload_n hx hb rfl (by decide +kernel)))
    (ms_lf (ms_getf (C := RX11) (T := TX11) (N := 11) hx hb hf hts (fun w h => hAW w (inq_11 w h)) hown hK rfl (by decide) (hts _ (hAW _ qw_858)) rfl (by decide +kernel))))
    (ms_b (ms_lf (ms_getf (C := RX7) (T := TX7) (N := 7) hx hb hf hts (fun w h => hAW w (inq_7 w h)) hown hK rfl (by decide) (hts _ (hAW _ qw_574)) rfl (by decide +kernel)))
    (ms_lf (ms_iload_n hx hb rfl (by decide +kernel)))))))
    (ms_b (ms_b (ms_b (ms_b (ms_lf (ms_ivV (C := RX9) (T := TX9) (N := 4) hx hb hml hown hts hgo hEX hf hK rfl (mm_GV hAW (mm_GI hAW gi_100) qw_1213 qw_1214 qw_1215 qw_127) rfl ⟨rfl, hd_100⟩ (mm_rm hRf hRl (Nat.le_of_ble_eq_true rfl)) (by decide +kernel)))
    (ms_lf (ms_aload_n hx hb rfl (by decide +kernel))))
    (ms_b (ms_lf (ms_getf (C := RX11) (T := TX11) (N := 11) hx hb hf hts (fun w h => hAW w (inq_11 w h)) hown hK rfl (by decide) (hts _ (hAW _ qw_853)) rfl (by decide +kernel)))
    (ms_lf (ms_aload_n hx hb rfl (by decide +kernel)))))
    (ms_b (ms_b (ms_lf (ms_getf (C := RX11) (T := TX11) (N := 11) hx hb hf hts (fun w h => hAW w (inq_11 w h)) hown hK rfl (by decide) (hts _ (hAW _ qw_853)) rfl (by decide +kernel)))
    (ms_lf (ms_aload_n hx hb rfl (by decide +kernel))))
    (ms_b (ms_lf (ms_getf (C := RX11) (T := TX11) (N := 11) hx hb hf hts (fun w h => hAW w (inq_11 w h)) hown hK rfl (by decide) (hts _ (hAW _ qw_858)) rfl (by decide +kernel)))
    (ms_lf (ms_getf (C := RX7) (T := TX7) (N := 7) hx hb hf hts (fun w h => hAW w (inq_7 w h)) hown hK rfl (by decide) (hts _ (hAW _ qw_574)) rfl (by decide +kernel))))))
    (ms_b (ms_b (ms_b (ms_lf (ms_iload_n hx hb rfl (by decide +kernel)))
    (ms_lf (ms_iconst hx hb (by decide) (by decide +kernel))))
    (ms_b (ms_lf (ms_ivV (C := RX9) (T := TX9) (N := 4) hx hb hml hown hts hgo hEX hf hK rfl (mm_GV hAW (mm_GI hAW gi_98) qw_1221 qw_1218 qw_1219 qw_127) rfl ⟨rfl, hd_98⟩ (mm_rm hRf hRl (Nat.le_of_ble_eq_true rfl)) (by decide +kernel)))
    (ms_lf (ms_ivV (C := RX9) (T := TX9) (N := 4) hx hb hml hown hts hgo hEX hf hK rfl (mm_GV hAW (mm_GI hAW gi_101) qw_1222 qw_1223 qw_1224 qw_127) rfl ⟨rfl, hd_101⟩ (mm_rm hRf hRl (Nat.le_of_ble_eq_true rfl)) (by decide +kernel)))))
    (ms_b (ms_b (ms_lf (ms_if_eq hx hb (by decide) (by decide +kernel)))
    (ms_lf (ms_iconst hx hb (by decide) (by decide +kernel))))
    (ms_b (ms_lf (ms_goto hx hb (by decide) (by decide +kernel)))
    (ms_b (ms_lf (ms_iconst hx hb (by decide) (by decide +kernel)))
    (ms_lf (ms_iret hx hb hr hlk (by decide +kernel)))))))))
set_option maxRecDepth 100000 in
set_option maxHeartbeats 8000000 in
/-- TippedCrates.looks -/
theorem sd_145 (l : Launch) (f : Nat → Nat) (D : va_G) (cA : FieldType → ClassId) (d : Nat) : mm_Ok2 l f D cA d (yX11_looks, cX11_looks, 2, (some .int), mc_145) := by
  intro p e R s m args below meth c C hRf hRl pc
  obtain ⟨hx, hb, hml, hr, hlk, hnm, hown, hts, hEX, hgo, hf⟩ := C
  obtain ⟨hK, hA, hX, hZs, hZc, hZq, hTx, hSR0, hSR1, hAO, hN⟩ := id hEX
  have hAW : ∀ w ∈ mm_AW, w ∈ (Cond.code yX11_looks cX11_looks 2 (some .int) :: mm_AW) := fun w h => List.mem_cons_of_mem _ h
  have hown : s.vm.findClass "TippedCrates" = some m.cls := hown
  show mm_S p l e R s m args below meth c f D mm_cl cA 2 _ pc (mc_145 pc)
  unfold mc_145
  exact (ms_b (ms_b (ms_b (ms_b (ms_lf (ms_aload_n hx hb rfl (by decide +kernel)))
    (ms_lf (ms_iload_n hx hb rfl (by decide +kernel))))
    (ms_b (ms_lf (ms_ivV (C := RX11) (T := TX11) (N := 11) hx hb hml hown hts hgo hEX hf hK rfl (mm_GV hAW (mm_GI hAW gi_162) qw_932 qw_934 qw_27 qw_117) rfl ⟨rfl, hd_162⟩ (mm_rm hRf hRl (Nat.le_of_ble_eq_true rfl)) (by decide +kernel)))
    (ms_lf (ms_if_ne hx hb (by decide) (by decide +kernel)))))
    (ms_b (ms_b (ms_lf (ms_iconst hx hb (by decide) (by decide +kernel)))
    (ms_lf (ms_iret hx hb hr hlk (by decide +kernel))))
    (ms_b (ms_lf (ms_aload_n hx hb rfl (by decide +kernel)))
    (ms_lf (ms_getf (C := RX11) (T := TX11) (N := 11) hx hb hf hts (fun w h => hAW w (inq_11 w h)) hown hK rfl (by decide) (hts _ (hAW _ qw_853)) rfl (by decide +kernel))))))
    (ms_b (ms_b (ms_b (ms_lf (ms_aload_n hx hb rfl (by decide +kernel)))
    (ms_lf (ms_getf (C := RX11) (T := TX11) (N := 11) hx hb hf hts (fun w h => hAW w (inq_11 w h)) hown hK rfl (by decide) (hts _ (hAW _ qw_858)) rfl (by decide +kernel))))
    (ms_b (ms_lf (ms_getf (C := RX7) (T := TX7) (N := 7) hx hb hf hts (fun w h => hAW w (inq_7 w h)) hown hK rfl (by decide) (hts _ (hAW _ qw_574)) rfl (by decide +kernel)))
    (ms_lf (ms_iload_n hx hb rfl (by decide +kernel)))))
    (ms_b (ms_b (ms_lf (ms_ivV (C := RX9) (T := TX9) (N := 4) hx hb hml hown hts hgo hEX hf hK rfl (mm_GV hAW (mm_GI hAW gi_100) qw_1213 qw_1214 qw_1215 qw_127) rfl ⟨rfl, hd_100⟩ (mm_rm hRf hRl (Nat.le_of_ble_eq_true rfl)) (by decide +kernel)))
    (ms_lf (ms_aload_n hx hb rfl (by decide +kernel))))
    (ms_b (ms_lf (ms_getf (C := RX11) (T := TX11) (N := 11) hx hb hf hts (fun w h => hAW w (inq_11 w h)) hown hK rfl (by decide) (hts _ (hAW _ qw_853)) rfl (by decide +kernel)))
    (ms_b (ms_lf (ms_ivV (C := RX9) (T := TX9) (N := 4) hx hb hml hown hts hgo hEX hf hK rfl (mm_GV hAW (mm_GI hAW gi_102) qw_1234 qw_1235 qw_1236 qw_127) rfl ⟨rfl, hd_102⟩ (mm_rm hRf hRl (Nat.le_of_ble_eq_true rfl)) (by decide +kernel)))
    (ms_lf (ms_iret hx hb hr hlk (by decide +kernel))))))))
set_option maxRecDepth 100000 in
set_option maxHeartbeats 8000000 in
/-- TippedCrates.mirror -/
theorem sd_146 (l : Launch) (f : Nat → Nat) (D : va_G) (cA : FieldType → ClassId) (d : Nat) : mm_Ok2 l f D cA d (yX11_mirror, cX11_mirror, 2, (some .int), mc_146) := by
  intro p e R s m args below meth c C hRf hRl pc
  obtain ⟨hx, hb, hml, hr, hlk, hnm, hown, hts, hEX, hgo, hf⟩ := C
  obtain ⟨hK, hA, hX, hZs, hZc, hZq, hTx, hSR0, hSR1, hAO, hN⟩ := id hEX
  have hAW : ∀ w ∈ mm_AW, w ∈ (Cond.code yX11_mirror cX11_mirror 2 (some .int) :: mm_AW) := fun w h => List.mem_cons_of_mem _ h
  have hown : s.vm.findClass "TippedCrates" = some m.cls := hown
  show mm_S p l e R s m args below meth c f D mm_cl cA 2 _ pc (mc_146 pc)
  unfold mc_146
  exact (ms_b (ms_b (ms_b (ms_b (ms_lf (ms_aload_n hx hb rfl (by decide +kernel)))
    (ms_b (ms_lf (ms_iload_n hx hb rfl (by decide +kernel)))
    (ms_lf (ms_ivV (C := RX11) (T := TX11) (N := 11) hx hb hml hown hts hgo hEX hf hK rfl (mm_GV hAW (mm_GI hAW gi_162) qw_932 qw_934 qw_27 qw_117) rfl ⟨rfl, hd_162⟩ (mm_rm hRf hRl (Nat.le_of_ble_eq_true rfl)) (by decide +kernel)))))
    (ms_b (ms_b (ms_lf (ms_if_ne hx hb (by decide) (by decide +kernel)))
    (ms_lf (ms_iconst hx hb (by decide) (by decide +kernel))))
    (ms_b (ms_lf (ms_iret hx hb hr hlk (by decide +kernel)))
    (ms_lf (ms_aload_n hx hb rfl (by decide +kernel))))))
    (ms_b (ms_b (ms_lf (ms_getf (C := RX11) (T := TX11) (N := 11) hx hb hf hts (fun w h => hAW w (inq_11 w h)) hown hK rfl (by decide) (hts _ (hAW _ qw_853)) rfl (by decide +kernel)))
    (ms_b (ms_lf (ms_aload_n hx hb rfl (by decide +kernel)))
    (ms_lf (ms_getf (C := RX11) (T := TX11) (N := 11) hx hb hf hts (fun w h => hAW w (inq_11 w h)) hown hK rfl (by decide) (hts _ (hAW _ qw_858)) rfl (by decide +kernel)))))
    (ms_b (ms_b (ms_lf (ms_getf (C := RX7) (T := TX7) (N := 7) hx hb hf hts (fun w h => hAW w (inq_7 w h)) hown hK rfl (by decide) (hts _ (hAW _ qw_574)) rfl (by decide +kernel)))
    (ms_lf (ms_iload_n hx hb rfl (by decide +kernel))))
    (ms_b (ms_lf (ms_ivV (C := RX9) (T := TX9) (N := 4) hx hb hml hown hts hgo hEX hf hK rfl (mm_GV hAW (mm_GI hAW gi_100) qw_1213 qw_1214 qw_1215 qw_127) rfl ⟨rfl, hd_100⟩ (mm_rm hRf hRl (Nat.le_of_ble_eq_true rfl)) (by decide +kernel)))
    (ms_lf (ms_aload_n hx hb rfl (by decide +kernel)))))))
    (ms_b (ms_b (ms_b (ms_lf (ms_getf (C := RX11) (T := TX11) (N := 11) hx hb hf hts (fun w h => hAW w (inq_11 w h)) hown hK rfl (by decide) (hts _ (hAW _ qw_853)) rfl (by decide +kernel)))
    (ms_b (ms_lf (ms_aload_n hx hb rfl (by decide +kernel)))
    (ms_lf (ms_getf (C := RX11) (T := TX11) (N := 11) hx hb hf hts (fun w h => hAW w (inq_11 w h)) hown hK rfl (by decide) (hts _ (hAW _ qw_853)) rfl (by decide +kernel)))))
    (ms_b (ms_b (ms_lf (ms_aload_n hx hb rfl (by decide +kernel)))
    (ms_lf (ms_getf (C := RX11) (T := TX11) (N := 11) hx hb hf hts (fun w h => hAW w (inq_11 w h)) hown hK rfl (by decide) (hts _ (hAW _ qw_858)) rfl (by decide +kernel))))
    (ms_b (ms_lf (ms_getf (C := RX7) (T := TX7) (N := 7) hx hb hf hts (fun w h => hAW w (inq_7 w h)) hown hK rfl (by decide) (hts _ (hAW _ qw_574)) rfl (by decide +kernel)))
    (ms_lf (ms_iload_n hx hb rfl (by decide +kernel))))))
    (ms_b (ms_b (ms_lf (ms_ivV (C := RX9) (T := TX9) (N := 4) hx hb hml hown hts hgo hEX hf hK rfl (mm_GV hAW (mm_GI hAW gi_99) qw_1242 qw_1243 qw_1244 qw_127) rfl ⟨rfl, hd_99⟩ (mm_rm hRf hRl (Nat.le_of_ble_eq_true rfl)) (by decide +kernel)))
    (ms_b (ms_lf (ms_ivV (C := RX9) (T := TX9) (N := 4) hx hb hml hown hts hgo hEX hf hK rfl (mm_GV hAW (mm_GI hAW gi_101) qw_1222 qw_1223 qw_1224 qw_127) rfl ⟨rfl, hd_101⟩ (mm_rm hRf hRl (Nat.le_of_ble_eq_true rfl)) (by decide +kernel)))
    (ms_lf (ms_if_eq hx hb (by decide) (by decide +kernel)))))
    (ms_b (ms_b (ms_lf (ms_iconst hx hb (by decide) (by decide +kernel)))
    (ms_lf (ms_goto hx hb (by decide) (by decide +kernel))))
    (ms_b (ms_lf (ms_iconst hx hb (by decide) (by decide +kernel)))
    (ms_lf (ms_iret hx hb hr hlk (by decide +kernel))))))))
set_option maxRecDepth 100000 in
set_option maxHeartbeats 8000000 in
/-- TippedCrates.then -/
theorem sd_147 (l : Launch) (f : Nat → Nat) (D : va_G) (cA : FieldType → ClassId) (d : Nat) : mm_Ok2 l f D cA d (yX11_then, cX11_then, 4, (some .int), mc_147) := by
  intro p e R s m args below meth c C hRf hRl pc
  obtain ⟨hx, hb, hml, hr, hlk, hnm, hown, hts, hEX, hgo, hf⟩ := C
  obtain ⟨hK, hA, hX, hZs, hZc, hZq, hTx, hSR0, hSR1, hAO, hN⟩ := id hEX
  have hAW : ∀ w ∈ mm_AW, w ∈ (Cond.code yX11_then cX11_then 4 (some .int) :: mm_AW) := fun w h => List.mem_cons_of_mem _ h
  have hown : s.vm.findClass "TippedCrates" = some m.cls := hown
  show mm_S p l e R s m args below meth c f D mm_cl cA 4 _ pc (mc_147 pc)
  unfold mc_147
  exact (ms_b (ms_b (ms_b (ms_b (ms_b (ms_lf (ms_aload_n hx hb rfl (by decide +kernel)))
    (ms_lf (ms_iload_n hx hb rfl (by decide +kernel))))
    (ms_b (ms_lf (ms_ivV (C := RX11) (T := TX11) (N := 11) hx hb hml hown hts hgo hEX hf hK rfl (mm_GV hAW (mm_GI hAW gi_162) qw_932 qw_934 qw_27 qw_117) rfl ⟨rfl, hd_162⟩ (mm_rm hRf hRl (Nat.le_of_ble_eq_true rfl)) (by decide +kernel)))
    (ms_lf (ms_if_eq hx hb (by decide) (by decide +kernel)))))
    (ms_b (ms_b (ms_lf (ms_iload_n hx hb rfl (by decide +kernel)))
    (ms_lf (ms_iconst hx hb (by decide) (by decide +kernel))))
    (ms_b (ms_lf (ms_bipush hx hb (by decide) (by decide +kernel)))
    (ms_lf (ms_ivS hx hb hml hown hts hgo hEX (mm_GS hAW (mm_GI hAW gi_166) qw_919 qw_748 qw_117) rfl hd_166 (mm_rm hRf hRl (Nat.le_of_ble_eq_true rfl)) (by decide +kernel))))))
    (ms_b (ms_b (ms_b (ms_lf (ms_if_eq hx hb (by decide) (by decide +kernel)))
    (ms_lf (ms_iload_n hx hb rfl (by decide +kernel))))
    (ms_b (ms_lf (ms_iconst hx hb (by decide) (by decide +kernel)))
    (ms_lf (ms_iconst hx hb (by decide) (by decide +kernel)))))
    (ms_b (ms_b (ms_lf (ms_ivS hx hb hml hown hts hgo hEX (mm_GS hAW (mm_GI hAW gi_166) qw_919 qw_748 qw_117) rfl hd_166 (mm_rm hRf hRl (Nat.le_of_ble_eq_true rfl)) (by decide +kernel)))
    (ms_lf (ms_if_ne hx hb (by decide) (by decide +kernel))))
    (ms_b (ms_lf (ms_iconst hx hb (by decide) (by decide +kernel)))
    (ms_b (ms_lf (ms_iret hx hb hr hlk (by decide +kernel)))
    (ms_lf (ms_aload_n hx hb rfl (by decide +kernel))))))))
    (ms_b (ms_b (ms_b (ms_b (ms_lf (ms_iload_n hx hb rfl (by decide +kernel)))
    (ms_lf (ms_aload_n hx hb rfl (by decide +kernel))))
    (ms_b (ms_lf (ms_getf (C := RX11) (T := TX11) (N := 11) hx hb hf hts (fun w h => hAW w (inq_11 w h)) hown hK rfl (by decide) (hts _ (hAW _ qw_850)) rfl (by decide +kernel)))
    (ms_lf (ms_getf (C := RX3) (T := TX3) (N := 12) hx hb hf hts (fun w h => hAW w (inq_3 w h)) hown hK rfl (by decide) (hts _ (hAW _ qw_271)) rfl (by decide +kernel)))))
    (ms_b (ms_b (ms_lf (ms_ivV (C := RX11) (T := TX11) (N := 11) hx hb hml hown hts hgo hEX hf hK rfl (mm_GV hAW (mm_GI hAW gi_160) qw_1250 qw_1252 qw_37 qw_117) rfl ⟨rfl, hd_160⟩ (mm_rm hRf hRl (Nat.le_of_ble_eq_true rfl)) (by decide +kernel)))
    (ms_lf (ms_iload_n hx hb rfl (by decide +kernel))))
    (ms_b (ms_lf (ms_if_ne hx hb (by decide) (by decide +kernel)))
    (ms_b (ms_lf (ms_aload_n hx hb rfl (by decide +kernel)))
    (ms_lf (ms_getf (C := RX11) (T := TX11) (N := 11) hx hb hf hts (fun w h => hAW w (inq_11 w h)) hown hK rfl (by decide) (hts _ (hAW _ qw_859)) rfl (by decide +kernel)))))))
    (ms_b (ms_b (ms_b (ms_lf (ms_getf (C := RX7) (T := TX7) (N := 7) hx hb hf hts (fun w h => hAW w (inq_7 w h)) hown hK rfl (by decide) (hts _ (hAW _ qw_570)) rfl (by decide +kernel)))
    (ms_lf (ms_iload_n hx hb rfl (by decide +kernel))))
    (ms_b (ms_lf (ms_iald hx hb hf hA hX (by decide +kernel)))
    (ms_lf (ms_goto hx hb (by decide) (by decide +kernel)))))
    (ms_b (ms_b (ms_lf (ms_aload_n hx hb rfl (by decide +kernel)))
    (ms_lf (ms_getf (C := RX11) (T := TX11) (N := 11) hx hb hf hts (fun w h => hAW w (inq_11 w h)) hown hK rfl (by decide) (hts _ (hAW _ qw_859)) rfl (by decide +kernel))))
    (ms_b (ms_lf (ms_iload_n hx hb rfl (by decide +kernel)))
    (ms_b (ms_lf (ms_ivV (C := RX7) (T := TX7) (N := 7) hx hb hml hown hts hgo hEX hf hK rfl (mm_GV hAW (mm_GI hAW gi_78) qw_1255 qw_1256 qw_1257 qw_133) rfl ⟨rfl, hd_78⟩ (mm_rm hRf hRl (Nat.le_of_ble_eq_true rfl)) (by decide +kernel)))
    (ms_lf (ms_iret hx hb hr hlk (by decide +kernel)))))))))
set_option maxRecDepth 100000 in
set_option maxHeartbeats 8000000 in
/-- TippedCrates.flagIn -/
theorem sd_148 (l : Launch) (f : Nat → Nat) (D : va_G) (cA : FieldType → ClassId) (d : Nat) : mm_Ok2 l f D cA d (yX11_flagIn, cX11_flagIn, 3, (some .int), mc_148) := by
  intro p e R s m args below meth c C hRf hRl pc
  obtain ⟨hx, hb, hml, hr, hlk, hnm, hown, hts, hEX, hgo, hf⟩ := C
  obtain ⟨hK, hA, hX, hZs, hZc, hZq, hTx, hSR0, hSR1, hAO, hN⟩ := id hEX
  have hAW : ∀ w ∈ mm_AW, w ∈ (Cond.code yX11_flagIn cX11_flagIn 3 (some .int) :: mm_AW) := fun w h => List.mem_cons_of_mem _ h
  have hown : s.vm.findClass "TippedCrates" = some m.cls := hown
  show mm_S p l e R s m args below meth c f D mm_cl cA 3 _ pc (mc_148 pc)
  unfold mc_148
  exact (ms_b (ms_b (ms_b (ms_b (ms_lf (ms_aload_n hx hb rfl (by decide +kernel)))
    (ms_lf (ms_iload_n hx hb rfl (by decide +kernel))))
    (ms_b (ms_lf (ms_ivV (C := RX11) (T := TX11) (N := 11) hx hb hml hown hts hgo hEX hf hK rfl (mm_GV hAW (mm_GI hAW gi_163) qw_915 qw_917 qw_26 qw_117) rfl ⟨rfl, hd_163⟩ (mm_rm hRf hRl (Nat.le_of_ble_eq_true rfl)) (by decide +kernel)))
    (ms_b (ms_lf (ms_if_eq hx hb (by decide) (by decide +kernel)))
    (ms_lf (ms_iload_n hx hb rfl (by decide +kernel))))))
    (ms_b (ms_b (ms_lf (ms_iconst hx hb (by decide) (by decide +kernel)))
    (ms_b (ms_lf (ms_bipush hx hb (by decide) (by decide +kernel)))
    (ms_lf (ms_ivS hx hb hml hown hts hgo hEX (mm_GS hAW (mm_GI hAW gi_166) qw_919 qw_748 qw_117) rfl hd_166 (mm_rm hRf hRl (Nat.le_of_ble_eq_true rfl)) (by decide +kernel)))))
    (ms_b (ms_lf (ms_if_ne hx hb (by decide) (by decide +kernel)))
    (ms_b (ms_lf (ms_iconst hx hb (by decide) (by decide +kernel)))
    (ms_lf (ms_iret hx hb hr hlk (by decide +kernel)))))))
    (ms_b (ms_b (ms_b (ms_lf (ms_aload_n hx hb rfl (by decide +kernel)))
    (ms_b (ms_lf (ms_iload_n hx hb rfl (by decide +kernel)))
    (ms_lf (ms_aload_n hx hb rfl (by decide +kernel)))))
    (ms_b (ms_lf (ms_getf (C := RX11) (T := TX11) (N := 11) hx hb hf hts (fun w h => hAW w (inq_11 w h)) hown hK rfl (by decide) (hts _ (hAW _ qw_850)) rfl (by decide +kernel)))
    (ms_b (ms_lf (ms_getf (C := RX3) (T := TX3) (N := 12) hx hb hf hts (fun w h => hAW w (inq_3 w h)) hown hK rfl (by decide) (hts _ (hAW _ qw_271)) rfl (by decide +kernel)))
    (ms_lf (ms_ivV (C := RX11) (T := TX11) (N := 11) hx hb hml hown hts hgo hEX hf hK rfl (mm_GV hAW (mm_GI hAW gi_160) qw_1250 qw_1252 qw_37 qw_117) rfl ⟨rfl, hd_160⟩ (mm_rm hRf hRl (Nat.le_of_ble_eq_true rfl)) (by decide +kernel))))))
    (ms_b (ms_b (ms_lf (ms_aload_n hx hb rfl (by decide +kernel)))
    (ms_b (ms_lf (ms_getf (C := RX11) (T := TX11) (N := 11) hx hb hf hts (fun w h => hAW w (inq_11 w h)) hown hK rfl (by decide) (hts _ (hAW _ qw_859)) rfl (by decide +kernel)))
    (ms_lf (ms_getf (C := RX7) (T := TX7) (N := 7) hx hb hf hts (fun w h => hAW w (inq_7 w h)) hown hK rfl (by decide) (hts _ (hAW _ qw_566)) rfl (by decide +kernel)))))
    (ms_b (ms_lf (ms_iload_n hx hb rfl (by decide +kernel)))
    (ms_b (ms_lf (ms_iald hx hb hf hA hX (by decide +kernel)))
    (ms_lf (ms_iret hx hb hr hlk (by decide +kernel))))))))
set_option maxRecDepth 100000 in
set_option maxHeartbeats 8000000 in
/-- TippedCrates.paidIn -/
theorem sd_149 (l : Launch) (f : Nat → Nat) (D : va_G) (cA : FieldType → ClassId) (d : Nat) : mm_Ok2 l f D cA d (yX11_paidIn, cX11_paidIn, 2, (some .int), mc_149) := by
  intro p e R s m args below meth c C hRf hRl pc
  obtain ⟨hx, hb, hml, hr, hlk, hnm, hown, hts, hEX, hgo, hf⟩ := C
  obtain ⟨hK, hA, hX, hZs, hZc, hZq, hTx, hSR0, hSR1, hAO, hN⟩ := id hEX
  have hAW : ∀ w ∈ mm_AW, w ∈ (Cond.code yX11_paidIn cX11_paidIn 2 (some .int) :: mm_AW) := fun w h => List.mem_cons_of_mem _ h
  have hown : s.vm.findClass "TippedCrates" = some m.cls := hown
  show mm_S p l e R s m args below meth c f D mm_cl cA 2 _ pc (mc_149 pc)
  unfold mc_149
  exact (ms_b (ms_b (ms_b (ms_b (ms_lf (ms_iload_n hx hb rfl (by decide +kernel)))
    (ms_lf (ms_iconst hx hb (by decide) (by decide +kernel))))
    (ms_b (ms_lf (ms_bipush hx hb (by decide) (by decide +kernel)))
    (ms_lf (ms_ivS hx hb hml hown hts hgo hEX (mm_GS hAW (mm_GI hAW gi_166) qw_919 qw_748 qw_117) rfl hd_166 (mm_rm hRf hRl (Nat.le_of_ble_eq_true rfl)) (by decide +kernel)))))
    (ms_b (ms_b (ms_lf (ms_if_ne hx hb (by decide) (by decide +kernel)))
    (ms_lf (ms_iconst hx hb (by decide) (by decide +kernel))))
    (ms_b (ms_lf (ms_iret hx hb hr hlk (by decide +kernel)))
    (ms_lf (ms_aload_n hx hb rfl (by decide +kernel))))))
    (ms_b (ms_b (ms_b (ms_lf (ms_iload_n hx hb rfl (by decide +kernel)))
    (ms_lf (ms_aload_n hx hb rfl (by decide +kernel))))
    (ms_b (ms_lf (ms_getf (C := RX11) (T := TX11) (N := 11) hx hb hf hts (fun w h => hAW w (inq_11 w h)) hown hK rfl (by decide) (hts _ (hAW _ qw_850)) rfl (by decide +kernel)))
    (ms_lf (ms_getf (C := RX3) (T := TX3) (N := 12) hx hb hf hts (fun w h => hAW w (inq_3 w h)) hown hK rfl (by decide) (hts _ (hAW _ qw_271)) rfl (by decide +kernel)))))
    (ms_b (ms_b (ms_lf (ms_ivV (C := RX11) (T := TX11) (N := 11) hx hb hml hown hts hgo hEX hf hK rfl (mm_GV hAW (mm_GI hAW gi_160) qw_1250 qw_1252 qw_37 qw_117) rfl ⟨rfl, hd_160⟩ (mm_rm hRf hRl (Nat.le_of_ble_eq_true rfl)) (by decide +kernel)))
    (ms_lf (ms_aload_n hx hb rfl (by decide +kernel))))
    (ms_b (ms_lf (ms_getf (C := RX11) (T := TX11) (N := 11) hx hb hf hts (fun w h => hAW w (inq_11 w h)) hown hK rfl (by decide) (hts _ (hAW _ qw_859)) rfl (by decide +kernel)))
    (ms_b (ms_lf (ms_getf (C := RX7) (T := TX7) (N := 7) hx hb hf hts (fun w h => hAW w (inq_7 w h)) hown hK rfl (by decide) (hts _ (hAW _ qw_585)) rfl (by decide +kernel)))
    (ms_lf (ms_iret hx hb hr hlk (by decide +kernel))))))))
set_option maxRecDepth 100000 in
set_option maxHeartbeats 8000000 in
/-- TippedCrates.year -/
theorem sd_150 (l : Launch) (f : Nat → Nat) (D : va_G) (cA : FieldType → ClassId) (d : Nat) : mm_Ok2 l f D cA d (yX11_year, cX11_year, 7, (some .int), mc_150) := by
  intro p e R s m args below meth c C hRf hRl pc
  obtain ⟨hx, hb, hml, hr, hlk, hnm, hown, hts, hEX, hgo, hf⟩ := C
  obtain ⟨hK, hA, hX, hZs, hZc, hZq, hTx, hSR0, hSR1, hAO, hN⟩ := id hEX
  have hAW : ∀ w ∈ mm_AW, w ∈ (Cond.code yX11_year cX11_year 7 (some .int) :: mm_AW) := fun w h => List.mem_cons_of_mem _ h
  have hown : s.vm.findClass "TippedCrates" = some m.cls := hown
  show mm_S p l e R s m args below meth c f D mm_cl cA 7 _ pc (mc_150 pc)
  unfold mc_150
  exact (ms_b (ms_b (ms_b (ms_b (ms_b (ms_lf (ms_aload_n hx hb rfl (by decide +kernel)))
    (ms_lf (ms_iload_n hx hb rfl (by decide +kernel))))
    (ms_b (ms_lf (ms_ivV (C := RX11) (T := TX11) (N := 11) hx hb hml hown hts hgo hEX hf hK rfl (mm_GV hAW (mm_GI hAW gi_162) qw_932 qw_934 qw_27 qw_117) rfl ⟨rfl, hd_162⟩ (mm_rm hRf hRl (Nat.le_of_ble_eq_true rfl)) (by decide +kernel)))
    (ms_b (ms_lf (ms_if_eq hx hb (by decide) (by decide +kernel)))
    (ms_lf (ms_iload_n hx hb rfl (by decide +kernel))))))
    (ms_b (ms_b (ms_lf (ms_ivS hx hb hml hown hts hgo hEX (mm_GS hAW (mm_GI hAW gi_164) qw_1008 qw_1009 qw_117) rfl hd_164 (mm_rm hRf hRl (Nat.le_of_ble_eq_true rfl)) (by decide +kernel)))
    (ms_b (ms_lf (ms_if_ne hx hb (by decide) (by decide +kernel)))
    (ms_lf (ms_iconst hx hb (by decide) (by decide +kernel)))))
    (ms_b (ms_lf (ms_iret hx hb hr hlk (by decide +kernel)))
    (ms_b (ms_lf (ms_iload_n hx hb rfl (by decide +kernel)))
    (ms_lf (ms_iconst hx hb (by decide) (by decide +kernel)))))))
    (ms_b (ms_b (ms_b (ms_lf (ms_bipush hx hb (by decide) (by decide +kernel)))
    (ms_b (ms_lf (ms_ivS hx hb hml hown hts hgo hEX (mm_GS hAW (mm_GI hAW gi_166) qw_919 qw_748 qw_117) rfl hd_166 (mm_rm hRf hRl (Nat.le_of_ble_eq_true rfl)) (by decide +kernel)))
    (ms_lf (ms_if_eq hx hb (by decide) (by decide +kernel)))))
    (ms_b (ms_lf (ms_iload hx hb (by decide +kernel)))
    (ms_b (ms_lf (ms_iconst hx hb (by decide) (by decide +kernel)))
    (ms_lf (ms_bipush hx hb (by decide) (by decide +kernel))))))
    (ms_b (ms_b (ms_lf (ms_ivS hx hb hml hown hts hgo hEX (mm_GS hAW (mm_GI hAW gi_166) qw_919 qw_748 qw_117) rfl hd_166 (mm_rm hRf hRl (Nat.le_of_ble_eq_true rfl)) (by decide +kernel)))
    (ms_b (ms_lf (ms_if_ne hx hb (by decide) (by decide +kernel)))
    (ms_lf (ms_iconst hx hb (by decide) (by decide +kernel)))))
    (ms_b (ms_lf (ms_iret hx hb hr hlk (by decide +kernel)))
    (ms_b (ms_lf (ms_iconst hx hb (by decide) (by decide +kernel)))
    (ms_lf (ms_istore hx hb (by decide : 5 < 7) (by decide +kernel))))))))
    (ms_b (ms_b (ms_b (ms_b (ms_lf (ms_iconst hx hb (by decide) (by decide +kernel)))
    (ms_b (ms_lf (ms_istore hx hb (by decide : 6 < 7) (by decide +kernel)))
    (ms_lf (ms_iload hx hb (by decide +kernel)))))
    (ms_b (ms_lf (ms_iload hx hb (by decide +kernel)))
    (ms_b (ms_lf (ms_ic_ge hx hb (by decide) (by decide +kernel)))
    (ms_lf (ms_aload_n hx hb rfl (by decide +kernel))))))
    (ms_b (ms_b (ms_lf (ms_iload_n hx hb rfl (by decide +kernel)))
    (ms_b (ms_lf (ms_aload_n hx hb rfl (by decide +kernel)))
    (ms_lf (ms_getf (C := RX11) (T := TX11) (N := 11) hx hb hf hts (fun w h => hAW w (inq_11 w h)) hown hK rfl (by decide) (hts _ (hAW _ qw_850)) rfl (by decide +kernel)))))
    (ms_b (ms_lf (ms_getf (C := RX3) (T := TX3) (N := 12) hx hb hf hts (fun w h => hAW w (inq_3 w h)) hown hK rfl (by decide) (hts _ (hAW _ qw_271)) rfl (by decide +kernel)))
    (ms_b (ms_lf (ms_iload hx hb (by decide +kernel)))
    (ms_lf (ms_iadd hx hb (by decide +kernel)))))))
    (ms_b (ms_b (ms_b (ms_lf (ms_ivV (C := RX11) (T := TX11) (N := 11) hx hb hml hown hts hgo hEX hf hK rfl (mm_GV hAW (mm_GI hAW gi_160) qw_1250 qw_1252 qw_37 qw_117) rfl ⟨rfl, hd_160⟩ (mm_rm hRf hRl (Nat.le_of_ble_eq_true rfl)) (by decide +kernel)))
    (ms_b (ms_lf (ms_aload_n hx hb rfl (by decide +kernel)))
    (ms_lf (ms_getf (C := RX11) (T := TX11) (N := 11) hx hb hf hts (fun w h => hAW w (inq_11 w h)) hown hK rfl (by decide) (hts _ (hAW _ qw_859)) rfl (by decide +kernel)))))
    (ms_b (ms_lf (ms_iload_n hx hb rfl (by decide +kernel)))
    (ms_b (ms_lf (ms_ivV (C := RX7) (T := TX7) (N := 7) hx hb hml hown hts hgo hEX hf hK rfl (mm_GV hAW (mm_GI hAW gi_78) qw_1255 qw_1256 qw_1257 qw_133) rfl ⟨rfl, hd_78⟩ (mm_rm hRf hRl (Nat.le_of_ble_eq_true rfl)) (by decide +kernel)))
    (ms_lf (ms_iload_n hx hb rfl (by decide +kernel))))))
    (ms_b (ms_b (ms_lf (ms_ic_ne hx hb (by decide) (by decide +kernel)))
    (ms_b (ms_lf (ms_iinc hx hb (by decide) (by decide : 5 < 7) (by decide +kernel)))
    (ms_lf (ms_iinc hx hb (by decide) (by decide : 6 < 7) (by decide +kernel)))))
    (ms_b (ms_lf (ms_goto hx hb (by decide) (by decide +kernel)))
    (ms_b (ms_lf (ms_iload hx hb (by decide +kernel)))
    (ms_lf (ms_iret hx hb hr hlk (by decide +kernel)))))))))
set_option maxRecDepth 100000 in
set_option maxHeartbeats 8000000 in
/-- TippedCrates.tell -/
theorem sd_151 (l : Launch) (f : Nat → Nat) (D : va_G) (cA : FieldType → ClassId) (d : Nat) : mm_Ok2 l f D cA d (yX11_tell, cX11_tell, 4, (some .int), mc_151) := by
  intro p e R s m args below meth c C hRf hRl pc
  obtain ⟨hx, hb, hml, hr, hlk, hnm, hown, hts, hEX, hgo, hf⟩ := C
  obtain ⟨hK, hA, hX, hZs, hZc, hZq, hTx, hSR0, hSR1, hAO, hN⟩ := id hEX
  have hAW : ∀ w ∈ mm_AW, w ∈ (Cond.code yX11_tell cX11_tell 4 (some .int) :: mm_AW) := fun w h => List.mem_cons_of_mem _ h
  have hown : s.vm.findClass "TippedCrates" = some m.cls := hown
  show mm_S p l e R s m args below meth c f D mm_cl cA 4 _ pc (mc_151 pc)
  unfold mc_151
  exact (ms_b (ms_b (ms_b (ms_b (ms_lf (ms_iload_n hx hb rfl (by decide +kernel)))
    (ms_lf (ms_iconst hx hb (by decide) (by decide +kernel))))
    (ms_b (ms_lf (ms_iconst hx hb (by decide) (by decide +kernel)))
    (ms_b (ms_lf (ms_ivS hx hb hml hown hts hgo hEX (mm_GS hAW (mm_GI hAW gi_166) qw_919 qw_748 qw_117) rfl hd_166 (mm_rm hRf hRl (Nat.le_of_ble_eq_true rfl)) (by decide +kernel)))
    (ms_lf (ms_if_eq hx hb (by decide) (by decide +kernel))))))
    (ms_b (ms_b (ms_lf (ms_iload_n hx hb rfl (by decide +kernel)))
    (ms_b (ms_lf (ms_ivS hx hb hml hown hts hgo hEX (mm_GS hAW (mm_GI hAW gi_164) qw_1008 qw_1009 qw_117) rfl hd_164 (mm_rm hRf hRl (Nat.le_of_ble_eq_true rfl)) (by decide +kernel)))
    (ms_lf (ms_if_eq hx hb (by decide) (by decide +kernel)))))
    (ms_b (ms_lf (ms_aload_n hx hb rfl (by decide +kernel)))
    (ms_b (ms_lf (ms_getf (C := RX11) (T := TX11) (N := 11) hx hb hf hts (fun w h => hAW w (inq_11 w h)) hown hK rfl (by decide) (hts _ (hAW _ qw_856)) rfl (by decide +kernel)))
    (ms_lf (ms_getf (C := RX5) (T := TX5) (N := 11) hx hb hf hts (fun w h => hAW w (inq_5 w h)) hown hK rfl (by decide) (hts _ (hAW _ qw_514)) rfl (by decide +kernel)))))))
    (ms_b (ms_b (ms_b (ms_lf (ms_bipush hx hb (by decide) (by decide +kernel)))
    (ms_lf (ms_ic_lt hx hb (by decide) (by decide +kernel))))
    (ms_b (ms_lf (ms_iconst hx hb (by decide) (by decide +kernel)))
    (ms_b (ms_lf (ms_iret hx hb hr hlk (by decide +kernel)))
    (ms_lf (ms_aload_n hx hb rfl (by decide +kernel))))))
    (ms_b (ms_b (ms_lf (ms_getf (C := RX11) (T := TX11) (N := 11) hx hb hf hts (fun w h => hAW w (inq_11 w h)) hown hK rfl (by decide) (hts _ (hAW _ qw_856)) rfl (by decide +kernel)))
    (ms_b (ms_lf (ms_iload_n hx hb rfl (by decide +kernel)))
    (ms_lf (ms_iload_n hx hb rfl (by decide +kernel)))))
    (ms_b (ms_lf (ms_iload_n hx hb rfl (by decide +kernel)))
    (ms_b (ms_lf (ms_ivV (C := RX5) (T := TX5) (N := 11) hx hb hml hown hts hgo hEX hf hK rfl (mm_GV hAW (mm_GI hAW gi_56) qw_1275 qw_1276 qw_1277 qw_131) rfl ⟨rfl, hd_56⟩ (mm_rm hRf hRl (Nat.le_of_ble_eq_true rfl)) (by decide +kernel)))
    (ms_lf (ms_iret hx hb hr hlk (by decide +kernel))))))))
set_option maxRecDepth 100000 in
set_option maxHeartbeats 8000000 in
/-- TippedCrates.forget -/
theorem sd_152 (l : Launch) (f : Nat → Nat) (D : va_G) (cA : FieldType → ClassId) (d : Nat) : mm_Ok2 l f D cA d (yX11_forget, cX11_forget, 1, (some .int), mc_152) := by
  intro p e R s m args below meth c C hRf hRl pc
  obtain ⟨hx, hb, hml, hr, hlk, hnm, hown, hts, hEX, hgo, hf⟩ := C
  obtain ⟨hK, hA, hX, hZs, hZc, hZq, hTx, hSR0, hSR1, hAO, hN⟩ := id hEX
  have hAW : ∀ w ∈ mm_AW, w ∈ (Cond.code yX11_forget cX11_forget 1 (some .int) :: mm_AW) := fun w h => List.mem_cons_of_mem _ h
  have hown : s.vm.findClass "TippedCrates" = some m.cls := hown
  show mm_S p l e R s m args below meth c f D mm_cl cA 1 _ pc (mc_152 pc)
  unfold mc_152
  exact (ms_b (ms_b (ms_lf (ms_aload_n hx hb rfl (by decide +kernel)))
    (ms_lf (ms_getf (C := RX11) (T := TX11) (N := 11) hx hb hf hts (fun w h => hAW w (inq_11 w h)) hown hK rfl (by decide) (hts _ (hAW _ qw_856)) rfl (by decide +kernel))))
    (ms_b (ms_lf (ms_ivV (C := RX5) (T := TX5) (N := 11) hx hb hml hown hts hgo hEX hf hK rfl (mm_GV hAW (mm_GI hAW gi_57) qw_903 qw_904 qw_905 qw_131) rfl ⟨rfl, hd_57⟩ (mm_rm hRf hRl (Nat.le_of_ble_eq_true rfl)) (by decide +kernel)))
    (ms_lf (ms_iret hx hb hr hlk (by decide +kernel)))))
set_option maxRecDepth 100000 in
set_option maxHeartbeats 8000000 in
/-- TippedCrates.rows -/
theorem sd_153 (l : Launch) (f : Nat → Nat) (D : va_G) (cA : FieldType → ClassId) (d : Nat) : mm_Ok2 l f D cA d (yX11_rows, cX11_rows, 5, (some .int), mc_153) := by
  intro p e R s m args below meth c C hRf hRl pc
  obtain ⟨hx, hb, hml, hr, hlk, hnm, hown, hts, hEX, hgo, hf⟩ := C
  obtain ⟨hK, hA, hX, hZs, hZc, hZq, hTx, hSR0, hSR1, hAO, hN⟩ := id hEX
  have hAW : ∀ w ∈ mm_AW, w ∈ (Cond.code yX11_rows cX11_rows 5 (some .int) :: mm_AW) := fun w h => List.mem_cons_of_mem _ h
  have hown : s.vm.findClass "TippedCrates" = some m.cls := hown
  show mm_S p l e R s m args below meth c f D mm_cl cA 5 _ pc (mc_153 pc)
  unfold mc_153
  exact (ms_b (ms_b (ms_b (ms_b (ms_b (ms_lf (ms_aload_n hx hb rfl (by decide +kernel)))
    (ms_lf (ms_iload_n hx hb rfl (by decide +kernel))))
    (ms_b (ms_lf (ms_iload_n hx hb rfl (by decide +kernel)))
    (ms_lf (ms_iload_n hx hb rfl (by decide +kernel)))))
    (ms_b (ms_b (ms_lf (ms_ivV (C := RX11) (T := TX11) (N := 11) hx hb hml hown hts hgo hEX hf hK rfl (mm_GV hAW (mm_GI hAW gi_161) qw_1287 qw_1289 qw_38 qw_117) rfl ⟨rfl, hd_161⟩ (mm_rm hRf hRl (Nat.le_of_ble_eq_true rfl)) (by decide +kernel)))
    (ms_lf (ms_if_eq hx hb (by decide) (by decide +kernel))))
    (ms_b (ms_lf (ms_iload hx hb (by decide +kernel)))
    (ms_lf (ms_iconst hx hb (by decide) (by decide +kernel))))))
    (ms_b (ms_b (ms_b (ms_lf (ms_iconst hx hb (by decide) (by decide +kernel)))
    (ms_lf (ms_ivS hx hb hml hown hts hgo hEX (mm_GS hAW (mm_GI hAW gi_166) qw_919 qw_748 qw_117) rfl hd_166 (mm_rm hRf hRl (Nat.le_of_ble_eq_true rfl)) (by decide +kernel))))
    (ms_b (ms_lf (ms_if_ne hx hb (by decide) (by decide +kernel)))
    (ms_lf (ms_iconst hx hb (by decide) (by decide +kernel)))))
    (ms_b (ms_b (ms_lf (ms_iret hx hb hr hlk (by decide +kernel)))
    (ms_lf (ms_aload_n hx hb rfl (by decide +kernel))))
    (ms_b (ms_lf (ms_getf (C := RX11) (T := TX11) (N := 11) hx hb hf hts (fun w h => hAW w (inq_11 w h)) hown hK rfl (by decide) (hts _ (hAW _ qw_854)) rfl (by decide +kernel)))
    (ms_b (ms_lf (ms_aload_n hx hb rfl (by decide +kernel)))
    (ms_lf (ms_getf (C := RX11) (T := TX11) (N := 11) hx hb hf hts (fun w h => hAW w (inq_11 w h)) hown hK rfl (by decide) (hts _ (hAW _ qw_858)) rfl (by decide +kernel))))))))
    (ms_b (ms_b (ms_b (ms_b (ms_lf (ms_iload_n hx hb rfl (by decide +kernel)))
    (ms_lf (ms_ivV (C := RX6) (T := TX6) (N := 5) hx hb hml hown hts hgo hEX hf hK rfl (mm_GV hAW (mm_GI hAW gi_70) qw_1046 qw_1047 qw_1048 qw_129) rfl ⟨rfl, hd_70⟩ (mm_rm hRf hRl (Nat.le_of_ble_eq_true rfl)) (by decide +kernel))))
    (ms_b (ms_lf (ms_aload_n hx hb rfl (by decide +kernel)))
    (ms_lf (ms_getf (C := RX11) (T := TX11) (N := 11) hx hb hf hts (fun w h => hAW w (inq_11 w h)) hown hK rfl (by decide) (hts _ (hAW _ qw_856)) rfl (by decide +kernel)))))
    (ms_b (ms_b (ms_lf (ms_iload_n hx hb rfl (by decide +kernel)))
    (ms_lf (ms_iload_n hx hb rfl (by decide +kernel))))
    (ms_b (ms_lf (ms_ivV (C := RX5) (T := TX5) (N := 11) hx hb hml hown hts hgo hEX hf hK rfl (mm_GV hAW (mm_GI hAW gi_58) qw_1291 qw_1292 qw_1293 qw_131) rfl ⟨rfl, hd_58⟩ (mm_rm hRf hRl (Nat.le_of_ble_eq_true rfl)) (by decide +kernel)))
    (ms_lf (ms_iload hx hb (by decide +kernel))))))
    (ms_b (ms_b (ms_b (ms_lf (ms_if_ne hx hb (by decide) (by decide +kernel)))
    (ms_lf (ms_aload_n hx hb rfl (by decide +kernel))))
    (ms_b (ms_lf (ms_getf (C := RX11) (T := TX11) (N := 11) hx hb hf hts (fun w h => hAW w (inq_11 w h)) hown hK rfl (by decide) (hts _ (hAW _ qw_856)) rfl (by decide +kernel)))
    (ms_lf (ms_getf (C := RX5) (T := TX5) (N := 11) hx hb hf hts (fun w h => hAW w (inq_5 w h)) hown hK rfl (by decide) (hts _ (hAW _ qw_516)) rfl (by decide +kernel)))))
    (ms_b (ms_b (ms_lf (ms_goto hx hb (by decide) (by decide +kernel)))
    (ms_lf (ms_aload_n hx hb rfl (by decide +kernel))))
    (ms_b (ms_lf (ms_getf (C := RX11) (T := TX11) (N := 11) hx hb hf hts (fun w h => hAW w (inq_11 w h)) hown hK rfl (by decide) (hts _ (hAW _ qw_856)) rfl (by decide +kernel)))
    (ms_b (ms_lf (ms_getf (C := RX5) (T := TX5) (N := 11) hx hb hf hts (fun w h => hAW w (inq_5 w h)) hown hK rfl (by decide) (hts _ (hAW _ qw_518)) rfl (by decide +kernel)))
    (ms_lf (ms_iret hx hb hr hlk (by decide +kernel)))))))))
set_option maxRecDepth 100000 in
set_option maxHeartbeats 8000000 in
/-- TippedCrates.listen -/
theorem sd_154 (l : Launch) (f : Nat → Nat) (D : va_G) (cA : FieldType → ClassId) (d : Nat) : mm_Ok2 l f D cA d (yX11_listen, cX11_listen, 4, (some .int), mc_154) := by
  intro p e R s m args below meth c C hRf hRl pc
  obtain ⟨hx, hb, hml, hr, hlk, hnm, hown, hts, hEX, hgo, hf⟩ := C
  obtain ⟨hK, hA, hX, hZs, hZc, hZq, hTx, hSR0, hSR1, hAO, hN⟩ := id hEX
  have hAW : ∀ w ∈ mm_AW, w ∈ (Cond.code yX11_listen cX11_listen 4 (some .int) :: mm_AW) := fun w h => List.mem_cons_of_mem _ h
  have hown : s.vm.findClass "TippedCrates" = some m.cls := hown
  show mm_S p l e R s m args below meth c f D mm_cl cA 4 _ pc (mc_154 pc)
  unfold mc_154
  exact (ms_b (ms_b (ms_b (ms_b (ms_lf (ms_aload_n hx hb rfl (by decide +kernel)))
    (ms_b (ms_lf (ms_iload_n hx hb rfl (by decide +kernel)))
    (ms_lf (ms_iload_n hx hb rfl (by decide +kernel)))))
    (ms_b (ms_lf (ms_iload_n hx hb rfl (by decide +kernel)))
    (ms_b (ms_lf (ms_ivV (C := RX11) (T := TX11) (N := 11) hx hb hml hown hts hgo hEX hf hK rfl (mm_GV hAW (mm_GI hAW gi_161) qw_1287 qw_1289 qw_38 qw_117) rfl ⟨rfl, hd_161⟩ (mm_rm hRf hRl (Nat.le_of_ble_eq_true rfl)) (by decide +kernel)))
    (ms_lf (ms_if_ne hx hb (by decide) (by decide +kernel))))))
    (ms_b (ms_b (ms_lf (ms_iconst hx hb (by decide) (by decide +kernel)))
    (ms_b (ms_lf (ms_iret hx hb hr hlk (by decide +kernel)))
    (ms_lf (ms_aload_n hx hb rfl (by decide +kernel)))))
    (ms_b (ms_lf (ms_getf (C := RX11) (T := TX11) (N := 11) hx hb hf hts (fun w h => hAW w (inq_11 w h)) hown hK rfl (by decide) (hts _ (hAW _ qw_854)) rfl (by decide +kernel)))
    (ms_b (ms_lf (ms_aload_n hx hb rfl (by decide +kernel)))
    (ms_lf (ms_getf (C := RX11) (T := TX11) (N := 11) hx hb hf hts (fun w h => hAW w (inq_11 w h)) hown hK rfl (by decide) (hts _ (hAW _ qw_858)) rfl (by decide +kernel)))))))
    (ms_b (ms_b (ms_b (ms_lf (ms_iload_n hx hb rfl (by decide +kernel)))
    (ms_b (ms_lf (ms_ivV (C := RX6) (T := TX6) (N := 5) hx hb hml hown hts hgo hEX hf hK rfl (mm_GV hAW (mm_GI hAW gi_70) qw_1046 qw_1047 qw_1048 qw_129) rfl ⟨rfl, hd_70⟩ (mm_rm hRf hRl (Nat.le_of_ble_eq_true rfl)) (by decide +kernel)))
    (ms_lf (ms_aload_n hx hb rfl (by decide +kernel)))))
    (ms_b (ms_lf (ms_getf (C := RX11) (T := TX11) (N := 11) hx hb hf hts (fun w h => hAW w (inq_11 w h)) hown hK rfl (by decide) (hts _ (hAW _ qw_856)) rfl (by decide +kernel)))
    (ms_b (ms_lf (ms_iload_n hx hb rfl (by decide +kernel)))
    (ms_lf (ms_iload_n hx hb rfl (by decide +kernel))))))
    (ms_b (ms_b (ms_lf (ms_ivV (C := RX5) (T := TX5) (N := 11) hx hb hml hown hts hgo hEX hf hK rfl (mm_GV hAW (mm_GI hAW gi_58) qw_1291 qw_1292 qw_1293 qw_131) rfl ⟨rfl, hd_58⟩ (mm_rm hRf hRl (Nat.le_of_ble_eq_true rfl)) (by decide +kernel)))
    (ms_b (ms_lf (ms_aload_n hx hb rfl (by decide +kernel)))
    (ms_lf (ms_getf (C := RX11) (T := TX11) (N := 11) hx hb hf hts (fun w h => hAW w (inq_11 w h)) hown hK rfl (by decide) (hts _ (hAW _ qw_856)) rfl (by decide +kernel)))))
    (ms_b (ms_lf (ms_iload_n hx hb rfl (by decide +kernel)))
    (ms_b (ms_lf (ms_ivV (C := RX5) (T := TX5) (N := 11) hx hb hml hown hts hgo hEX hf hK rfl (mm_GV hAW (mm_GI hAW gi_62) qw_1312 qw_1313 qw_1314 qw_131) rfl ⟨rfl, hd_62⟩ (mm_rm hRf hRl (Nat.le_of_ble_eq_true rfl)) (by decide +kernel)))
    (ms_lf (ms_iret hx hb hr hlk (by decide +kernel))))))))
set_option maxRecDepth 100000 in
set_option maxHeartbeats 8000000 in
/-- TippedCrates.hold -/
theorem sd_155 (l : Launch) (f : Nat → Nat) (D : va_G) (cA : FieldType → ClassId) (d : Nat) : mm_Ok2 l f D cA d (yX11_hold, cX11_hold, 2, (some .boolean), mc_155) := by
  intro p e R s m args below meth c C hRf hRl pc
  obtain ⟨hx, hb, hml, hr, hlk, hnm, hown, hts, hEX, hgo, hf⟩ := C
  obtain ⟨hK, hA, hX, hZs, hZc, hZq, hTx, hSR0, hSR1, hAO, hN⟩ := id hEX
  have hAW : ∀ w ∈ mm_AW, w ∈ (Cond.code yX11_hold cX11_hold 2 (some .boolean) :: mm_AW) := fun w h => List.mem_cons_of_mem _ h
  have hown : s.vm.findClass "TippedCrates" = some m.cls := hown
  show mm_S p l e R s m args below meth c f D mm_cl cA 2 _ pc (mc_155 pc)
  unfold mc_155
  exact (ms_b (ms_b (ms_b (ms_lf (ms_iload_n hx hb rfl (by decide +kernel)))
    (ms_b (ms_lf (ms_iconst hx hb (by decide) (by decide +kernel)))
    (ms_lf (ms_iconst hx hb (by decide) (by decide +kernel)))))
    (ms_b (ms_b (ms_lf (ms_ivS hx hb hml hown hts hgo hEX (mm_GS hAW (mm_GI hAW gi_166) qw_919 qw_748 qw_117) rfl hd_166 (mm_rm hRf hRl (Nat.le_of_ble_eq_true rfl)) (by decide +kernel)))
    (ms_lf (ms_if_ne hx hb (by decide) (by decide +kernel))))
    (ms_b (ms_lf (ms_iconst hx hb (by decide) (by decide +kernel)))
    (ms_lf (ms_iret hx hb hr hlk (by decide +kernel))))))
    (ms_b (ms_b (ms_b (ms_lf (ms_aload_n hx hb rfl (by decide +kernel)))
    (ms_lf (ms_getf (C := RX11) (T := TX11) (N := 11) hx hb hf hts (fun w h => hAW w (inq_11 w h)) hown hK rfl (by decide) (hts _ (hAW _ qw_857)) rfl (by decide +kernel))))
    (ms_b (ms_lf (ms_aload_n hx hb rfl (by decide +kernel)))
    (ms_lf (ms_getf (C := RX11) (T := TX11) (N := 11) hx hb hf hts (fun w h => hAW w (inq_11 w h)) hown hK rfl (by decide) (hts _ (hAW _ qw_858)) rfl (by decide +kernel)))))
    (ms_b (ms_b (ms_lf (ms_iload_n hx hb rfl (by decide +kernel)))
    (ms_lf (ms_ivV (C := RX2) (T := TX2) (N := 5) hx hb hml hown hts hgo hEX hf hK rfl (mm_GV hAW (mm_GI hAW gi_23) qw_1325 qw_1326 qw_1327 qw_132) rfl ⟨rfl, hd_23⟩ (mm_rm hRf hRl (Nat.le_of_ble_eq_true rfl)) (by decide +kernel))))
    (ms_b (ms_lf (ms_iconst hx hb (by decide) (by decide +kernel)))
    (ms_lf (ms_iret hx hb hr hlk (by decide +kernel)))))))
set_option maxRecDepth 100000 in
set_option maxHeartbeats 8000000 in
/-- TippedCrates.restore -/
theorem sd_156 (l : Launch) (f : Nat → Nat) (D : va_G) (cA : FieldType → ClassId) (d : Nat) : mm_Ok2 l f D cA d (yX11_restore, cX11_restore, 2, (some .boolean), mc_156) := by
  intro p e R s m args below meth c C hRf hRl pc
  obtain ⟨hx, hb, hml, hr, hlk, hnm, hown, hts, hEX, hgo, hf⟩ := C
  obtain ⟨hK, hA, hX, hZs, hZc, hZq, hTx, hSR0, hSR1, hAO, hN⟩ := id hEX
  have hAW : ∀ w ∈ mm_AW, w ∈ (Cond.code yX11_restore cX11_restore 2 (some .boolean) :: mm_AW) := fun w h => List.mem_cons_of_mem _ h
  have hown : s.vm.findClass "TippedCrates" = some m.cls := hown
  show mm_S p l e R s m args below meth c f D mm_cl cA 2 _ pc (mc_156 pc)
  unfold mc_156
  exact (ms_b (ms_b (ms_b (ms_b (ms_lf (ms_iload_n hx hb rfl (by decide +kernel)))
    (ms_lf (ms_iconst hx hb (by decide) (by decide +kernel))))
    (ms_b (ms_lf (ms_iconst hx hb (by decide) (by decide +kernel)))
    (ms_lf (ms_ivS hx hb hml hown hts hgo hEX (mm_GS hAW (mm_GI hAW gi_166) qw_919 qw_748 qw_117) rfl hd_166 (mm_rm hRf hRl (Nat.le_of_ble_eq_true rfl)) (by decide +kernel)))))
    (ms_b (ms_b (ms_lf (ms_if_eq hx hb (by decide) (by decide +kernel)))
    (ms_lf (ms_aload_n hx hb rfl (by decide +kernel))))
    (ms_b (ms_lf (ms_getf (C := RX11) (T := TX11) (N := 11) hx hb hf hts (fun w h => hAW w (inq_11 w h)) hown hK rfl (by decide) (hts _ (hAW _ qw_857)) rfl (by decide +kernel)))
    (ms_lf (ms_aload_n hx hb rfl (by decide +kernel))))))
    (ms_b (ms_b (ms_b (ms_lf (ms_getf (C := RX11) (T := TX11) (N := 11) hx hb hf hts (fun w h => hAW w (inq_11 w h)) hown hK rfl (by decide) (hts _ (hAW _ qw_858)) rfl (by decide +kernel)))
    (ms_lf (ms_iload_n hx hb rfl (by decide +kernel))))
    (ms_b (ms_lf (ms_ivV (C := RX2) (T := TX2) (N := 5) hx hb hml hown hts hgo hEX hf hK rfl (mm_GV hAW (mm_GI hAW gi_24) qw_1333 qw_1334 qw_1335 qw_132) rfl ⟨rfl, hd_24⟩ (mm_rm hRf hRl (Nat.le_of_ble_eq_true rfl)) (by decide +kernel)))
    (ms_lf (ms_if_eq hx hb (by decide) (by decide +kernel)))))
    (ms_b (ms_b (ms_lf (ms_iconst hx hb (by decide) (by decide +kernel)))
    (ms_lf (ms_goto hx hb (by decide) (by decide +kernel))))
    (ms_b (ms_lf (ms_iconst hx hb (by decide) (by decide +kernel)))
    (ms_lf (ms_iret hx hb hr hlk (by decide +kernel)))))))
set_option maxRecDepth 100000 in
set_option maxHeartbeats 8000000 in
/-- TippedCrates.count -/
theorem sd_157 (l : Launch) (f : Nat → Nat) (D : va_G) (cA : FieldType → ClassId) (d : Nat) : mm_Ok2 l f D cA d (yX11_count, cX11_count, 2, (some .int), mc_157) := by
  intro p e R s m args below meth c C hRf hRl pc
  obtain ⟨hx, hb, hml, hr, hlk, hnm, hown, hts, hEX, hgo, hf⟩ := C
  obtain ⟨hK, hA, hX, hZs, hZc, hZq, hTx, hSR0, hSR1, hAO, hN⟩ := id hEX
  have hAW : ∀ w ∈ mm_AW, w ∈ (Cond.code yX11_count cX11_count 2 (some .int) :: mm_AW) := fun w h => List.mem_cons_of_mem _ h
  have hown : s.vm.findClass "TippedCrates" = some m.cls := hown
  show mm_S p l e R s m args below meth c f D mm_cl cA 2 _ pc (mc_157 pc)
  unfold mc_157
  exact (ms_b (ms_b (ms_b (ms_b (ms_b (ms_lf (ms_iload_n hx hb rfl (by decide +kernel)))
    (ms_lf (ms_tsw hx hb (by decide) (by decide) (by decide +kernel))))
    (ms_b (ms_lf (ms_aload_n hx hb rfl (by decide +kernel)))
    (ms_b (ms_lf (ms_getf (C := RX11) (T := TX11) (N := 11) hx hb hf hts (fun w h => hAW w (inq_11 w h)) hown hK rfl (by decide) (hts _ (hAW _ qw_850)) rfl (by decide +kernel)))
    (ms_lf (ms_getf (C := RX3) (T := TX3) (N := 12) hx hb hf hts (fun w h => hAW w (inq_3 w h)) hown hK rfl (by decide) (hts _ (hAW _ qw_267)) rfl (by decide +kernel))))))
    (ms_b (ms_b (ms_lf (ms_iret hx hb hr hlk (by decide +kernel)))
    (ms_b (ms_lf (ms_aload_n hx hb rfl (by decide +kernel)))
    (ms_lf (ms_getf (C := RX11) (T := TX11) (N := 11) hx hb hf hts (fun w h => hAW w (inq_11 w h)) hown hK rfl (by decide) (hts _ (hAW _ qw_850)) rfl (by decide +kernel)))))
    (ms_b (ms_lf (ms_getf (C := RX3) (T := TX3) (N := 12) hx hb hf hts (fun w h => hAW w (inq_3 w h)) hown hK rfl (by decide) (hts _ (hAW _ qw_270)) rfl (by decide +kernel)))
    (ms_b (ms_lf (ms_iret hx hb hr hlk (by decide +kernel)))
    (ms_lf (ms_aload_n hx hb rfl (by decide +kernel)))))))
    (ms_b (ms_b (ms_b (ms_lf (ms_getf (C := RX11) (T := TX11) (N := 11) hx hb hf hts (fun w h => hAW w (inq_11 w h)) hown hK rfl (by decide) (hts _ (hAW _ qw_850)) rfl (by decide +kernel)))
    (ms_b (ms_lf (ms_getf (C := RX3) (T := TX3) (N := 12) hx hb hf hts (fun w h => hAW w (inq_3 w h)) hown hK rfl (by decide) (hts _ (hAW _ qw_276)) rfl (by decide +kernel)))
    (ms_lf (ms_iret hx hb hr hlk (by decide +kernel)))))
    (ms_b (ms_lf (ms_aload_n hx hb rfl (by decide +kernel)))
    (ms_b (ms_lf (ms_getf (C := RX11) (T := TX11) (N := 11) hx hb hf hts (fun w h => hAW w (inq_11 w h)) hown hK rfl (by decide) (hts _ (hAW _ qw_858)) rfl (by decide +kernel)))
    (ms_lf (ms_getf (C := RX7) (T := TX7) (N := 7) hx hb hf hts (fun w h => hAW w (inq_7 w h)) hown hK rfl (by decide) (hts _ (hAW _ qw_582)) rfl (by decide +kernel))))))
    (ms_b (ms_b (ms_lf (ms_iret hx hb hr hlk (by decide +kernel)))
    (ms_b (ms_lf (ms_aload_n hx hb rfl (by decide +kernel)))
    (ms_lf (ms_getf (C := RX11) (T := TX11) (N := 11) hx hb hf hts (fun w h => hAW w (inq_11 w h)) hown hK rfl (by decide) (hts _ (hAW _ qw_858)) rfl (by decide +kernel)))))
    (ms_b (ms_lf (ms_getf (C := RX7) (T := TX7) (N := 7) hx hb hf hts (fun w h => hAW w (inq_7 w h)) hown hK rfl (by decide) (hts _ (hAW _ qw_585)) rfl (by decide +kernel)))
    (ms_b (ms_lf (ms_iret hx hb hr hlk (by decide +kernel)))
    (ms_lf (ms_aload_n hx hb rfl (by decide +kernel))))))))
    (ms_b (ms_b (ms_b (ms_b (ms_lf (ms_getf (C := RX11) (T := TX11) (N := 11) hx hb hf hts (fun w h => hAW w (inq_11 w h)) hown hK rfl (by decide) (hts _ (hAW _ qw_850)) rfl (by decide +kernel)))
    (ms_lf (ms_getf (C := RX3) (T := TX3) (N := 12) hx hb hf hts (fun w h => hAW w (inq_3 w h)) hown hK rfl (by decide) (hts _ (hAW _ qw_280)) rfl (by decide +kernel))))
    (ms_b (ms_lf (ms_iret hx hb hr hlk (by decide +kernel)))
    (ms_b (ms_lf (ms_aload_n hx hb rfl (by decide +kernel)))
    (ms_lf (ms_getf (C := RX11) (T := TX11) (N := 11) hx hb hf hts (fun w h => hAW w (inq_11 w h)) hown hK rfl (by decide) (hts _ (hAW _ qw_849)) rfl (by decide +kernel))))))
    (ms_b (ms_b (ms_lf (ms_getf (C := RX8) (T := TX8) (N := 7) hx hb hf hts (fun w h => hAW w (inq_8 w h)) hown hK rfl (by decide) (hts _ (hAW _ qw_206)) rfl (by decide +kernel)))
    (ms_b (ms_lf (ms_iret hx hb hr hlk (by decide +kernel)))
    (ms_lf (ms_aload_n hx hb rfl (by decide +kernel)))))
    (ms_b (ms_lf (ms_getf (C := RX11) (T := TX11) (N := 11) hx hb hf hts (fun w h => hAW w (inq_11 w h)) hown hK rfl (by decide) (hts _ (hAW _ qw_857)) rfl (by decide +kernel)))
    (ms_b (ms_lf (ms_getf (C := RX2) (T := TX2) (N := 5) hx hb hf hts (fun w h => hAW w (inq_2 w h)) hown hK rfl (by decide) (hts _ (hAW _ qw_602)) rfl (by decide +kernel)))
    (ms_lf (ms_iret hx hb hr hlk (by decide +kernel)))))))
    (ms_b (ms_b (ms_b (ms_lf (ms_aload_n hx hb rfl (by decide +kernel)))
    (ms_b (ms_lf (ms_getf (C := RX11) (T := TX11) (N := 11) hx hb hf hts (fun w h => hAW w (inq_11 w h)) hown hK rfl (by decide) (hts _ (hAW _ qw_856)) rfl (by decide +kernel)))
    (ms_lf (ms_getf (C := RX5) (T := TX5) (N := 11) hx hb hf hts (fun w h => hAW w (inq_5 w h)) hown hK rfl (by decide) (hts _ (hAW _ qw_514)) rfl (by decide +kernel)))))
    (ms_b (ms_lf (ms_iret hx hb hr hlk (by decide +kernel)))
    (ms_b (ms_lf (ms_aload_n hx hb rfl (by decide +kernel)))
    (ms_lf (ms_getf (C := RX11) (T := TX11) (N := 11) hx hb hf hts (fun w h => hAW w (inq_11 w h)) hown hK rfl (by decide) (hts _ (hAW _ qw_857)) rfl (by decide +kernel))))))
    (ms_b (ms_b (ms_lf (ms_ivV (C := RX2) (T := TX2) (N := 5) hx hb hml hown hts hgo hEX hf hK rfl (mm_GV hAW (mm_GI hAW gi_25) qw_1341 qw_1342 qw_1343 qw_132) rfl ⟨rfl, hd_25⟩ (mm_rm hRf hRl (Nat.le_of_ble_eq_true rfl)) (by decide +kernel)))
    (ms_b (ms_lf (ms_iret hx hb hr hlk (by decide +kernel)))
    (ms_lf (ms_aload_n hx hb rfl (by decide +kernel)))))
    (ms_b (ms_lf (ms_iload_n hx hb rfl (by decide +kernel)))
    (ms_b (ms_lf (ms_ivV (C := RX11) (T := TX11) (N := 11) hx hb hml hown hts hgo hEX hf hK rfl (mm_GV hAW (mm_GI hAW gi_158) qw_1345 qw_1347 qw_43 qw_117) rfl ⟨rfl, hd_158⟩ (mm_rm hRf hRl (Nat.le_of_ble_eq_true rfl)) (by decide +kernel)))
    (ms_lf (ms_iret hx hb hr hlk (by decide +kernel)))))))))
set_option maxRecDepth 100000 in
set_option maxHeartbeats 8000000 in
/-- TippedCrates.countCratesAndFlags -/
theorem sd_158 (l : Launch) (f : Nat → Nat) (D : va_G) (cA : FieldType → ClassId) (d : Nat) : mm_Ok2 l f D cA d (yX11_countCratesAndFlags, cX11_countCratesAndFlags, 2, (some .int), mc_158) := by
  intro p e R s m args below meth c C hRf hRl pc
  obtain ⟨hx, hb, hml, hr, hlk, hnm, hown, hts, hEX, hgo, hf⟩ := C
  obtain ⟨hK, hA, hX, hZs, hZc, hZq, hTx, hSR0, hSR1, hAO, hN⟩ := id hEX
  have hAW : ∀ w ∈ mm_AW, w ∈ (Cond.code yX11_countCratesAndFlags cX11_countCratesAndFlags 2 (some .int) :: mm_AW) := fun w h => List.mem_cons_of_mem _ h
  have hown : s.vm.findClass "TippedCrates" = some m.cls := hown
  show mm_S p l e R s m args below meth c f D mm_cl cA 2 _ pc (mc_158 pc)
  unfold mc_158
  exact (ms_b (ms_b (ms_b (ms_b (ms_lf (ms_iload_n hx hb rfl (by decide +kernel)))
    (ms_b (ms_lf (ms_tsw hx hb (by decide) (by decide) (by decide +kernel)))
    (ms_lf (ms_aload_n hx hb rfl (by decide +kernel)))))
    (ms_b (ms_b (ms_lf (ms_getf (C := RX11) (T := TX11) (N := 11) hx hb hf hts (fun w h => hAW w (inq_11 w h)) hown hK rfl (by decide) (hts _ (hAW _ qw_858)) rfl (by decide +kernel)))
    (ms_lf (ms_ivV (C := RX7) (T := TX7) (N := 7) hx hb hml hown hts hgo hEX hf hK rfl (mm_GV hAW (mm_GI hAW gi_79) qw_1349 qw_1350 qw_1351 qw_133) rfl ⟨rfl, hd_79⟩ (mm_rm hRf hRl (Nat.le_of_ble_eq_true rfl)) (by decide +kernel))))
    (ms_b (ms_lf (ms_iret hx hb hr hlk (by decide +kernel)))
    (ms_lf (ms_aload_n hx hb rfl (by decide +kernel))))))
    (ms_b (ms_b (ms_b (ms_lf (ms_getf (C := RX11) (T := TX11) (N := 11) hx hb hf hts (fun w h => hAW w (inq_11 w h)) hown hK rfl (by decide) (hts _ (hAW _ qw_858)) rfl (by decide +kernel)))
    (ms_lf (ms_ivV (C := RX7) (T := TX7) (N := 7) hx hb hml hown hts hgo hEX hf hK rfl (mm_GV hAW (mm_GI hAW gi_80) qw_1353 qw_1354 qw_1355 qw_133) rfl ⟨rfl, hd_80⟩ (mm_rm hRf hRl (Nat.le_of_ble_eq_true rfl)) (by decide +kernel))))
    (ms_b (ms_lf (ms_iret hx hb hr hlk (by decide +kernel)))
    (ms_lf (ms_aload_n hx hb rfl (by decide +kernel)))))
    (ms_b (ms_b (ms_lf (ms_getf (C := RX11) (T := TX11) (N := 11) hx hb hf hts (fun w h => hAW w (inq_11 w h)) hown hK rfl (by decide) (hts _ (hAW _ qw_858)) rfl (by decide +kernel)))
    (ms_lf (ms_ivV (C := RX7) (T := TX7) (N := 7) hx hb hml hown hts hgo hEX hf hK rfl (mm_GV hAW (mm_GI hAW gi_82) qw_1357 qw_1358 qw_1359 qw_133) rfl ⟨rfl, hd_82⟩ (mm_rm hRf hRl (Nat.le_of_ble_eq_true rfl)) (by decide +kernel))))
    (ms_b (ms_lf (ms_iret hx hb hr hlk (by decide +kernel)))
    (ms_lf (ms_aload_n hx hb rfl (by decide +kernel)))))))
    (ms_b (ms_b (ms_b (ms_b (ms_lf (ms_getf (C := RX11) (T := TX11) (N := 11) hx hb hf hts (fun w h => hAW w (inq_11 w h)) hown hK rfl (by decide) (hts _ (hAW _ qw_858)) rfl (by decide +kernel)))
    (ms_lf (ms_ivV (C := RX7) (T := TX7) (N := 7) hx hb hml hown hts hgo hEX hf hK rfl (mm_GV hAW (mm_GI hAW gi_83) qw_1361 qw_1052 qw_1053 qw_133) rfl ⟨rfl, hd_83⟩ (mm_rm hRf hRl (Nat.le_of_ble_eq_true rfl)) (by decide +kernel))))
    (ms_b (ms_lf (ms_iret hx hb hr hlk (by decide +kernel)))
    (ms_lf (ms_aload_n hx hb rfl (by decide +kernel)))))
    (ms_b (ms_b (ms_lf (ms_getf (C := RX11) (T := TX11) (N := 11) hx hb hf hts (fun w h => hAW w (inq_11 w h)) hown hK rfl (by decide) (hts _ (hAW _ qw_858)) rfl (by decide +kernel)))
    (ms_lf (ms_ivV (C := RX7) (T := TX7) (N := 7) hx hb hml hown hts hgo hEX hf hK rfl (mm_GV hAW (mm_GI hAW gi_81) qw_1362 qw_1363 qw_1364 qw_133) rfl ⟨rfl, hd_81⟩ (mm_rm hRf hRl (Nat.le_of_ble_eq_true rfl)) (by decide +kernel))))
    (ms_b (ms_lf (ms_iret hx hb hr hlk (by decide +kernel)))
    (ms_lf (ms_aload_n hx hb rfl (by decide +kernel))))))
    (ms_b (ms_b (ms_b (ms_lf (ms_ivV (C := RX11) (T := TX11) (N := 11) hx hb hml hown hts hgo hEX hf hK rfl (mm_GV hAW (mm_GI hAW gi_159) qw_1367 qw_1369 qw_44 qw_117) rfl ⟨rfl, hd_159⟩ (mm_rm hRf hRl (Nat.le_of_ble_eq_true rfl)) (by decide +kernel)))
    (ms_lf (ms_iret hx hb hr hlk (by decide +kernel))))
    (ms_b (ms_lf (ms_aload_n hx hb rfl (by decide +kernel)))
    (ms_lf (ms_getf (C := RX11) (T := TX11) (N := 11) hx hb hf hts (fun w h => hAW w (inq_11 w h)) hown hK rfl (by decide) (hts _ (hAW _ qw_858)) rfl (by decide +kernel)))))
    (ms_b (ms_b (ms_lf (ms_ivV (C := RX7) (T := TX7) (N := 7) hx hb hml hown hts hgo hEX hf hK rfl (mm_GV hAW (mm_GI hAW gi_84) qw_1371 qw_1372 qw_1373 qw_133) rfl ⟨rfl, hd_84⟩ (mm_rm hRf hRl (Nat.le_of_ble_eq_true rfl)) (by decide +kernel)))
    (ms_lf (ms_iret hx hb hr hlk (by decide +kernel))))
    (ms_b (ms_lf (ms_iconst hx hb (by decide) (by decide +kernel)))
    (ms_lf (ms_iret hx hb hr hlk (by decide +kernel))))))))
set_option maxRecDepth 100000 in
set_option maxHeartbeats 8000000 in
/-- TippedCrates.stuckCrates -/
theorem sd_159 (l : Launch) (f : Nat → Nat) (D : va_G) (cA : FieldType → ClassId) (d : Nat) : mm_Ok2 l f D cA d (yX11_stuckCrates, cX11_stuckCrates, 5, (some .int), mc_159) := by
  intro p e R s m args below meth c C hRf hRl pc
  obtain ⟨hx, hb, hml, hr, hlk, hnm, hown, hts, hEX, hgo, hf⟩ := C
  obtain ⟨hK, hA, hX, hZs, hZc, hZq, hTx, hSR0, hSR1, hAO, hN⟩ := id hEX
  have hAW : ∀ w ∈ mm_AW, w ∈ (Cond.code yX11_stuckCrates cX11_stuckCrates 5 (some .int) :: mm_AW) := fun w h => List.mem_cons_of_mem _ h
  have hown : s.vm.findClass "TippedCrates" = some m.cls := hown
  show mm_S p l e R s m args below meth c f D mm_cl cA 5 _ pc (mc_159 pc)
  unfold mc_159
  exact (ms_b (ms_b (ms_b (ms_b (ms_b (ms_lf (ms_iconst hx hb (by decide) (by decide +kernel)))
    (ms_lf (ms_istore_n hx hb rfl (by decide : 1 < 5) (by decide +kernel))))
    (ms_b (ms_lf (ms_iconst hx hb (by decide) (by decide +kernel)))
    (ms_b (ms_lf (ms_istore_n hx hb rfl (by decide : 2 < 5) (by decide +kernel)))
    (ms_lf (ms_iload_n hx hb rfl (by decide +kernel))))))
    (ms_b (ms_b (ms_lf (ms_aload_n hx hb rfl (by decide +kernel)))
    (ms_lf (ms_getf (C := RX11) (T := TX11) (N := 11) hx hb hf hts (fun w h => hAW w (inq_11 w h)) hown hK rfl (by decide) (hts _ (hAW _ qw_850)) rfl (by decide +kernel))))
    (ms_b (ms_lf (ms_getf (C := RX3) (T := TX3) (N := 12) hx hb hf hts (fun w h => hAW w (inq_3 w h)) hown hK rfl (by decide) (hts _ (hAW _ qw_276)) rfl (by decide +kernel)))
    (ms_b (ms_lf (ms_ic_ge hx hb (by decide) (by decide +kernel)))
    (ms_lf (ms_iconst hx hb (by decide) (by decide +kernel)))))))
    (ms_b (ms_b (ms_b (ms_lf (ms_istore_n hx hb rfl (by decide : 3 < 5) (by decide +kernel)))
    (ms_lf (ms_iconst hx hb (by decide) (by decide +kernel))))
    (ms_b (ms_lf (ms_istore hx hb (by decide : 4 < 5) (by decide +kernel)))
    (ms_b (ms_lf (ms_iload hx hb (by decide +kernel)))
    (ms_lf (ms_iconst hx hb (by decide) (by decide +kernel))))))
    (ms_b (ms_b (ms_lf (ms_ic_ge hx hb (by decide) (by decide +kernel)))
    (ms_lf (ms_iload_n hx hb rfl (by decide +kernel))))
    (ms_b (ms_lf (ms_aload_n hx hb rfl (by decide +kernel)))
    (ms_b (ms_lf (ms_getf (C := RX11) (T := TX11) (N := 11) hx hb hf hts (fun w h => hAW w (inq_11 w h)) hown hK rfl (by decide) (hts _ (hAW _ qw_852)) rfl (by decide +kernel)))
    (ms_lf (ms_aload_n hx hb rfl (by decide +kernel))))))))
    (ms_b (ms_b (ms_b (ms_b (ms_lf (ms_getf (C := RX11) (T := TX11) (N := 11) hx hb hf hts (fun w h => hAW w (inq_11 w h)) hown hK rfl (by decide) (hts _ (hAW _ qw_858)) rfl (by decide +kernel)))
    (ms_lf (ms_iload_n hx hb rfl (by decide +kernel))))
    (ms_b (ms_lf (ms_iload hx hb (by decide +kernel)))
    (ms_b (ms_lf (ms_ivV (C := RX0) (T := TX0) (N := 1) hx hb hml hown hts hgo hEX hf hK rfl (mm_GV hAW (mm_GI hAW gi_1) qw_959 qw_960 qw_961 qw_126) rfl ⟨rfl, hd_1⟩ (mm_rm hRf hRl (Nat.le_of_ble_eq_true rfl)) (by decide +kernel)))
    (ms_lf (ms_ior hx hb (by decide +kernel))))))
    (ms_b (ms_b (ms_lf (ms_istore_n hx hb rfl (by decide : 3 < 5) (by decide +kernel)))
    (ms_lf (ms_iinc hx hb (by decide) (by decide : 4 < 5) (by decide +kernel))))
    (ms_b (ms_lf (ms_goto hx hb (by decide) (by decide +kernel)))
    (ms_b (ms_lf (ms_iload_n hx hb rfl (by decide +kernel)))
    (ms_lf (ms_if_ne hx hb (by decide) (by decide +kernel)))))))
    (ms_b (ms_b (ms_b (ms_lf (ms_iload_n hx hb rfl (by decide +kernel)))
    (ms_lf (ms_iconst hx hb (by decide) (by decide +kernel))))
    (ms_b (ms_lf (ms_iload_n hx hb rfl (by decide +kernel)))
    (ms_b (ms_lf (ms_ishl hx hb (by decide +kernel)))
    (ms_lf (ms_ior hx hb (by decide +kernel))))))
    (ms_b (ms_b (ms_lf (ms_istore_n hx hb rfl (by decide : 1 < 5) (by decide +kernel)))
    (ms_lf (ms_iinc hx hb (by decide) (by decide : 2 < 5) (by decide +kernel))))
    (ms_b (ms_lf (ms_goto hx hb (by decide) (by decide +kernel)))
    (ms_b (ms_lf (ms_iload_n hx hb rfl (by decide +kernel)))
    (ms_lf (ms_iret hx hb hr hlk (by decide +kernel)))))))))
set_option maxRecDepth 100000 in
set_option maxHeartbeats 8000000 in
/-- TippedCrates.foresee -/
theorem sd_160 (l : Launch) (f : Nat → Nat) (D : va_G) (cA : FieldType → ClassId) (d : Nat) : mm_Ok2 l f D cA d (yX11_foresee, cX11_foresee, 3, none, mc_160) := by
  intro p e R s m args below meth c C hRf hRl pc
  obtain ⟨hx, hb, hml, hr, hlk, hnm, hown, hts, hEX, hgo, hf⟩ := C
  obtain ⟨hK, hA, hX, hZs, hZc, hZq, hTx, hSR0, hSR1, hAO, hN⟩ := id hEX
  have hAW : ∀ w ∈ mm_AW, w ∈ (Cond.code yX11_foresee cX11_foresee 3 none :: mm_AW) := fun w h => List.mem_cons_of_mem _ h
  have hown : s.vm.findClass "TippedCrates" = some m.cls := hown
  show mm_S p l e R s m args below meth c f D mm_cl cA 3 _ pc (mc_160 pc)
  unfold mc_160
  exact (ms_b (ms_b (ms_b (ms_lf (ms_aload_n hx hb rfl (by decide +kernel)))
    (ms_b (ms_lf (ms_getf (C := RX11) (T := TX11) (N := 11) hx hb hf hts (fun w h => hAW w (inq_11 w h)) hown hK rfl (by decide) (hts _ (hAW _ qw_859)) rfl (by decide +kernel)))
    (ms_lf (ms_aload_n hx hb rfl (by decide +kernel)))))
    (ms_b (ms_lf (ms_getf (C := RX11) (T := TX11) (N := 11) hx hb hf hts (fun w h => hAW w (inq_11 w h)) hown hK rfl (by decide) (hts _ (hAW _ qw_858)) rfl (by decide +kernel)))
    (ms_b (ms_lf (ms_ivV (C := RX7) (T := TX7) (N := 7) hx hb hml hown hts hgo hEX hf hK rfl (mm_GV hAW (mm_GI hAW gi_76) qw_1254 qw_992 qw_993 qw_133) rfl ⟨rfl, hd_76⟩ (mm_rm hRf hRl (Nat.le_of_ble_eq_true rfl)) (by decide +kernel)))
    (ms_lf (ms_aload_n hx hb rfl (by decide +kernel))))))
    (ms_b (ms_b (ms_lf (ms_getf (C := RX11) (T := TX11) (N := 11) hx hb hf hts (fun w h => hAW w (inq_11 w h)) hown hK rfl (by decide) (hts _ (hAW _ qw_852)) rfl (by decide +kernel)))
    (ms_b (ms_lf (ms_aload_n hx hb rfl (by decide +kernel)))
    (ms_lf (ms_getf (C := RX11) (T := TX11) (N := 11) hx hb hf hts (fun w h => hAW w (inq_11 w h)) hown hK rfl (by decide) (hts _ (hAW _ qw_859)) rfl (by decide +kernel)))))
    (ms_b (ms_b (ms_lf (ms_iload_n hx hb rfl (by decide +kernel)))
    (ms_lf (ms_iload_n hx hb rfl (by decide +kernel))))
    (ms_b (ms_lf (ms_ivV (C := RX0) (T := TX0) (N := 1) hx hb hml hown hts hgo hEX hf hK rfl (mm_GV hAW (mm_GI hAW gi_8) qw_1015 qw_1016 qw_1017 qw_126) rfl ⟨rfl, hd_8⟩ (mm_rm hRf hRl (Nat.le_of_ble_eq_true rfl)) (by decide +kernel)))
    (ms_lf (ms_ret hx hb hr hlk (by decide +kernel)))))))
set_option maxRecDepth 100000 in
set_option maxHeartbeats 8000000 in
/-- TippedCrates.canAskRows -/
theorem sd_161 (l : Launch) (f : Nat → Nat) (D : va_G) (cA : FieldType → ClassId) (d : Nat) : mm_Ok2 l f D cA d (yX11_canAskRows, cX11_canAskRows, 4, (some .boolean), mc_161) := by
  intro p e R s m args below meth c C hRf hRl pc
  obtain ⟨hx, hb, hml, hr, hlk, hnm, hown, hts, hEX, hgo, hf⟩ := C
  obtain ⟨hK, hA, hX, hZs, hZc, hZq, hTx, hSR0, hSR1, hAO, hN⟩ := id hEX
  have hAW : ∀ w ∈ mm_AW, w ∈ (Cond.code yX11_canAskRows cX11_canAskRows 4 (some .boolean) :: mm_AW) := fun w h => List.mem_cons_of_mem _ h
  have hown : s.vm.findClass "TippedCrates" = some m.cls := hown
  show mm_S p l e R s m args below meth c f D mm_cl cA 4 _ pc (mc_161 pc)
  unfold mc_161
  exact (ms_b (ms_b (ms_b (ms_b (ms_lf (ms_iload_n hx hb rfl (by decide +kernel)))
    (ms_lf (ms_iconst hx hb (by decide) (by decide +kernel))))
    (ms_b (ms_lf (ms_aload_n hx hb rfl (by decide +kernel)))
    (ms_b (ms_lf (ms_getf (C := RX11) (T := TX11) (N := 11) hx hb hf hts (fun w h => hAW w (inq_11 w h)) hown hK rfl (by decide) (hts _ (hAW _ qw_856)) rfl (by decide +kernel)))
    (ms_lf (ms_getf (C := RX5) (T := TX5) (N := 11) hx hb hf hts (fun w h => hAW w (inq_5 w h)) hown hK rfl (by decide) (hts _ (hAW _ qw_514)) rfl (by decide +kernel))))))
    (ms_b (ms_b (ms_lf (ms_ivS hx hb hml hown hts hgo hEX (mm_GS hAW (mm_GI hAW gi_166) qw_919 qw_748 qw_117) rfl hd_166 (mm_rm hRf hRl (Nat.le_of_ble_eq_true rfl)) (by decide +kernel)))
    (ms_lf (ms_if_eq hx hb (by decide) (by decide +kernel))))
    (ms_b (ms_lf (ms_aload_n hx hb rfl (by decide +kernel)))
    (ms_b (ms_lf (ms_iload_n hx hb rfl (by decide +kernel)))
    (ms_lf (ms_ivV (C := RX11) (T := TX11) (N := 11) hx hb hml hown hts hgo hEX hf hK rfl (mm_GV hAW (mm_GI hAW gi_162) qw_932 qw_934 qw_27 qw_117) rfl ⟨rfl, hd_162⟩ (mm_rm hRf hRl (Nat.le_of_ble_eq_true rfl)) (by decide +kernel)))))))
    (ms_b (ms_b (ms_b (ms_lf (ms_if_eq hx hb (by decide) (by decide +kernel)))
    (ms_lf (ms_iload_n hx hb rfl (by decide +kernel))))
    (ms_b (ms_lf (ms_iconst hx hb (by decide) (by decide +kernel)))
    (ms_b (ms_lf (ms_iconst hx hb (by decide) (by decide +kernel)))
    (ms_lf (ms_ivS hx hb hml hown hts hgo hEX (mm_GS hAW (mm_GI hAW gi_166) qw_919 qw_748 qw_117) rfl hd_166 (mm_rm hRf hRl (Nat.le_of_ble_eq_true rfl)) (by decide +kernel))))))
    (ms_b (ms_b (ms_lf (ms_if_eq hx hb (by decide) (by decide +kernel)))
    (ms_lf (ms_iconst hx hb (by decide) (by decide +kernel))))
    (ms_b (ms_lf (ms_goto hx hb (by decide) (by decide +kernel)))
    (ms_b (ms_lf (ms_iconst hx hb (by decide) (by decide +kernel)))
    (ms_lf (ms_iret hx hb hr hlk (by decide +kernel))))))))
set_option maxRecDepth 100000 in
set_option maxHeartbeats 8000000 in
/-- TippedCrates.isCrate -/
theorem sd_162 (l : Launch) (f : Nat → Nat) (D : va_G) (cA : FieldType → ClassId) (d : Nat) : mm_Ok2 l f D cA d (yX11_isCrate, cX11_isCrate, 2, (some .boolean), mc_162) := by
  intro p e R s m args below meth c C hRf hRl pc
  obtain ⟨hx, hb, hml, hr, hlk, hnm, hown, hts, hEX, hgo, hf⟩ := C
  obtain ⟨hK, hA, hX, hZs, hZc, hZq, hTx, hSR0, hSR1, hAO, hN⟩ := id hEX
  have hAW : ∀ w ∈ mm_AW, w ∈ (Cond.code yX11_isCrate cX11_isCrate 2 (some .boolean) :: mm_AW) := fun w h => List.mem_cons_of_mem _ h
  have hown : s.vm.findClass "TippedCrates" = some m.cls := hown
  show mm_S p l e R s m args below meth c f D mm_cl cA 2 _ pc (mc_162 pc)
  unfold mc_162
  exact (ms_b (ms_b (ms_b (ms_lf (ms_iload_n hx hb rfl (by decide +kernel)))
    (ms_lf (ms_iconst hx hb (by decide) (by decide +kernel))))
    (ms_b (ms_lf (ms_aload_n hx hb rfl (by decide +kernel)))
    (ms_lf (ms_getf (C := RX11) (T := TX11) (N := 11) hx hb hf hts (fun w h => hAW w (inq_11 w h)) hown hK rfl (by decide) (hts _ (hAW _ qw_850)) rfl (by decide +kernel)))))
    (ms_b (ms_b (ms_lf (ms_getf (C := RX3) (T := TX3) (N := 12) hx hb hf hts (fun w h => hAW w (inq_3 w h)) hown hK rfl (by decide) (hts _ (hAW _ qw_276)) rfl (by decide +kernel)))
    (ms_lf (ms_iconst hx hb (by decide) (by decide +kernel))))
    (ms_b (ms_lf (ms_isub hx hb (by decide +kernel)))
    (ms_b (ms_lf (ms_ivS hx hb hml hown hts hgo hEX (mm_GS hAW (mm_GI hAW gi_166) qw_919 qw_748 qw_117) rfl hd_166 (mm_rm hRf hRl (Nat.le_of_ble_eq_true rfl)) (by decide +kernel)))
    (ms_lf (ms_iret hx hb hr hlk (by decide +kernel)))))))
set_option maxRecDepth 100000 in
set_option maxHeartbeats 8000000 in
/-- TippedCrates.isFlag -/
theorem sd_163 (l : Launch) (f : Nat → Nat) (D : va_G) (cA : FieldType → ClassId) (d : Nat) : mm_Ok2 l f D cA d (yX11_isFlag, cX11_isFlag, 2, (some .boolean), mc_163) := by
  intro p e R s m args below meth c C hRf hRl pc
  obtain ⟨hx, hb, hml, hr, hlk, hnm, hown, hts, hEX, hgo, hf⟩ := C
  obtain ⟨hK, hA, hX, hZs, hZc, hZq, hTx, hSR0, hSR1, hAO, hN⟩ := id hEX
  have hAW : ∀ w ∈ mm_AW, w ∈ (Cond.code yX11_isFlag cX11_isFlag 2 (some .boolean) :: mm_AW) := fun w h => List.mem_cons_of_mem _ h
  have hown : s.vm.findClass "TippedCrates" = some m.cls := hown
  show mm_S p l e R s m args below meth c f D mm_cl cA 2 _ pc (mc_163 pc)
  unfold mc_163
  exact (ms_b (ms_b (ms_b (ms_lf (ms_iload_n hx hb rfl (by decide +kernel)))
    (ms_b (ms_lf (ms_iconst hx hb (by decide) (by decide +kernel)))
    (ms_lf (ms_aload_n hx hb rfl (by decide +kernel)))))
    (ms_b (ms_lf (ms_getf (C := RX11) (T := TX11) (N := 11) hx hb hf hts (fun w h => hAW w (inq_11 w h)) hown hK rfl (by decide) (hts _ (hAW _ qw_850)) rfl (by decide +kernel)))
    (ms_b (ms_lf (ms_getf (C := RX3) (T := TX3) (N := 12) hx hb hf hts (fun w h => hAW w (inq_3 w h)) hown hK rfl (by decide) (hts _ (hAW _ qw_267)) rfl (by decide +kernel)))
    (ms_lf (ms_aload_n hx hb rfl (by decide +kernel))))))
    (ms_b (ms_b (ms_lf (ms_getf (C := RX11) (T := TX11) (N := 11) hx hb hf hts (fun w h => hAW w (inq_11 w h)) hown hK rfl (by decide) (hts _ (hAW _ qw_850)) rfl (by decide +kernel)))
    (ms_b (ms_lf (ms_getf (C := RX3) (T := TX3) (N := 12) hx hb hf hts (fun w h => hAW w (inq_3 w h)) hown hK rfl (by decide) (hts _ (hAW _ qw_270)) rfl (by decide +kernel)))
    (ms_lf (ms_imul hx hb (by decide +kernel)))))
    (ms_b (ms_b (ms_lf (ms_iconst hx hb (by decide) (by decide +kernel)))
    (ms_lf (ms_isub hx hb (by decide +kernel))))
    (ms_b (ms_lf (ms_ivS hx hb hml hown hts hgo hEX (mm_GS hAW (mm_GI hAW gi_166) qw_919 qw_748 qw_117) rfl hd_166 (mm_rm hRf hRl (Nat.le_of_ble_eq_true rfl)) (by decide +kernel)))
    (ms_lf (ms_iret hx hb hr hlk (by decide +kernel)))))))
set_option maxRecDepth 100000 in
set_option maxHeartbeats 8000000 in
/-- TippedCrates.isMark -/
theorem sd_164 (l : Launch) (f : Nat → Nat) (D : va_G) (cA : FieldType → ClassId) (d : Nat) : mm_Ok2 l f D cA d (yX11_isMark, cX11_isMark, 1, (some .boolean), mc_164) := by
  intro p e R s m args below meth c C hRf hRl pc
  obtain ⟨hx, hb, hml, hr, hlk, hnm, hown, hts, hEX, hgo, hf⟩ := C
  obtain ⟨hK, hA, hX, hZs, hZc, hZq, hTx, hSR0, hSR1, hAO, hN⟩ := id hEX
  have hAW : ∀ w ∈ mm_AW, w ∈ (Cond.code yX11_isMark cX11_isMark 1 (some .boolean) :: mm_AW) := fun w h => List.mem_cons_of_mem _ h
  have hown : s.vm.findClass "TippedCrates" = some m.cls := hown
  show mm_S p l e R s m args below meth c f D mm_cl cA 1 _ pc (mc_164 pc)
  unfold mc_164
  exact (ms_b (ms_b (ms_lf (ms_iload_n hx hb rfl (by decide +kernel)))
    (ms_lf (ms_iconst hx hb (by decide) (by decide +kernel))))
    (ms_b (ms_lf (ms_bipush hx hb (by decide) (by decide +kernel)))
    (ms_b (ms_lf (ms_ivS hx hb hml hown hts hgo hEX (mm_GS hAW (mm_GI hAW gi_166) qw_919 qw_748 qw_117) rfl hd_166 (mm_rm hRf hRl (Nat.le_of_ble_eq_true rfl)) (by decide +kernel)))
    (ms_lf (ms_iret hx hb hr hlk (by decide +kernel))))))
set_option maxRecDepth 100000 in
set_option maxHeartbeats 8000000 in
/-- TippedCrates.isWay -/
theorem sd_165 (l : Launch) (f : Nat → Nat) (D : va_G) (cA : FieldType → ClassId) (d : Nat) : mm_Ok2 l f D cA d (yX11_isWay, cX11_isWay, 1, (some .boolean), mc_165) := by
  intro p e R s m args below meth c C hRf hRl pc
  obtain ⟨hx, hb, hml, hr, hlk, hnm, hown, hts, hEX, hgo, hf⟩ := C
  obtain ⟨hK, hA, hX, hZs, hZc, hZq, hTx, hSR0, hSR1, hAO, hN⟩ := id hEX
  have hAW : ∀ w ∈ mm_AW, w ∈ (Cond.code yX11_isWay cX11_isWay 1 (some .boolean) :: mm_AW) := fun w h => List.mem_cons_of_mem _ h
  have hown : s.vm.findClass "TippedCrates" = some m.cls := hown
  show mm_S p l e R s m args below meth c f D mm_cl cA 1 _ pc (mc_165 pc)
  unfold mc_165
  exact (ms_b (ms_b (ms_lf (ms_iload_n hx hb rfl (by decide +kernel)))
    (ms_lf (ms_iconst hx hb (by decide) (by decide +kernel))))
    (ms_b (ms_lf (ms_iconst hx hb (by decide) (by decide +kernel)))
    (ms_b (ms_lf (ms_ivS hx hb hml hown hts hgo hEX (mm_GS hAW (mm_GI hAW gi_166) qw_919 qw_748 qw_117) rfl hd_166 (mm_rm hRf hRl (Nat.le_of_ble_eq_true rfl)) (by decide +kernel)))
    (ms_lf (ms_iret hx hb hr hlk (by decide +kernel))))))
set_option maxRecDepth 100000 in
set_option maxHeartbeats 8000000 in
/-- TippedCrates.within -/
theorem sd_166 (l : Launch) (f : Nat → Nat) (D : va_G) (cA : FieldType → ClassId) (d : Nat) : mm_Ok2 l f D cA d (yX11_within, cX11_within, 3, (some .boolean), mc_166) := by
  intro p e R s m args below meth c C hRf hRl pc
  obtain ⟨hx, hb, hml, hr, hlk, hnm, hown, hts, hEX, hgo, hf⟩ := C
  obtain ⟨hK, hA, hX, hZs, hZc, hZq, hTx, hSR0, hSR1, hAO, hN⟩ := id hEX
  have hAW : ∀ w ∈ mm_AW, w ∈ (Cond.code yX11_within cX11_within 3 (some .boolean) :: mm_AW) := fun w h => List.mem_cons_of_mem _ h
  have hown : s.vm.findClass "TippedCrates" = some m.cls := hown
  show mm_S p l e R s m args below meth c f D mm_cl cA 3 _ pc (mc_166 pc)
  unfold mc_166
  exact (ms_b (ms_b (ms_b (ms_lf (ms_iload_n hx hb rfl (by decide +kernel)))
    (ms_lf (ms_iload_n hx hb rfl (by decide +kernel))))
    (ms_b (ms_lf (ms_ic_lt hx hb (by decide) (by decide +kernel)))
    (ms_b (ms_lf (ms_iload_n hx hb rfl (by decide +kernel)))
    (ms_lf (ms_iload_n hx hb rfl (by decide +kernel))))))
    (ms_b (ms_b (ms_lf (ms_ic_gt hx hb (by decide) (by decide +kernel)))
    (ms_lf (ms_iconst hx hb (by decide) (by decide +kernel))))
    (ms_b (ms_lf (ms_goto hx hb (by decide) (by decide +kernel)))
    (ms_b (ms_lf (ms_iconst hx hb (by decide) (by decide +kernel)))
    (ms_lf (ms_iret hx hb hr hlk (by decide +kernel)))))))
set_option maxRecDepth 100000 in
set_option maxHeartbeats 8000000 in
/-- TippedCrates.turnFaces -/
theorem sd_167 (l : Launch) (f : Nat → Nat) (D : va_G) (cA : FieldType → ClassId) (d : Nat) : mm_Ok2 l f D cA d (yX11_turnFaces, cX11_turnFaces, 6, none, mc_167) := by
  intro p e R s m args below meth c C hRf hRl pc
  obtain ⟨hx, hb, hml, hr, hlk, hnm, hown, hts, hEX, hgo, hf⟩ := C
  obtain ⟨hK, hA, hX, hZs, hZc, hZq, hTx, hSR0, hSR1, hAO, hN⟩ := id hEX
  have hAW : ∀ w ∈ mm_AW, w ∈ (Cond.code yX11_turnFaces cX11_turnFaces 6 none :: mm_AW) := fun w h => List.mem_cons_of_mem _ h
  have hown : s.vm.findClass "TippedCrates" = some m.cls := hown
  show mm_S p l e R s m args below meth c f D mm_cl cA 6 _ pc (mc_167 pc)
  unfold mc_167
  exact (ms_b (ms_b (ms_b (ms_b (ms_b (ms_lf (ms_iload_n hx hb rfl (by decide +kernel)))
    (ms_lf (ms_gs hx hb hown (hZs 0 _ rfl) (hts _ (hAW _ qw_412)) rfl (by decide +kernel))))
    (ms_b (ms_lf (ms_iload_n hx hb rfl (by decide +kernel)))
    (ms_b (ms_lf (ms_iald hx hb hf hA hX (by decide +kernel)))
    (ms_lf (ms_iadd hx hb (by decide +kernel))))))
    (ms_b (ms_b (ms_lf (ms_istore_n hx hb rfl (by decide : 3 < 6) (by decide +kernel)))
    (ms_b (ms_lf (ms_iload_n hx hb rfl (by decide +kernel)))
    (ms_lf (ms_gs hx hb hown (hZs 1 _ rfl) (hts _ (hAW _ qw_414)) rfl (by decide +kernel)))))
    (ms_b (ms_lf (ms_iload_n hx hb rfl (by decide +kernel)))
    (ms_b (ms_lf (ms_iald hx hb hf hA hX (by decide +kernel)))
    (ms_lf (ms_iadd hx hb (by decide +kernel)))))))
    (ms_b (ms_b (ms_b (ms_lf (ms_istore hx hb (by decide : 4 < 6) (by decide +kernel)))
    (ms_b (ms_lf (ms_aload_n hx hb rfl (by decide +kernel)))
    (ms_lf (ms_iload_n hx hb rfl (by decide +kernel)))))
    (ms_b (ms_lf (ms_iconst hx hb (by decide) (by decide +kernel)))
    (ms_b (ms_lf (ms_iadd hx hb (by decide +kernel)))
    (ms_lf (ms_iald hx hb hf hA hX (by decide +kernel))))))
    (ms_b (ms_b (ms_lf (ms_istore hx hb (by decide : 5 < 6) (by decide +kernel)))
    (ms_b (ms_lf (ms_aload_n hx hb rfl (by decide +kernel)))
    (ms_lf (ms_iload_n hx hb rfl (by decide +kernel)))))
    (ms_b (ms_lf (ms_iconst hx hb (by decide) (by decide +kernel)))
    (ms_b (ms_lf (ms_iadd hx hb (by decide +kernel)))
    (ms_lf (ms_aload_n hx hb rfl (by decide +kernel))))))))
    (ms_b (ms_b (ms_b (ms_b (ms_lf (ms_iload hx hb (by decide +kernel)))
    (ms_b (ms_lf (ms_iald hx hb hf hA hX (by decide +kernel)))
    (ms_lf (ms_iast hx hb hf hA (by decide +kernel)))))
    (ms_b (ms_lf (ms_aload_n hx hb rfl (by decide +kernel)))
    (ms_b (ms_lf (ms_iload hx hb (by decide +kernel)))
    (ms_lf (ms_aload_n hx hb rfl (by decide +kernel))))))
    (ms_b (ms_b (ms_lf (ms_iload_n hx hb rfl (by decide +kernel)))
    (ms_b (ms_lf (ms_iconst hx hb (by decide) (by decide +kernel)))
    (ms_lf (ms_iadd hx hb (by decide +kernel)))))
    (ms_b (ms_lf (ms_iald hx hb hf hA hX (by decide +kernel)))
    (ms_b (ms_lf (ms_iast hx hb hf hA (by decide +kernel)))
    (ms_lf (ms_aload_n hx hb rfl (by decide +kernel)))))))
    (ms_b (ms_b (ms_b (ms_lf (ms_iload_n hx hb rfl (by decide +kernel)))
    (ms_b (ms_lf (ms_iconst hx hb (by decide) (by decide +kernel)))
    (ms_lf (ms_iadd hx hb (by decide +kernel)))))
    (ms_b (ms_lf (ms_aload_n hx hb rfl (by decide +kernel)))
    (ms_b (ms_lf (ms_iload_n hx hb rfl (by decide +kernel)))
    (ms_lf (ms_iald hx hb hf hA hX (by decide +kernel))))))
    (ms_b (ms_b (ms_lf (ms_iast hx hb hf hA (by decide +kernel)))
    (ms_b (ms_lf (ms_aload_n hx hb rfl (by decide +kernel)))
    (ms_lf (ms_iload_n hx hb rfl (by decide +kernel)))))
    (ms_b (ms_lf (ms_iload hx hb (by decide +kernel)))
    (ms_b (ms_lf (ms_iast hx hb hf hA (by decide +kernel)))
    (ms_lf (ms_ret hx hb hr hlk (by decide +kernel)))))))))
