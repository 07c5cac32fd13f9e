set_option maxRecDepth 100000 in
set_option maxHeartbeats 8000000 in
/-- TippedCrates$Drays.<init> -/
theorem sd_0 (l : Launch) (f : Nat → Nat) (D : va_G) (cA : FieldType → ClassId) (d : Nat) : mm_Ok2 l f D cA d (yX0_init, cX0_init, 2, none, mc_0) := by
  intro p e R s m args below meth c C hRf hRl pc
  obtain ⟨hx, hb, hml, hr, hlk, hnm, hown, hts, hEX, hgo, hf⟩ := C
  obtain ⟨hK, hA, hX, hZs, hZc, hZq, hTx, hSR0, hSR1, hAO, hN⟩ := id hEX
  have hAW : ∀ w ∈ mm_AW, w ∈ (Cond.code yX0_init cX0_init 2 none :: mm_AW) := fun w h => List.mem_cons_of_mem _ h
  have hown : s.vm.findClass "TippedCrates$Drays" = some m.cls := hown
  show mm_S p l e R s m args below meth c f D mm_cl cA 2 _ pc (mc_0 pc)
  unfold mc_0
  exact (ms_b (ms_b (ms_lf (ms_aload_n hx hb rfl (by decide +kernel)))
    (ms_b (ms_lf (ms_oi hx hb hml hown (hts _ (hAW _ qw_395)) (hts _ (hAW _ qw_144)) (hts _ (hAW _ qw_145)) (by omega) (by omega) (by decide +kernel)))
    (ms_lf (ms_aload_n hx hb rfl (by decide +kernel)))))
    (ms_b (ms_lf (ms_aload_n hx hb rfl (by decide +kernel)))
    (ms_b (ms_lf (ms_putF (C := RX0) (T := TX0) (N := 1) hx hb hf hts (fun w h => hAW w (inq_0 w h)) tyX0 tyX0_ok nmX0 hown hK rfl (by decide) (hts _ (hAW _ qw_396)) rfl rfl hnm rfl rfl (by decide +kernel)))
    (ms_lf (ms_ret hx hb hr hlk (by decide +kernel))))))
set_option maxRecDepth 100000 in
set_option maxHeartbeats 8000000 in
/-- TippedCrates$Drays.canTip -/
theorem sd_1 (l : Launch) (f : Nat → Nat) (D : va_G) (cA : FieldType → ClassId) (d : Nat) : mm_Ok2 l f D cA d (yX0_canTip, cX0_canTip, 5, (some .boolean), mc_1) := by
  intro p e R s m args below meth c C hRf hRl pc
  obtain ⟨hx, hb, hml, hr, hlk, hnm, hown, hts, hEX, hgo, hf⟩ := C
  obtain ⟨hK, hA, hX, hZs, hZc, hZq, hTx, hSR0, hSR1, hAO, hN⟩ := id hEX
  have hAW : ∀ w ∈ mm_AW, w ∈ (Cond.code yX0_canTip cX0_canTip 5 (some .boolean) :: mm_AW) := fun w h => List.mem_cons_of_mem _ h
  have hown : s.vm.findClass "TippedCrates$Drays" = some m.cls := hown
  show mm_S p l e R s m args below meth c f D mm_cl cA 5 _ pc (mc_1 pc)
  unfold mc_1
  exact (ms_b (ms_b (ms_b (ms_b (ms_lf (ms_aload_n hx hb rfl (by decide +kernel)))
    (ms_b (ms_lf (ms_getf (C := RX0) (T := TX0) (N := 1) hx hb hf hts (fun w h => hAW w (inq_0 w h)) hown hK rfl (by decide) (hts _ (hAW _ qw_396)) rfl (by decide +kernel)))
    (ms_lf (ms_aload_n hx hb rfl (by decide +kernel)))))
    (ms_b (ms_lf (ms_getf (C := RX7) (T := TX7) (N := 7) hx hb hf hts (fun w h => hAW w (inq_7 w h)) hown hK rfl (by decide) (hts _ (hAW _ qw_569)) rfl (by decide +kernel)))
    (ms_b (ms_lf (ms_iload_n hx hb rfl (by decide +kernel)))
    (ms_lf (ms_iald hx hb hf hA hX (by decide +kernel))))))
    (ms_b (ms_b (ms_lf (ms_iload_n hx hb rfl (by decide +kernel)))
    (ms_b (ms_lf (ms_ivV (C := RX3) (T := TX3) (N := 12) hx hb hml hown hts hgo hEX hf hK rfl (mm_GV hAW (mm_GI hAW gi_30) qw_953 qw_954 qw_955 qw_123) rfl ⟨rfl, hd_30⟩ (mm_rm hRf hRl (Nat.le_of_ble_eq_true rfl)) (by decide +kernel)))
    (ms_lf (ms_istore hx hb (by decide : 4 < 5) (by decide +kernel)))))
    (ms_b (ms_b (ms_lf (ms_iload hx hb (by decide +kernel)))
    (ms_lf (ms_iconst hx hb (by decide) (by decide +kernel))))
    (ms_b (ms_lf (ms_ic_eq hx hb (by decide) (by decide +kernel)))
    (ms_lf (ms_aload_n hx hb rfl (by decide +kernel)))))))
    (ms_b (ms_b (ms_b (ms_lf (ms_getf (C := RX0) (T := TX0) (N := 1) hx hb hf hts (fun w h => hAW w (inq_0 w h)) hown hK rfl (by decide) (hts _ (hAW _ qw_396)) rfl (by decide +kernel)))
    (ms_b (ms_lf (ms_iload hx hb (by decide +kernel)))
    (ms_lf (ms_ivV (C := RX3) (T := TX3) (N := 12) hx hb hml hown hts hgo hEX hf hK rfl (mm_GV hAW (mm_GI hAW gi_31) qw_963 qw_921 qw_922 qw_123) rfl ⟨rfl, hd_31⟩ (mm_rm hRf hRl (Nat.le_of_ble_eq_true rfl)) (by decide +kernel)))))
    (ms_b (ms_lf (ms_if_ne hx hb (by decide) (by decide +kernel)))
    (ms_b (ms_lf (ms_aload_n hx hb rfl (by decide +kernel)))
    (ms_lf (ms_iload hx hb (by decide +kernel))))))
    (ms_b (ms_b (ms_lf (ms_ivV (C := RX7) (T := TX7) (N := 7) hx hb hml hown hts hgo hEX hf hK rfl (mm_GV hAW (mm_GI hAW gi_77) qw_964 qw_925 qw_926 qw_133) rfl ⟨rfl, hd_77⟩ (mm_rm hRf hRl (Nat.le_of_ble_eq_true rfl)) (by decide +kernel)))
    (ms_b (ms_lf (ms_iconst hx hb (by decide) (by decide +kernel)))
    (ms_lf (ms_ic_ne hx hb (by decide) (by decide +kernel)))))
    (ms_b (ms_b (ms_lf (ms_iconst hx hb (by decide) (by decide +kernel)))
    (ms_lf (ms_goto hx hb (by decide) (by decide +kernel))))
    (ms_b (ms_lf (ms_iconst hx hb (by decide) (by decide +kernel)))
    (ms_lf (ms_iret hx hb hr hlk (by decide +kernel))))))))
set_option maxRecDepth 100000 in
set_option maxHeartbeats 8000000 in
/-- TippedCrates$Drays.lookAt -/
theorem sd_2 (l : Launch) (f : Nat → Nat) (D : va_G) (cA : FieldType → ClassId) (d : Nat) : mm_Ok2 l f D cA d (yX0_lookAt, cX0_lookAt, 6, none, mc_2) := by
  intro p e R s m args below meth c C hRf hRl pc
  obtain ⟨hx, hb, hml, hr, hlk, hnm, hown, hts, hEX, hgo, hf⟩ := C
  obtain ⟨hK, hA, hX, hZs, hZc, hZq, hTx, hSR0, hSR1, hAO, hN⟩ := id hEX
  have hAW : ∀ w ∈ mm_AW, w ∈ (Cond.code yX0_lookAt cX0_lookAt 6 none :: mm_AW) := fun w h => List.mem_cons_of_mem _ h
  have hown : s.vm.findClass "TippedCrates$Drays" = some m.cls := hown
  show mm_S p l e R s m args below meth c f D mm_cl cA 6 _ pc (mc_2 pc)
  unfold mc_2
  exact (ms_b (ms_b (ms_b (ms_b (ms_b (ms_lf (ms_aload_n hx hb rfl (by decide +kernel)))
    (ms_lf (ms_getf (C := RX7) (T := TX7) (N := 7) hx hb hf hts (fun w h => hAW w (inq_7 w h)) hown hK rfl (by decide) (hts _ (hAW _ qw_573)) rfl (by decide +kernel))))
    (ms_b (ms_lf (ms_iload_n hx hb rfl (by decide +kernel)))
    (ms_lf (ms_bipush hx hb (by decide) (by decide +kernel)))))
    (ms_b (ms_b (ms_lf (ms_imul hx hb (by decide +kernel)))
    (ms_lf (ms_gsN hx hb hown (hZs 1 _ rfl) (va_Nw.use rfl (hN.1)) rfl (by decide +kernel))))
    (ms_b (ms_lf (ms_iload_n hx hb rfl (by decide +kernel)))
    (ms_lf (ms_iald hx hb hf hA hX (by decide +kernel))))))
    (ms_b (ms_b (ms_b (ms_lf (ms_iadd hx hb (by decide +kernel)))
    (ms_lf (ms_iald hx hb hf hA hX (by decide +kernel))))
    (ms_b (ms_lf (ms_istore hx hb (by decide : 4 < 6) (by decide +kernel)))
    (ms_lf (ms_aload_n hx hb rfl (by decide +kernel)))))
    (ms_b (ms_b (ms_lf (ms_getf (C := RX7) (T := TX7) (N := 7) hx hb hf hts (fun w h => hAW w (inq_7 w h)) hown hK rfl (by decide) (hts _ (hAW _ qw_573)) rfl (by decide +kernel)))
    (ms_lf (ms_iload_n hx hb rfl (by decide +kernel))))
    (ms_b (ms_lf (ms_bipush hx hb (by decide) (by decide +kernel)))
    (ms_b (ms_lf (ms_imul hx hb (by decide +kernel)))
    (ms_lf (ms_gsN hx hb hown (hZs 0 _ rfl) (va_Nw.use rfl (hN.2.1)) rfl (by decide +kernel))))))))
    (ms_b (ms_b (ms_b (ms_b (ms_lf (ms_iload_n hx hb rfl (by decide +kernel)))
    (ms_lf (ms_iald hx hb hf hA hX (by decide +kernel))))
    (ms_b (ms_lf (ms_iadd hx hb (by decide +kernel)))
    (ms_lf (ms_iald hx hb hf hA hX (by decide +kernel)))))
    (ms_b (ms_b (ms_lf (ms_istore hx hb (by decide : 5 < 6) (by decide +kernel)))
    (ms_lf (ms_aload_n hx hb rfl (by decide +kernel))))
    (ms_b (ms_lf (ms_aload_n hx hb rfl (by decide +kernel)))
    (ms_lf (ms_iload_n hx hb rfl (by decide +kernel))))))
    (ms_b (ms_b (ms_b (ms_lf (ms_aload_n hx hb rfl (by decide +kernel)))
    (ms_lf (ms_getf (C := RX7) (T := TX7) (N := 7) hx hb hf hts (fun w h => hAW w (inq_7 w h)) hown hK rfl (by decide) (hts _ (hAW _ qw_569)) rfl (by decide +kernel))))
    (ms_b (ms_lf (ms_iload_n hx hb rfl (by decide +kernel)))
    (ms_lf (ms_iald hx hb hf hA hX (by decide +kernel)))))
    (ms_b (ms_b (ms_lf (ms_iload_n hx hb rfl (by decide +kernel)))
    (ms_lf (ms_iload hx hb (by decide +kernel))))
    (ms_b (ms_lf (ms_iload hx hb (by decide +kernel)))
    (ms_b (ms_lf (ms_ivV (C := RX0) (T := TX0) (N := 1) hx hb hml hown hts hgo hEX hf hK rfl (mm_GV hAW (mm_GI hAW gi_3) qw_949 qw_950 qw_951 qw_126) rfl ⟨rfl, hd_3⟩ (mm_rm hRf hRl (Nat.le_of_ble_eq_true rfl)) (by decide +kernel)))
    (ms_lf (ms_ret hx hb hr hlk (by decide +kernel)))))))))
set_option maxRecDepth 100000 in
set_option maxHeartbeats 8000000 in
/-- TippedCrates$Drays.lookFrom -/
theorem sd_3 (l : Launch) (f : Nat → Nat) (D : va_G) (cA : FieldType → ClassId) (d : Nat) : mm_Ok2 l f D cA d (yX0_lookFrom, cX0_lookFrom, 9, none, mc_3) := by
  intro p e R s m args below meth c C hRf hRl pc
  obtain ⟨hx, hb, hml, hr, hlk, hnm, hown, hts, hEX, hgo, hf⟩ := C
  obtain ⟨hK, hA, hX, hZs, hZc, hZq, hTx, hSR0, hSR1, hAO, hN⟩ := id hEX
  have hAW : ∀ w ∈ mm_AW, w ∈ (Cond.code yX0_lookFrom cX0_lookFrom 9 none :: mm_AW) := fun w h => List.mem_cons_of_mem _ h
  have hown : s.vm.findClass "TippedCrates$Drays" = some m.cls := hown
  show mm_S p l e R s m args below meth c f D mm_cl cA 9 _ pc (mc_3 pc)
  unfold mc_3
  exact (ms_b (ms_b (ms_b (ms_b (ms_b (ms_b (ms_lf (ms_aload_n hx hb rfl (by decide +kernel)))
    (ms_lf (ms_getf (C := RX0) (T := TX0) (N := 1) hx hb hf hts (fun w h => hAW w (inq_0 w h)) hown hK rfl (by decide) (hts _ (hAW _ qw_396)) rfl (by decide +kernel))))
    (ms_b (ms_lf (ms_iload_n hx hb rfl (by decide +kernel)))
    (ms_lf (ms_iload hx hb (by decide +kernel)))))
    (ms_b (ms_b (ms_lf (ms_ivV (C := RX3) (T := TX3) (N := 12) hx hb hml hown hts hgo hEX hf hK rfl (mm_GV hAW (mm_GI hAW gi_30) qw_953 qw_954 qw_955 qw_123) rfl ⟨rfl, hd_30⟩ (mm_rm hRf hRl (Nat.le_of_ble_eq_true rfl)) (by decide +kernel)))
    (ms_lf (ms_istore hx hb (by decide : 7 < 9) (by decide +kernel))))
    (ms_b (ms_lf (ms_aload_n hx hb rfl (by decide +kernel)))
    (ms_b (ms_lf (ms_getf (C := RX0) (T := TX0) (N := 1) hx hb hf hts (fun w h => hAW w (inq_0 w h)) hown hK rfl (by decide) (hts _ (hAW _ qw_396)) rfl (by decide +kernel)))
    (ms_lf (ms_getf (C := RX3) (T := TX3) (N := 12) hx hb hf hts (fun w h => hAW w (inq_3 w h)) hown hK rfl (by decide) (hts _ (hAW _ qw_291)) rfl (by decide +kernel)))))))
    (ms_b (ms_b (ms_b (ms_lf (ms_getf (C := RX1) (T := TX1) (N := 5) hx hb hf hts (fun w h => hAW w (inq_1 w h)) hown hK rfl (by decide) (hts _ (hAW _ qw_249)) rfl (by decide +kernel)))
    (ms_lf (ms_astore hx hb (by decide : 8 < 9) (by decide +kernel))))
    (ms_b (ms_lf (ms_aload hx hb (by decide +kernel)))
    (ms_b (ms_lf (ms_iconst hx hb (by decide) (by decide +kernel)))
    (ms_lf (ms_aload_n hx hb rfl (by decide +kernel))))))
    (ms_b (ms_b (ms_lf (ms_getf (C := RX0) (T := TX0) (N := 1) hx hb hf hts (fun w h => hAW w (inq_0 w h)) hown hK rfl (by decide) (hts _ (hAW _ qw_396)) rfl (by decide +kernel)))
    (ms_lf (ms_getf (C := RX3) (T := TX3) (N := 12) hx hb hf hts (fun w h => hAW w (inq_3 w h)) hown hK rfl (by decide) (hts _ (hAW _ qw_294)) rfl (by decide +kernel))))
    (ms_b (ms_lf (ms_iload_n hx hb rfl (by decide +kernel)))
    (ms_b (ms_lf (ms_iald hx hb hf hA hX (by decide +kernel)))
    (ms_lf (ms_gsN hx hb hown (hZs 2 _ rfl) (va_Nw.use rfl (hN.2.2.1)) rfl (by decide +kernel))))))))
    (ms_b (ms_b (ms_b (ms_b (ms_lf (ms_iload hx hb (by decide +kernel)))
    (ms_lf (ms_iald hx hb hf hA hX (by decide +kernel))))
    (ms_b (ms_lf (ms_iadd hx hb (by decide +kernel)))
    (ms_lf (ms_iast hx hb hf hA (by decide +kernel)))))
    (ms_b (ms_b (ms_lf (ms_aload hx hb (by decide +kernel)))
    (ms_lf (ms_iconst hx hb (by decide) (by decide +kernel))))
    (ms_b (ms_lf (ms_aload_n hx hb rfl (by decide +kernel)))
    (ms_b (ms_lf (ms_getf (C := RX0) (T := TX0) (N := 1) hx hb hf hts (fun w h => hAW w (inq_0 w h)) hown hK rfl (by decide) (hts _ (hAW _ qw_396)) rfl (by decide +kernel)))
    (ms_lf (ms_getf (C := RX3) (T := TX3) (N := 12) hx hb hf hts (fun w h => hAW w (inq_3 w h)) hown hK rfl (by decide) (hts _ (hAW _ qw_296)) rfl (by decide +kernel)))))))
    (ms_b (ms_b (ms_b (ms_lf (ms_iload_n hx hb rfl (by decide +kernel)))
    (ms_lf (ms_iald hx hb hf hA hX (by decide +kernel))))
    (ms_b (ms_lf (ms_gsN hx hb hown (hZs 3 _ rfl) (va_Nw.use rfl (hN.2.2.2.1)) rfl (by decide +kernel)))
    (ms_b (ms_lf (ms_iload hx hb (by decide +kernel)))
    (ms_lf (ms_iald hx hb hf hA hX (by decide +kernel))))))
    (ms_b (ms_b (ms_lf (ms_iadd hx hb (by decide +kernel)))
    (ms_lf (ms_iast hx hb hf hA (by decide +kernel))))
    (ms_b (ms_lf (ms_aload hx hb (by decide +kernel)))
    (ms_b (ms_lf (ms_iconst hx hb (by decide) (by decide +kernel)))
    (ms_lf (ms_iload hx hb (by decide +kernel)))))))))
    (ms_b (ms_b (ms_b (ms_b (ms_b (ms_lf (ms_iconst hx hb (by decide) (by decide +kernel)))
    (ms_lf (ms_ic_ne hx hb (by decide) (by decide +kernel))))
    (ms_b (ms_lf (ms_iconst hx hb (by decide) (by decide +kernel)))
    (ms_lf (ms_goto hx hb (by decide) (by decide +kernel)))))
    (ms_b (ms_b (ms_lf (ms_aload_n hx hb rfl (by decide +kernel)))
    (ms_lf (ms_getf (C := RX7) (T := TX7) (N := 7) hx hb hf hts (fun w h => hAW w (inq_7 w h)) hown hK rfl (by decide) (hts _ (hAW _ qw_565)) rfl (by decide +kernel))))
    (ms_b (ms_lf (ms_iload hx hb (by decide +kernel)))
    (ms_b (ms_lf (ms_iald hx hb hf hA hX (by decide +kernel)))
    (ms_lf (ms_iast hx hb hf hA (by decide +kernel)))))))
    (ms_b (ms_b (ms_b (ms_lf (ms_aload hx hb (by decide +kernel)))
    (ms_lf (ms_iconst hx hb (by decide) (by decide +kernel))))
    (ms_b (ms_lf (ms_iload hx hb (by decide +kernel)))
    (ms_b (ms_lf (ms_iast hx hb hf hA (by decide +kernel)))
    (ms_lf (ms_aload hx hb (by decide +kernel))))))
    (ms_b (ms_b (ms_lf (ms_iconst hx hb (by decide) (by decide +kernel)))
    (ms_lf (ms_iload hx hb (by decide +kernel))))
    (ms_b (ms_lf (ms_iast hx hb hf hA (by decide +kernel)))
    (ms_b (ms_lf (ms_aload hx hb (by decide +kernel)))
    (ms_lf (ms_iconst hx hb (by decide) (by decide +kernel))))))))
    (ms_b (ms_b (ms_b (ms_b (ms_lf (ms_aload_n hx hb rfl (by decide +kernel)))
    (ms_lf (ms_getf (C := RX7) (T := TX7) (N := 7) hx hb hf hts (fun w h => hAW w (inq_7 w h)) hown hK rfl (by decide) (hts _ (hAW _ qw_576)) rfl (by decide +kernel))))
    (ms_b (ms_lf (ms_iload_n hx hb rfl (by decide +kernel)))
    (ms_lf (ms_iald hx hb hf hA hX (by decide +kernel)))))
    (ms_b (ms_b (ms_lf (ms_iast hx hb hf hA (by decide +kernel)))
    (ms_lf (ms_aload hx hb (by decide +kernel))))
    (ms_b (ms_lf (ms_bipush hx hb (by decide) (by decide +kernel)))
    (ms_b (ms_lf (ms_aload_n hx hb rfl (by decide +kernel)))
    (ms_lf (ms_getf (C := RX7) (T := TX7) (N := 7) hx hb hf hts (fun w h => hAW w (inq_7 w h)) hown hK rfl (by decide) (hts _ (hAW _ qw_581)) rfl (by decide +kernel)))))))
    (ms_b (ms_b (ms_b (ms_lf (ms_iast hx hb hf hA (by decide +kernel)))
    (ms_lf (ms_aload hx hb (by decide +kernel))))
    (ms_b (ms_lf (ms_bipush hx hb (by decide) (by decide +kernel)))
    (ms_b (ms_lf (ms_iload_n hx hb rfl (by decide +kernel)))
    (ms_lf (ms_iast hx hb hf hA (by decide +kernel))))))
    (ms_b (ms_b (ms_lf (ms_aload hx hb (by decide +kernel)))
    (ms_lf (ms_bipush hx hb (by decide) (by decide +kernel))))
    (ms_b (ms_lf (ms_iload hx hb (by decide +kernel)))
    (ms_b (ms_lf (ms_iast hx hb hf hA (by decide +kernel)))
    (ms_lf (ms_ret hx hb hr hlk (by decide +kernel))))))))))
set_option maxRecDepth 100000 in
set_option maxHeartbeats 8000000 in
/-- TippedCrates$Drays.costNow -/
theorem sd_4 (l : Launch) (f : Nat → Nat) (D : va_G) (cA : FieldType → ClassId) (d : Nat) : mm_Ok2 l f D cA d (yX0_costNow, cX0_costNow, 1, (some .int), mc_4) := by
  intro p e R s m args below meth c C hRf hRl pc
  obtain ⟨hx, hb, hml, hr, hlk, hnm, hown, hts, hEX, hgo, hf⟩ := C
  obtain ⟨hK, hA, hX, hZs, hZc, hZq, hTx, hSR0, hSR1, hAO, hN⟩ := id hEX
  have hAW : ∀ w ∈ mm_AW, w ∈ (Cond.code yX0_costNow cX0_costNow 1 (some .int) :: mm_AW) := fun w h => List.mem_cons_of_mem _ h
  have hown : s.vm.findClass "TippedCrates$Drays" = some m.cls := hown
  show mm_S p l e R s m args below meth c f D mm_cl cA 1 _ pc (mc_4 pc)
  unfold mc_4
  exact (ms_b (ms_b (ms_b (ms_lf (ms_iconst hx hb (by decide) (by decide +kernel)))
    (ms_lf (ms_bipush hx hb (by decide) (by decide +kernel))))
    (ms_b (ms_lf (ms_aload_n hx hb rfl (by decide +kernel)))
    (ms_b (ms_lf (ms_getf (C := RX0) (T := TX0) (N := 1) hx hb hf hts (fun w h => hAW w (inq_0 w h)) hown hK rfl (by decide) (hts _ (hAW _ qw_396)) rfl (by decide +kernel)))
    (ms_lf (ms_getf (C := RX3) (T := TX3) (N := 12) hx hb hf hts (fun w h => hAW w (inq_3 w h)) hown hK rfl (by decide) (hts _ (hAW _ qw_291)) rfl (by decide +kernel))))))
    (ms_b (ms_b (ms_lf (ms_iconst hx hb (by decide) (by decide +kernel)))
    (ms_lf (ms_ivV (C := RX1) (T := TX1) (N := 5) hx hb hml hown hts hgo hEX hf hK rfl (mm_GV hAW (mm_GI hAW gi_18) qw_969 qw_970 qw_971 qw_124) rfl ⟨rfl, hd_18⟩ (mm_rm hRf hRl (Nat.le_of_ble_eq_true rfl)) (by decide +kernel))))
    (ms_b (ms_lf (ms_ivS hx hb hml hown hts hgo hEX (mm_GS hAW (mm_GI hAW gi_289) qw_973 qw_691 qw_134) rfl hd_289 (mm_rm hRf hRl (Nat.le_of_ble_eq_true rfl)) (by decide +kernel)))
    (ms_b (ms_lf (ms_ivS hx hb hml hown hts hgo hEX (mm_GS hAW (mm_GI hAW gi_288) qw_974 qw_688 qw_134) rfl hd_288 (mm_rm hRf hRl (Nat.le_of_ble_eq_true rfl)) (by decide +kernel)))
    (ms_lf (ms_iret hx hb hr hlk (by decide +kernel)))))))
set_option maxRecDepth 100000 in
set_option maxHeartbeats 8000000 in
/-- TippedCrates$Drays.slipNow -/
theorem sd_5 (l : Launch) (f : Nat → Nat) (D : va_G) (cA : FieldType → ClassId) (d : Nat) : mm_Ok2 l f D cA d (yX0_slipNow, cX0_slipNow, 1, (some .int), mc_5) := by
  intro p e R s m args below meth c C hRf hRl pc
  obtain ⟨hx, hb, hml, hr, hlk, hnm, hown, hts, hEX, hgo, hf⟩ := C
  obtain ⟨hK, hA, hX, hZs, hZc, hZq, hTx, hSR0, hSR1, hAO, hN⟩ := id hEX
  have hAW : ∀ w ∈ mm_AW, w ∈ (Cond.code yX0_slipNow cX0_slipNow 1 (some .int) :: mm_AW) := fun w h => List.mem_cons_of_mem _ h
  have hown : s.vm.findClass "TippedCrates$Drays" = some m.cls := hown
  show mm_S p l e R s m args below meth c f D mm_cl cA 1 _ pc (mc_5 pc)
  unfold mc_5
  exact (ms_b (ms_b (ms_b (ms_lf (ms_iconst hx hb (by decide) (by decide +kernel)))
    (ms_lf (ms_bipush hx hb (by decide) (by decide +kernel))))
    (ms_b (ms_lf (ms_aload_n hx hb rfl (by decide +kernel)))
    (ms_b (ms_lf (ms_getf (C := RX0) (T := TX0) (N := 1) hx hb hf hts (fun w h => hAW w (inq_0 w h)) hown hK rfl (by decide) (hts _ (hAW _ qw_396)) rfl (by decide +kernel)))
    (ms_lf (ms_getf (C := RX3) (T := TX3) (N := 12) hx hb hf hts (fun w h => hAW w (inq_3 w h)) hown hK rfl (by decide) (hts _ (hAW _ qw_291)) rfl (by decide +kernel))))))
    (ms_b (ms_b (ms_lf (ms_iconst hx hb (by decide) (by decide +kernel)))
    (ms_lf (ms_ivV (C := RX1) (T := TX1) (N := 5) hx hb hml hown hts hgo hEX hf hK rfl (mm_GV hAW (mm_GI hAW gi_18) qw_969 qw_970 qw_971 qw_124) rfl ⟨rfl, hd_18⟩ (mm_rm hRf hRl (Nat.le_of_ble_eq_true rfl)) (by decide +kernel))))
    (ms_b (ms_lf (ms_ivS hx hb hml hown hts hgo hEX (mm_GS hAW (mm_GI hAW gi_289) qw_973 qw_691 qw_134) rfl hd_289 (mm_rm hRf hRl (Nat.le_of_ble_eq_true rfl)) (by decide +kernel)))
    (ms_b (ms_lf (ms_ivS hx hb hml hown hts hgo hEX (mm_GS hAW (mm_GI hAW gi_288) qw_974 qw_688 qw_134) rfl hd_288 (mm_rm hRf hRl (Nat.le_of_ble_eq_true rfl)) (by decide +kernel)))
    (ms_lf (ms_iret hx hb hr hlk (by decide +kernel)))))))
set_option maxRecDepth 100000 in
set_option maxHeartbeats 8000000 in
/-- TippedCrates$Drays.holdsNow -/
theorem sd_6 (l : Launch) (f : Nat → Nat) (D : va_G) (cA : FieldType → ClassId) (d : Nat) : mm_Ok2 l f D cA d (yX0_holdsNow, cX0_holdsNow, 2, (some .boolean), mc_6) := by
  intro p e R s m args below meth c C hRf hRl pc
  obtain ⟨hx, hb, hml, hr, hlk, hnm, hown, hts, hEX, hgo, hf⟩ := C
  obtain ⟨hK, hA, hX, hZs, hZc, hZq, hTx, hSR0, hSR1, hAO, hN⟩ := id hEX
  have hAW : ∀ w ∈ mm_AW, w ∈ (Cond.code yX0_holdsNow cX0_holdsNow 2 (some .boolean) :: mm_AW) := fun w h => List.mem_cons_of_mem _ h
  have hown : s.vm.findClass "TippedCrates$Drays" = some m.cls := hown
  show mm_S p l e R s m args below meth c f D mm_cl cA 2 _ pc (mc_6 pc)
  unfold mc_6
  exact (ms_b (ms_b (ms_b (ms_lf (ms_aload_n hx hb rfl (by decide +kernel)))
    (ms_lf (ms_getf (C := RX0) (T := TX0) (N := 1) hx hb hf hts (fun w h => hAW w (inq_0 w h)) hown hK rfl (by decide) (hts _ (hAW _ qw_396)) rfl (by decide +kernel))))
    (ms_b (ms_lf (ms_getf (C := RX3) (T := TX3) (N := 12) hx hb hf hts (fun w h => hAW w (inq_3 w h)) hown hK rfl (by decide) (hts _ (hAW _ qw_291)) rfl (by decide +kernel)))
    (ms_b (ms_lf (ms_iload_n hx hb rfl (by decide +kernel)))
    (ms_lf (ms_ivV (C := RX1) (T := TX1) (N := 5) hx hb hml hown hts hgo hEX hf hK rfl (mm_GV hAW (mm_GI hAW gi_18) qw_969 qw_970 qw_971 qw_124) rfl ⟨rfl, hd_18⟩ (mm_rm hRf hRl (Nat.le_of_ble_eq_true rfl)) (by decide +kernel))))))
    (ms_b (ms_b (ms_lf (ms_if_le hx hb (by decide) (by decide +kernel)))
    (ms_lf (ms_iconst hx hb (by decide) (by decide +kernel))))
    (ms_b (ms_lf (ms_goto hx hb (by decide) (by decide +kernel)))
    (ms_b (ms_lf (ms_iconst hx hb (by decide) (by decide +kernel)))
    (ms_lf (ms_iret hx hb hr hlk (by decide +kernel)))))))
set_option maxRecDepth 100000 in
set_option maxHeartbeats 8000000 in
/-- TippedCrates$Drays.tipOver -/
theorem sd_7 (l : Launch) (f : Nat → Nat) (D : va_G) (cA : FieldType → ClassId) (d : Nat) : mm_Ok2 l f D cA d (yX0_tipOver, cX0_tipOver, 8, none, mc_7) := by
  intro p e R s m args below meth c C hRf hRl pc
  obtain ⟨hx, hb, hml, hr, hlk, hnm, hown, hts, hEX, hgo, hf⟩ := C
  obtain ⟨hK, hA, hX, hZs, hZc, hZq, hTx, hSR0, hSR1, hAO, hN⟩ := id hEX
  have hAW : ∀ w ∈ mm_AW, w ∈ (Cond.code yX0_tipOver cX0_tipOver 8 none :: mm_AW) := fun w h => List.mem_cons_of_mem _ h
  have hown : s.vm.findClass "TippedCrates$Drays" = some m.cls := hown
  show mm_S p l e R s m args below meth c f D mm_cl cA 8 _ pc (mc_7 pc)
  unfold mc_7
  exact (ms_b (ms_b (ms_b (ms_b (ms_b (ms_b (ms_lf (ms_aload_n hx hb rfl (by decide +kernel)))
    (ms_lf (ms_getf (C := RX0) (T := TX0) (N := 1) hx hb hf hts (fun w h => hAW w (inq_0 w h)) hown hK rfl (by decide) (hts _ (hAW _ qw_396)) rfl (by decide +kernel))))
    (ms_b (ms_lf (ms_aload_n hx hb rfl (by decide +kernel)))
    (ms_b (ms_lf (ms_getf (C := RX7) (T := TX7) (N := 7) hx hb hf hts (fun w h => hAW w (inq_7 w h)) hown hK rfl (by decide) (hts _ (hAW _ qw_569)) rfl (by decide +kernel)))
    (ms_lf (ms_iload_n hx hb rfl (by decide +kernel))))))
    (ms_b (ms_b (ms_lf (ms_iald hx hb hf hA hX (by decide +kernel)))
    (ms_lf (ms_iload_n hx hb rfl (by decide +kernel))))
    (ms_b (ms_lf (ms_ivV (C := RX3) (T := TX3) (N := 12) hx hb hml hown hts hgo hEX hf hK rfl (mm_GV hAW (mm_GI hAW gi_30) qw_953 qw_954 qw_955 qw_123) rfl ⟨rfl, hd_30⟩ (mm_rm hRf hRl (Nat.le_of_ble_eq_true rfl)) (by decide +kernel)))
    (ms_b (ms_lf (ms_istore hx hb (by decide : 4 < 8) (by decide +kernel)))
    (ms_lf (ms_iload hx hb (by decide +kernel)))))))
    (ms_b (ms_b (ms_b (ms_lf (ms_iconst hx hb (by decide) (by decide +kernel)))
    (ms_lf (ms_ic_ne hx hb (by decide) (by decide +kernel))))
    (ms_b (ms_lf (ms_ret hx hb hr hlk (by decide +kernel)))
    (ms_b (ms_lf (ms_aload_n hx hb rfl (by decide +kernel)))
    (ms_lf (ms_aload_n hx hb rfl (by decide +kernel))))))
    (ms_b (ms_b (ms_lf (ms_iload_n hx hb rfl (by decide +kernel)))
    (ms_b (ms_lf (ms_iload_n hx hb rfl (by decide +kernel)))
    (ms_lf (ms_ivV (C := RX0) (T := TX0) (N := 1) hx hb hml hown hts hgo hEX hf hK rfl (mm_GV hAW (mm_GI hAW gi_2) qw_1000 qw_944 qw_945 qw_126) rfl ⟨rfl, hd_2⟩ (mm_rm hRf hRl (Nat.le_of_ble_eq_true rfl)) (by decide +kernel)))))
    (ms_b (ms_lf (ms_aload_n hx hb rfl (by decide +kernel)))
    (ms_b (ms_lf (ms_iconst hx hb (by decide) (by decide +kernel)))
    (ms_lf (ms_ivV (C := RX0) (T := TX0) (N := 1) hx hb hml hown hts hgo hEX hf hK rfl (mm_GV hAW (mm_GI hAW gi_6) qw_1001 qw_976 qw_977 qw_126) rfl ⟨rfl, hd_6⟩ (mm_rm hRf hRl (Nat.le_of_ble_eq_true rfl)) (by decide +kernel))))))))
    (ms_b (ms_b (ms_b (ms_b (ms_lf (ms_istore hx hb (by decide : 5 < 8) (by decide +kernel)))
    (ms_lf (ms_iload hx hb (by decide +kernel))))
    (ms_b (ms_lf (ms_if_ne hx hb (by decide) (by decide +kernel)))
    (ms_b (ms_lf (ms_aload_n hx hb rfl (by decide +kernel)))
    (ms_lf (ms_iconst hx hb (by decide) (by decide +kernel))))))
    (ms_b (ms_b (ms_lf (ms_ivV (C := RX0) (T := TX0) (N := 1) hx hb hml hown hts hgo hEX hf hK rfl (mm_GV hAW (mm_GI hAW gi_6) qw_1001 qw_976 qw_977 qw_126) rfl ⟨rfl, hd_6⟩ (mm_rm hRf hRl (Nat.le_of_ble_eq_true rfl)) (by decide +kernel)))
    (ms_b (ms_lf (ms_if_eq hx hb (by decide) (by decide +kernel)))
    (ms_lf (ms_iconst hx hb (by decide) (by decide +kernel)))))
    (ms_b (ms_lf (ms_goto hx hb (by decide) (by decide +kernel)))
    (ms_b (ms_lf (ms_iconst hx hb (by decide) (by decide +kernel)))
    (ms_lf (ms_istore hx hb (by decide : 6 < 8) (by decide +kernel)))))))
    (ms_b (ms_b (ms_b (ms_lf (ms_aload_n hx hb rfl (by decide +kernel)))
    (ms_lf (ms_dup hx hb (by decide +kernel))))
    (ms_b (ms_lf (ms_getf (C := RX7) (T := TX7) (N := 7) hx hb hf hts (fun w h => hAW w (inq_7 w h)) hown hK rfl (by decide) (hts _ (hAW _ qw_584)) rfl (by decide +kernel)))
    (ms_b (ms_lf (ms_aload_n hx hb rfl (by decide +kernel)))
    (ms_lf (ms_ivV (C := RX0) (T := TX0) (N := 1) hx hb hml hown hts hgo hEX hf hK rfl (mm_GV hAW (mm_GI hAW gi_4) qw_1002 qw_966 qw_967 qw_126) rfl ⟨rfl, hd_4⟩ (mm_rm hRf hRl (Nat.le_of_ble_eq_true rfl)) (by decide +kernel))))))
    (ms_b (ms_b (ms_lf (ms_iadd hx hb (by decide +kernel)))
    (ms_b (ms_lf (ms_put (C := RX7) (T := TX7) (N := 7) hx hb hf hts (fun w h => hAW w (inq_7 w h)) tyX7 tyX7_ok nmX7 hown hK rfl (by decide) (hts _ (hAW _ qw_584)) rfl rfl rfl (by decide +kernel)))
    (ms_lf (ms_aload_n hx hb rfl (by decide +kernel)))))
    (ms_b (ms_lf (ms_getf (C := RX7) (T := TX7) (N := 7) hx hb hf hts (fun w h => hAW w (inq_7 w h)) hown hK rfl (by decide) (hts _ (hAW _ qw_569)) rfl (by decide +kernel)))
    (ms_b (ms_lf (ms_iload_n hx hb rfl (by decide +kernel)))
    (ms_lf (ms_iload hx hb (by decide +kernel)))))))))
    (ms_b (ms_b (ms_b (ms_b (ms_b (ms_lf (ms_iast hx hb hf hA (by decide +kernel)))
    (ms_lf (ms_aload_n hx hb rfl (by decide +kernel))))
    (ms_b (ms_lf (ms_getf (C := RX7) (T := TX7) (N := 7) hx hb hf hts (fun w h => hAW w (inq_7 w h)) hown hK rfl (by decide) (hts _ (hAW _ qw_576)) rfl (by decide +kernel)))
    (ms_b (ms_lf (ms_iload_n hx hb rfl (by decide +kernel)))
    (ms_lf (ms_dup2 hx hb (by decide +kernel))))))
    (ms_b (ms_b (ms_lf (ms_iald hx hb hf hA hX (by decide +kernel)))
    (ms_b (ms_lf (ms_iconst hx hb (by decide) (by decide +kernel)))
    (ms_lf (ms_iadd hx hb (by decide +kernel)))))
    (ms_b (ms_lf (ms_iast hx hb hf hA (by decide +kernel)))
    (ms_b (ms_lf (ms_aload_n hx hb rfl (by decide +kernel)))
    (ms_lf (ms_getf (C := RX7) (T := TX7) (N := 7) hx hb hf hts (fun w h => hAW w (inq_7 w h)) hown hK rfl (by decide) (hts _ (hAW _ qw_573)) rfl (by decide +kernel)))))))
    (ms_b (ms_b (ms_b (ms_lf (ms_iload_n hx hb rfl (by decide +kernel)))
    (ms_lf (ms_bipush hx hb (by decide) (by decide +kernel))))
    (ms_b (ms_lf (ms_imul hx hb (by decide +kernel)))
    (ms_b (ms_lf (ms_iload_n hx hb rfl (by decide +kernel)))
    (ms_lf (ms_ivSN hx hb hml hown hts hgo hEX (mm_GI hAW gi_167) rfl (hN.2.2.2.2.1) (hts _ (hAW _ qw_410)) (hts _ (hAW _ qw_117)) hd_167 (mm_rm hRf hRl (Nat.le_of_ble_eq_true rfl)) (by decide +kernel))))))
    (ms_b (ms_b (ms_lf (ms_iload_n hx hb rfl (by decide +kernel)))
    (ms_b (ms_lf (ms_bipush hx hb (by decide) (by decide +kernel)))
    (ms_lf (ms_imul hx hb (by decide +kernel)))))
    (ms_b (ms_lf (ms_iconst hx hb (by decide) (by decide +kernel)))
    (ms_b (ms_lf (ms_iadd hx hb (by decide +kernel)))
    (ms_lf (ms_istore hx hb (by decide : 7 < 8) (by decide +kernel))))))))
    (ms_b (ms_b (ms_b (ms_b (ms_lf (ms_iload hx hb (by decide +kernel)))
    (ms_lf (ms_if_eq hx hb (by decide) (by decide +kernel))))
    (ms_b (ms_lf (ms_aload_n hx hb rfl (by decide +kernel)))
    (ms_b (ms_lf (ms_getf (C := RX7) (T := TX7) (N := 7) hx hb hf hts (fun w h => hAW w (inq_7 w h)) hown hK rfl (by decide) (hts _ (hAW _ qw_565)) rfl (by decide +kernel)))
    (ms_lf (ms_iload hx hb (by decide +kernel))))))
    (ms_b (ms_b (ms_lf (ms_aload_n hx hb rfl (by decide +kernel)))
    (ms_b (ms_lf (ms_getf (C := RX7) (T := TX7) (N := 7) hx hb hf hts (fun w h => hAW w (inq_7 w h)) hown hK rfl (by decide) (hts _ (hAW _ qw_573)) rfl (by decide +kernel)))
    (ms_lf (ms_iload hx hb (by decide +kernel)))))
    (ms_b (ms_lf (ms_iald hx hb hf hA hX (by decide +kernel)))
    (ms_b (ms_lf (ms_iast hx hb hf hA (by decide +kernel)))
    (ms_lf (ms_goto hx hb (by decide) (by decide +kernel)))))))
    (ms_b (ms_b (ms_b (ms_lf (ms_iload hx hb (by decide +kernel)))
    (ms_lf (ms_if_eq hx hb (by decide) (by decide +kernel))))
    (ms_b (ms_lf (ms_aload_n hx hb rfl (by decide +kernel)))
    (ms_b (ms_lf (ms_getf (C := RX7) (T := TX7) (N := 7) hx hb hf hts (fun w h => hAW w (inq_7 w h)) hown hK rfl (by decide) (hts _ (hAW _ qw_573)) rfl (by decide +kernel)))
    (ms_lf (ms_iload hx hb (by decide +kernel))))))
    (ms_b (ms_b (ms_lf (ms_aload_n hx hb rfl (by decide +kernel)))
    (ms_b (ms_lf (ms_getf (C := RX7) (T := TX7) (N := 7) hx hb hf hts (fun w h => hAW w (inq_7 w h)) hown hK rfl (by decide) (hts _ (hAW _ qw_565)) rfl (by decide +kernel)))
    (ms_lf (ms_iload hx hb (by decide +kernel)))))
    (ms_b (ms_lf (ms_iald hx hb hf hA hX (by decide +kernel)))
    (ms_b (ms_lf (ms_iast hx hb hf hA (by decide +kernel)))
    (ms_lf (ms_ret hx hb hr hlk (by decide +kernel))))))))))
set_option maxRecDepth 100000 in
set_option maxHeartbeats 8000000 in
/-- TippedCrates$Drays.passMinutes -/
theorem sd_8 (l : Launch) (f : Nat → Nat) (D : va_G) (cA : FieldType → ClassId) (d : Nat) : mm_Ok2 l f D cA d (yX0_passMinutes, cX0_passMinutes, 6, none, mc_8) := by
  intro p e R s m args below meth c C hRf hRl pc
  obtain ⟨hx, hb, hml, hr, hlk, hnm, hown, hts, hEX, hgo, hf⟩ := C
  obtain ⟨hK, hA, hX, hZs, hZc, hZq, hTx, hSR0, hSR1, hAO, hN⟩ := id hEX
  have hAW : ∀ w ∈ mm_AW, w ∈ (Cond.code yX0_passMinutes cX0_passMinutes 6 none :: mm_AW) := fun w h => List.mem_cons_of_mem _ h
  have hown : s.vm.findClass "TippedCrates$Drays" = some m.cls := hown
  show mm_S p l e R s m args below meth c f D mm_cl cA 6 _ pc (mc_8 pc)
  unfold mc_8
  exact (ms_b (ms_b (ms_b (ms_b (ms_lf (ms_iconst hx hb (by decide) (by decide +kernel)))
    (ms_b (ms_lf (ms_istore hx hb (by decide : 4 < 6) (by decide +kernel)))
    (ms_lf (ms_iload hx hb (by decide +kernel)))))
    (ms_b (ms_lf (ms_iload_n hx hb rfl (by decide +kernel)))
    (ms_b (ms_lf (ms_ic_ge hx hb (by decide) (by decide +kernel)))
    (ms_lf (ms_iconst hx hb (by decide) (by decide +kernel))))))
    (ms_b (ms_b (ms_lf (ms_istore hx hb (by decide : 5 < 6) (by decide +kernel)))
    (ms_b (ms_lf (ms_iload hx hb (by decide +kernel)))
    (ms_lf (ms_aload_n hx hb rfl (by decide +kernel)))))
    (ms_b (ms_b (ms_lf (ms_getf (C := RX7) (T := TX7) (N := 7) hx hb hf hts (fun w h => hAW w (inq_7 w h)) hown hK rfl (by decide) (hts _ (hAW _ qw_579)) rfl (by decide +kernel)))
    (ms_lf (ms_ic_ge hx hb (by decide) (by decide +kernel))))
    (ms_b (ms_lf (ms_aload_n hx hb rfl (by decide +kernel)))
    (ms_lf (ms_aload_n hx hb rfl (by decide +kernel)))))))
    (ms_b (ms_b (ms_b (ms_lf (ms_iload hx hb (by decide +kernel)))
    (ms_b (ms_lf (ms_iload_n hx hb rfl (by decide +kernel)))
    (ms_lf (ms_ivV (C := RX0) (T := TX0) (N := 1) hx hb hml hown hts hgo hEX hf hK rfl (mm_GV hAW (mm_GI hAW gi_9) qw_1019 qw_1021 qw_28 qw_126) rfl ⟨rfl, hd_9⟩ (mm_rm hRf hRl (Nat.le_of_ble_eq_true rfl)) (by decide +kernel)))))
    (ms_b (ms_b (ms_lf (ms_iinc hx hb (by decide) (by decide : 5 < 6) (by decide +kernel)))
    (ms_lf (ms_goto hx hb (by decide) (by decide +kernel))))
    (ms_b (ms_lf (ms_aload_n hx hb rfl (by decide +kernel)))
    (ms_lf (ms_dup hx hb (by decide +kernel))))))
    (ms_b (ms_b (ms_lf (ms_getf (C := RX7) (T := TX7) (N := 7) hx hb hf hts (fun w h => hAW w (inq_7 w h)) hown hK rfl (by decide) (hts _ (hAW _ qw_581)) rfl (by decide +kernel)))
    (ms_b (ms_lf (ms_iconst hx hb (by decide) (by decide +kernel)))
    (ms_lf (ms_iadd hx hb (by decide +kernel)))))
    (ms_b (ms_b (ms_lf (ms_put (C := RX7) (T := TX7) (N := 7) hx hb hf hts (fun w h => hAW w (inq_7 w h)) tyX7 tyX7_ok nmX7 hown hK rfl (by decide) (hts _ (hAW _ qw_581)) rfl rfl rfl (by decide +kernel)))
    (ms_lf (ms_iinc hx hb (by decide) (by decide : 4 < 6) (by decide +kernel))))
    (ms_b (ms_lf (ms_goto hx hb (by decide) (by decide +kernel)))
    (ms_lf (ms_ret hx hb hr hlk (by decide +kernel))))))))
set_option maxRecDepth 100000 in
set_option maxHeartbeats 8000000 in
/-- TippedCrates$Drays.passFor -/
theorem sd_9 (l : Launch) (f : Nat → Nat) (D : va_G) (cA : FieldType → ClassId) (d : Nat) : mm_Ok2 l f D cA d (yX0_passFor, cX0_passFor, 6, none, mc_9) := by
  intro p e R s m args below meth c C hRf hRl pc
  obtain ⟨hx, hb, hml, hr, hlk, hnm, hown, hts, hEX, hgo, hf⟩ := C
  obtain ⟨hK, hA, hX, hZs, hZc, hZq, hTx, hSR0, hSR1, hAO, hN⟩ := id hEX
  have hAW : ∀ w ∈ mm_AW, w ∈ (Cond.code yX0_passFor cX0_passFor 6 none :: mm_AW) := fun w h => List.mem_cons_of_mem _ h
  have hown : s.vm.findClass "TippedCrates$Drays" = some m.cls := hown
  show mm_S p l e R s m args below meth c f D mm_cl cA 6 _ pc (mc_9 pc)
  unfold mc_9
  exact (ms_b (ms_b (ms_b (ms_b (ms_b (ms_lf (ms_bipush hx hb (by decide) (by decide +kernel)))
    (ms_b (ms_lf (ms_aload_n hx hb rfl (by decide +kernel)))
    (ms_lf (ms_getf (C := RX7) (T := TX7) (N := 7) hx hb hf hts (fun w h => hAW w (inq_7 w h)) hown hK rfl (by decide) (hts _ (hAW _ qw_581)) rfl (by decide +kernel)))))
    (ms_b (ms_lf (ms_imul hx hb (by decide +kernel)))
    (ms_b (ms_lf (ms_iload_n hx hb rfl (by decide +kernel)))
    (ms_lf (ms_iadd hx hb (by decide +kernel))))))
    (ms_b (ms_b (ms_lf (ms_istore hx hb (by decide : 4 < 6) (by decide +kernel)))
    (ms_b (ms_lf (ms_iconst hx hb (by decide) (by decide +kernel)))
    (ms_lf (ms_iload_n hx hb rfl (by decide +kernel)))))
    (ms_b (ms_lf (ms_iload hx hb (by decide +kernel)))
    (ms_b (ms_lf (ms_ivS hx hb hml hown hts hgo hEX (mm_GS hAW (mm_GI hAW gi_10) qw_1023 qw_1024 qw_126) rfl hd_10 (mm_rm hRf hRl (Nat.le_of_ble_eq_true rfl)) (by decide +kernel)))
    (ms_lf (ms_istore hx hb (by decide : 5 < 6) (by decide +kernel)))))))
    (ms_b (ms_b (ms_b (ms_lf (ms_aload_n hx hb rfl (by decide +kernel)))
    (ms_b (ms_lf (ms_aload_n hx hb rfl (by decide +kernel)))
    (ms_lf (ms_iload_n hx hb rfl (by decide +kernel)))))
    (ms_b (ms_lf (ms_iload hx hb (by decide +kernel)))
    (ms_b (ms_lf (ms_ivV (C := RX0) (T := TX0) (N := 1) hx hb hml hown hts hgo hEX hf hK rfl (mm_GV hAW (mm_GI hAW gi_1) qw_1030 qw_960 qw_961 qw_126) rfl ⟨rfl, hd_1⟩ (mm_rm hRf hRl (Nat.le_of_ble_eq_true rfl)) (by decide +kernel)))
    (ms_lf (ms_if_ne hx hb (by decide) (by decide +kernel))))))
    (ms_b (ms_b (ms_lf (ms_ret hx hb hr hlk (by decide +kernel)))
    (ms_b (ms_lf (ms_aload_n hx hb rfl (by decide +kernel)))
    (ms_lf (ms_aload_n hx hb rfl (by decide +kernel)))))
    (ms_b (ms_b (ms_lf (ms_iload_n hx hb rfl (by decide +kernel)))
    (ms_lf (ms_iload hx hb (by decide +kernel))))
    (ms_b (ms_lf (ms_ivV (C := RX0) (T := TX0) (N := 1) hx hb hml hown hts hgo hEX hf hK rfl (mm_GV hAW (mm_GI hAW gi_7) qw_1031 qw_997 qw_998 qw_126) rfl ⟨rfl, hd_7⟩ (mm_rm hRf hRl (Nat.le_of_ble_eq_true rfl)) (by decide +kernel)))
    (ms_lf (ms_aload_n hx hb rfl (by decide +kernel))))))))
    (ms_b (ms_b (ms_b (ms_b (ms_lf (ms_aload_n hx hb rfl (by decide +kernel)))
    (ms_b (ms_lf (ms_iload_n hx hb rfl (by decide +kernel)))
    (ms_lf (ms_iload hx hb (by decide +kernel)))))
    (ms_b (ms_lf (ms_ivV (C := RX0) (T := TX0) (N := 1) hx hb hml hown hts hgo hEX hf hK rfl (mm_GV hAW (mm_GI hAW gi_1) qw_1030 qw_960 qw_961 qw_126) rfl ⟨rfl, hd_1⟩ (mm_rm hRf hRl (Nat.le_of_ble_eq_true rfl)) (by decide +kernel)))
    (ms_b (ms_lf (ms_if_ne hx hb (by decide) (by decide +kernel)))
    (ms_lf (ms_ret hx hb hr hlk (by decide +kernel))))))
    (ms_b (ms_b (ms_lf (ms_aload_n hx hb rfl (by decide +kernel)))
    (ms_b (ms_lf (ms_aload_n hx hb rfl (by decide +kernel)))
    (ms_lf (ms_iload_n hx hb rfl (by decide +kernel)))))
    (ms_b (ms_b (ms_lf (ms_iload hx hb (by decide +kernel)))
    (ms_lf (ms_ivV (C := RX0) (T := TX0) (N := 1) hx hb hml hown hts hgo hEX hf hK rfl (mm_GV hAW (mm_GI hAW gi_2) qw_1000 qw_944 qw_945 qw_126) rfl ⟨rfl, hd_2⟩ (mm_rm hRf hRl (Nat.le_of_ble_eq_true rfl)) (by decide +kernel))))
    (ms_b (ms_lf (ms_bipush hx hb (by decide) (by decide +kernel)))
    (ms_lf (ms_iload_n hx hb rfl (by decide +kernel)))))))
    (ms_b (ms_b (ms_b (ms_lf (ms_ldc hx hb hown (hts _ (hAW _ qw_1032)) (by decide +kernel)))
    (ms_b (ms_lf (ms_iload hx hb (by decide +kernel)))
    (ms_lf (ms_iadd hx hb (by decide +kernel)))))
    (ms_b (ms_lf (ms_ivS hx hb hml hown hts hgo hEX (mm_GS hAW (mm_GI hAW gi_10) qw_1023 qw_1024 qw_126) rfl hd_10 (mm_rm hRf hRl (Nat.le_of_ble_eq_true rfl)) (by decide +kernel)))
    (ms_b (ms_lf (ms_aload_n hx hb rfl (by decide +kernel)))
    (ms_lf (ms_ivV (C := RX0) (T := TX0) (N := 1) hx hb hml hown hts hgo hEX hf hK rfl (mm_GV hAW (mm_GI hAW gi_5) qw_1033 qw_980 qw_981 qw_126) rfl ⟨rfl, hd_5⟩ (mm_rm hRf hRl (Nat.le_of_ble_eq_true rfl)) (by decide +kernel))))))
    (ms_b (ms_b (ms_lf (ms_ic_ge hx hb (by decide) (by decide +kernel)))
    (ms_b (ms_lf (ms_aload_n hx hb rfl (by decide +kernel)))
    (ms_lf (ms_aload_n hx hb rfl (by decide +kernel)))))
    (ms_b (ms_b (ms_lf (ms_iload_n hx hb rfl (by decide +kernel)))
    (ms_lf (ms_iload hx hb (by decide +kernel))))
    (ms_b (ms_lf (ms_ivV (C := RX0) (T := TX0) (N := 1) hx hb hml hown hts hgo hEX hf hK rfl (mm_GV hAW (mm_GI hAW gi_7) qw_1031 qw_997 qw_998 qw_126) rfl ⟨rfl, hd_7⟩ (mm_rm hRf hRl (Nat.le_of_ble_eq_true rfl)) (by decide +kernel)))
    (ms_lf (ms_ret hx hb hr hlk (by decide +kernel)))))))))
set_option maxRecDepth 100000 in
set_option maxHeartbeats 8000000 in
/-- TippedCrates$Drays.lot -/
theorem sd_10 (l : Launch) (f : Nat → Nat) (D : va_G) (cA : FieldType → ClassId) (d : Nat) : mm_Ok2 l f D cA d (yX0_lot, cX0_lot, 4, (some .int), mc_10) := by
  intro p e R s m args below meth c C hRf hRl pc
  obtain ⟨hx, hb, hml, hr, hlk, hnm, hown, hts, hEX, hgo, hf⟩ := C
  obtain ⟨hK, hA, hX, hZs, hZc, hZq, hTx, hSR0, hSR1, hAO, hN⟩ := id hEX
  have hAW : ∀ w ∈ mm_AW, w ∈ (Cond.code yX0_lot cX0_lot 4 (some .int) :: mm_AW) := fun w h => List.mem_cons_of_mem _ h
  have hown : s.vm.findClass "TippedCrates$Drays" = some m.cls := hown
  show mm_S p l e R s m args below meth c f D mm_cl cA 4 _ pc (mc_10 pc)
  unfold mc_10
  exact (ms_b (ms_b (ms_b (ms_b (ms_lf (ms_iload_n hx hb rfl (by decide +kernel)))
    (ms_lf (ms_sipush hx hb (by decide) (by decide +kernel))))
    (ms_b (ms_lf (ms_ivS hx hb hml hown hts hgo hEX (mm_GS hAW (mm_GI hAW gi_11) qw_1026 qw_1027 qw_126) rfl hd_11 (mm_rm hRf hRl (Nat.le_of_ble_eq_true rfl)) (by decide +kernel)))
    (ms_lf (ms_iload_n hx hb rfl (by decide +kernel)))))
    (ms_b (ms_b (ms_lf (ms_ivS hx hb hml hown hts hgo hEX (mm_GS hAW (mm_GI hAW gi_11) qw_1026 qw_1027 qw_126) rfl hd_11 (mm_rm hRf hRl (Nat.le_of_ble_eq_true rfl)) (by decide +kernel)))
    (ms_lf (ms_istore_n hx hb rfl (by decide : 3 < 4) (by decide +kernel))))
    (ms_b (ms_lf (ms_iload_n hx hb rfl (by decide +kernel)))
    (ms_lf (ms_iconst hx hb (by decide) (by decide +kernel))))))
    (ms_b (ms_b (ms_b (ms_lf (ms_ic_ge hx hb (by decide) (by decide +kernel)))
    (ms_lf (ms_iconst hx hb (by decide) (by decide +kernel))))
    (ms_b (ms_lf (ms_goto hx hb (by decide) (by decide +kernel)))
    (ms_lf (ms_iload_n hx hb rfl (by decide +kernel)))))
    (ms_b (ms_b (ms_lf (ms_iconst hx hb (by decide) (by decide +kernel)))
    (ms_lf (ms_iushr hx hb (by decide +kernel))))
    (ms_b (ms_lf (ms_iload_n hx hb rfl (by decide +kernel)))
    (ms_b (ms_lf (ms_irem hx hb (by decide +kernel)))
    (ms_lf (ms_iret hx hb hr hlk (by decide +kernel))))))))
set_option maxRecDepth 100000 in
set_option maxHeartbeats 8000000 in
/-- TippedCrates$Drays.mix -/
theorem sd_11 (l : Launch) (f : Nat → Nat) (D : va_G) (cA : FieldType → ClassId) (d : Nat) : mm_Ok2 l f D cA d (yX0_mix, cX0_mix, 3, (some .int), mc_11) := by
  intro p e R s m args below meth c C hRf hRl pc
  obtain ⟨hx, hb, hml, hr, hlk, hnm, hown, hts, hEX, hgo, hf⟩ := C
  obtain ⟨hK, hA, hX, hZs, hZc, hZq, hTx, hSR0, hSR1, hAO, hN⟩ := id hEX
  have hAW : ∀ w ∈ mm_AW, w ∈ (Cond.code yX0_mix cX0_mix 3 (some .int) :: mm_AW) := fun w h => List.mem_cons_of_mem _ h
  have hown : s.vm.findClass "TippedCrates$Drays" = some m.cls := hown
  show mm_S p l e R s m args below meth c f D mm_cl cA 3 _ pc (mc_11 pc)
  unfold mc_11
  exact (ms_b (ms_b (ms_b (ms_lf (ms_iload_n hx hb rfl (by decide +kernel)))
    (ms_b (ms_lf (ms_iload_n hx hb rfl (by decide +kernel)))
    (ms_lf (ms_ixor hx hb (by decide +kernel)))))
    (ms_b (ms_b (ms_lf (ms_ldc hx hb hown (hts _ (hAW _ qw_1029)) (by decide +kernel)))
    (ms_lf (ms_imul hx hb (by decide +kernel))))
    (ms_b (ms_lf (ms_sipush hx hb (by decide) (by decide +kernel)))
    (ms_lf (ms_iadd hx hb (by decide +kernel))))))
    (ms_b (ms_b (ms_lf (ms_istore_n hx hb rfl (by decide : 2 < 3) (by decide +kernel)))
    (ms_b (ms_lf (ms_iload_n hx hb rfl (by decide +kernel)))
    (ms_lf (ms_iload_n hx hb rfl (by decide +kernel)))))
    (ms_b (ms_b (ms_lf (ms_bipush hx hb (by decide) (by decide +kernel)))
    (ms_lf (ms_iushr hx hb (by decide +kernel))))
    (ms_b (ms_lf (ms_ixor hx hb (by decide +kernel)))
    (ms_lf (ms_iret hx hb hr hlk (by decide +kernel)))))))
set_option maxRecDepth 100000 in
set_option maxHeartbeats 8000000 in
/-- TippedCrates$Laws.<init> -/
theorem sd_12 (l : Launch) (f : Nat → Nat) (D : va_G) (cA : FieldType → ClassId) (d : Nat) : mm_Ok2 l f D cA d (yX1_init, cX1_init, 1, none, mc_12) := by
  intro p e R s m args below meth c C hRf hRl pc
  obtain ⟨hx, hb, hml, hr, hlk, hnm, hown, hts, hEX, hgo, hf⟩ := C
  obtain ⟨hK, hA, hX, hZs, hZc, hZq, hTx, hSR0, hSR1, hAO, hN⟩ := id hEX
  have hAW : ∀ w ∈ mm_AW, w ∈ (Cond.code yX1_init cX1_init 1 none :: mm_AW) := fun w h => List.mem_cons_of_mem _ h
  have hown : s.vm.findClass "TippedCrates$Laws" = some m.cls := hown
  show mm_S p l e R s m args below meth c f D mm_cl cA 1 _ pc (mc_12 pc)
  unfold mc_12
  exact (ms_b (ms_b (ms_b (ms_b (ms_lf (ms_aload_n hx hb rfl (by decide +kernel)))
    (ms_lf (ms_oi hx hb hml hown (hts _ (hAW _ qw_247)) (hts _ (hAW _ qw_144)) (hts _ (hAW _ qw_145)) (by omega) (by omega) (by decide +kernel))))
    (ms_b (ms_lf (ms_aload_n hx hb rfl (by decide +kernel)))
    (ms_lf (ms_bipush hx hb (by decide) (by decide +kernel)))))
    (ms_b (ms_b (ms_lf (ms_na hx hb hf hA rfl (hts _ (hAW _ qw_233)) rfl rfl rfl (by decide) (by decide +kernel)))
    (ms_lf (ms_putF (C := RX1) (T := TX1) (N := 5) hx hb hf hts (fun w h => hAW w (inq_1 w h)) tyX1 tyX1_ok nmX1 hown hK rfl (by decide) (hts _ (hAW _ qw_248)) rfl rfl hnm rfl rfl (by decide +kernel))))
    (ms_b (ms_lf (ms_aload_n hx hb rfl (by decide +kernel)))
    (ms_b (ms_lf (ms_sipush hx hb (by decide) (by decide +kernel)))
    (ms_lf (ms_na hx hb hf hA rfl (hts _ (hAW _ qw_233)) rfl rfl rfl (by decide) (by decide +kernel)))))))
    (ms_b (ms_b (ms_b (ms_lf (ms_putF (C := RX1) (T := TX1) (N := 5) hx hb hf hts (fun w h => hAW w (inq_1 w h)) tyX1 tyX1_ok nmX1 hown hK rfl (by decide) (hts _ (hAW _ qw_250)) rfl rfl hnm rfl rfl (by decide +kernel)))
    (ms_lf (ms_aload_n hx hb rfl (by decide +kernel))))
    (ms_b (ms_lf (ms_iconst hx hb (by decide) (by decide +kernel)))
    (ms_b (ms_lf (ms_na hx hb hf hA rfl (hts _ (hAW _ qw_233)) rfl rfl rfl (by decide) (by decide +kernel)))
    (ms_lf (ms_putF (C := RX1) (T := TX1) (N := 5) hx hb hf hts (fun w h => hAW w (inq_1 w h)) tyX1 tyX1_ok nmX1 hown hK rfl (by decide) (hts _ (hAW _ qw_251)) rfl rfl hnm rfl rfl (by decide +kernel))))))
    (ms_b (ms_b (ms_lf (ms_aload_n hx hb rfl (by decide +kernel)))
    (ms_lf (ms_bipush hx hb (by decide) (by decide +kernel))))
    (ms_b (ms_lf (ms_na hx hb hf hA rfl (hts _ (hAW _ qw_233)) rfl rfl rfl (by decide) (by decide +kernel)))
    (ms_b (ms_lf (ms_putF (C := RX1) (T := TX1) (N := 5) hx hb hf hts (fun w h => hAW w (inq_1 w h)) tyX1 tyX1_ok nmX1 hown hK rfl (by decide) (hts _ (hAW _ qw_252)) rfl rfl hnm rfl rfl (by decide +kernel)))
    (ms_lf (ms_ret hx hb hr hlk (by decide +kernel))))))))
set_option maxRecDepth 100000 in
set_option maxHeartbeats 8000000 in
/-- TippedCrates$Laws.clear -/
theorem sd_13 (l : Launch) (f : Nat → Nat) (D : va_G) (cA : FieldType → ClassId) (d : Nat) : mm_Ok2 l f D cA d (yX1_clear, cX1_clear, 2, none, mc_13) := by
  intro p e R s m args below meth c C hRf hRl pc
  obtain ⟨hx, hb, hml, hr, hlk, hnm, hown, hts, hEX, hgo, hf⟩ := C
  obtain ⟨hK, hA, hX, hZs, hZc, hZq, hTx, hSR0, hSR1, hAO, hN⟩ := id hEX
  have hAW : ∀ w ∈ mm_AW, w ∈ (Cond.code yX1_clear cX1_clear 2 none :: mm_AW) := fun w h => List.mem_cons_of_mem _ h
  have hown : s.vm.findClass "TippedCrates$Laws" = some m.cls := hown
  show mm_S p l e R s m args below meth c f D mm_cl cA 2 _ pc (mc_13 pc)
  unfold mc_13
  exact (ms_b (ms_b (ms_b (ms_b (ms_lf (ms_aload_n hx hb rfl (by decide +kernel)))
    (ms_b (ms_lf (ms_iconst hx hb (by decide) (by decide +kernel)))
    (ms_lf (ms_put (C := RX1) (T := TX1) (N := 5) hx hb hf hts (fun w h => hAW w (inq_1 w h)) tyX1 tyX1_ok nmX1 hown hK rfl (by decide) (hts _ (hAW _ qw_253)) rfl rfl rfl (by decide +kernel)))))
    (ms_b (ms_b (ms_lf (ms_iconst hx hb (by decide) (by decide +kernel)))
    (ms_lf (ms_istore_n hx hb rfl (by decide : 1 < 2) (by decide +kernel))))
    (ms_b (ms_lf (ms_iload_n hx hb rfl (by decide +kernel)))
    (ms_lf (ms_iconst hx hb (by decide) (by decide +kernel))))))
    (ms_b (ms_b (ms_b (ms_lf (ms_ic_ge hx hb (by decide) (by decide +kernel)))
    (ms_lf (ms_aload_n hx hb rfl (by decide +kernel))))
    (ms_b (ms_lf (ms_iload_n hx hb rfl (by decide +kernel)))
    (ms_lf (ms_ivV (C := RX1) (T := TX1) (N := 5) hx hb hml hown hts hgo hEX hf hK rfl (mm_GV hAW (mm_GI hAW gi_14) qw_632 qw_633 qw_634 qw_124) rfl ⟨rfl, hd_14⟩ (mm_rm hRf hRl (Nat.le_of_ble_eq_true rfl)) (by decide +kernel)))))
    (ms_b (ms_b (ms_lf (ms_aload_n hx hb rfl (by decide +kernel)))
    (ms_lf (ms_iconst hx hb (by decide) (by decide +kernel))))
    (ms_b (ms_lf (ms_iload_n hx hb rfl (by decide +kernel)))
    (ms_lf (ms_if_eq hx hb (by decide) (by decide +kernel)))))))
    (ms_b (ms_b (ms_b (ms_b (ms_lf (ms_iload_n hx hb rfl (by decide +kernel)))
    (ms_lf (ms_iconst hx hb (by decide) (by decide +kernel))))
    (ms_b (ms_lf (ms_ic_ne hx hb (by decide) (by decide +kernel)))
    (ms_lf (ms_iconst hx hb (by decide) (by decide +kernel)))))
    (ms_b (ms_b (ms_lf (ms_goto hx hb (by decide) (by decide +kernel)))
    (ms_lf (ms_iconst hx hb (by decide) (by decide +kernel))))
    (ms_b (ms_lf (ms_ivV (C := RX1) (T := TX1) (N := 5) hx hb hml hown hts hgo hEX hf hK rfl (mm_GV hAW (mm_GI hAW gi_15) qw_636 qw_637 qw_638 qw_124) rfl ⟨rfl, hd_15⟩ (mm_rm hRf hRl (Nat.le_of_ble_eq_true rfl)) (by decide +kernel)))
    (ms_lf (ms_pop hx hb (by decide +kernel))))))
    (ms_b (ms_b (ms_b (ms_lf (ms_aload_n hx hb rfl (by decide +kernel)))
    (ms_lf (ms_iconst hx hb (by decide) (by decide +kernel))))
    (ms_b (ms_lf (ms_iconst hx hb (by decide) (by decide +kernel)))
    (ms_lf (ms_ivV (C := RX1) (T := TX1) (N := 5) hx hb hml hown hts hgo hEX hf hK rfl (mm_GV hAW (mm_GI hAW gi_15) qw_636 qw_637 qw_638 qw_124) rfl ⟨rfl, hd_15⟩ (mm_rm hRf hRl (Nat.le_of_ble_eq_true rfl)) (by decide +kernel)))))
    (ms_b (ms_b (ms_lf (ms_pop hx hb (by decide +kernel)))
    (ms_lf (ms_iinc hx hb (by decide) (by decide : 1 < 2) (by decide +kernel))))
    (ms_b (ms_lf (ms_goto hx hb (by decide) (by decide +kernel)))
    (ms_lf (ms_ret hx hb hr hlk (by decide +kernel))))))))
set_option maxRecDepth 100000 in
set_option maxHeartbeats 8000000 in
/-- TippedCrates$Laws.begin -/
theorem sd_14 (l : Launch) (f : Nat → Nat) (D : va_G) (cA : FieldType → ClassId) (d : Nat) : mm_Ok2 l f D cA d (yX1_begin, cX1_begin, 2, none, mc_14) := by
  intro p e R s m args below meth c C hRf hRl pc
  obtain ⟨hx, hb, hml, hr, hlk, hnm, hown, hts, hEX, hgo, hf⟩ := C
  obtain ⟨hK, hA, hX, hZs, hZc, hZq, hTx, hSR0, hSR1, hAO, hN⟩ := id hEX
  have hAW : ∀ w ∈ mm_AW, w ∈ (Cond.code yX1_begin cX1_begin 2 none :: mm_AW) := fun w h => List.mem_cons_of_mem _ h
  have hown : s.vm.findClass "TippedCrates$Laws" = some m.cls := hown
  show mm_S p l e R s m args below meth c f D mm_cl cA 2 _ pc (mc_14 pc)
  unfold mc_14
  exact (ms_b (ms_b (ms_lf (ms_aload_n hx hb rfl (by decide +kernel)))
    (ms_b (ms_lf (ms_getf (C := RX1) (T := TX1) (N := 5) hx hb hf hts (fun w h => hAW w (inq_1 w h)) hown hK rfl (by decide) (hts _ (hAW _ qw_251)) rfl (by decide +kernel)))
    (ms_lf (ms_iload_n hx hb rfl (by decide +kernel)))))
    (ms_b (ms_b (ms_lf (ms_aload_n hx hb rfl (by decide +kernel)))
    (ms_lf (ms_getf (C := RX1) (T := TX1) (N := 5) hx hb hf hts (fun w h => hAW w (inq_1 w h)) hown hK rfl (by decide) (hts _ (hAW _ qw_253)) rfl (by decide +kernel))))
    (ms_b (ms_lf (ms_iast hx hb hf hA (by decide +kernel)))
    (ms_lf (ms_ret hx hb hr hlk (by decide +kernel))))))
set_option maxRecDepth 100000 in
set_option maxHeartbeats 8000000 in
/-- TippedCrates$Laws.write -/
theorem sd_15 (l : Launch) (f : Nat → Nat) (D : va_G) (cA : FieldType → ClassId) (d : Nat) : mm_Ok2 l f D cA d (yX1_write, cX1_write, 3, (some .int), mc_15) := by
  intro p e R s m args below meth c C hRf hRl pc
  obtain ⟨hx, hb, hml, hr, hlk, hnm, hown, hts, hEX, hgo, hf⟩ := C
  obtain ⟨hK, hA, hX, hZs, hZc, hZq, hTx, hSR0, hSR1, hAO, hN⟩ := id hEX
  have hAW : ∀ w ∈ mm_AW, w ∈ (Cond.code yX1_write cX1_write 3 (some .int) :: mm_AW) := fun w h => List.mem_cons_of_mem _ h
  have hown : s.vm.findClass "TippedCrates$Laws" = some m.cls := hown
  show mm_S p l e R s m args below meth c f D mm_cl cA 3 _ pc (mc_15 pc)
  unfold mc_15
  exact (ms_b (ms_b (ms_b (ms_b (ms_lf (ms_aload_n hx hb rfl (by decide +kernel)))
    (ms_b (ms_lf (ms_getf (C := RX1) (T := TX1) (N := 5) hx hb hf hts (fun w h => hAW w (inq_1 w h)) hown hK rfl (by decide) (hts _ (hAW _ qw_253)) rfl (by decide +kernel)))
    (ms_lf (ms_sipush hx hb (by decide) (by decide +kernel)))))
    (ms_b (ms_lf (ms_ic_lt hx hb (by decide) (by decide +kernel)))
    (ms_b (ms_lf (ms_iconst hx hb (by decide) (by decide +kernel)))
    (ms_lf (ms_iret hx hb hr hlk (by decide +kernel))))))
    (ms_b (ms_b (ms_lf (ms_aload_n hx hb rfl (by decide +kernel)))
    (ms_b (ms_lf (ms_getf (C := RX1) (T := TX1) (N := 5) hx hb hf hts (fun w h => hAW w (inq_1 w h)) hown hK rfl (by decide) (hts _ (hAW _ qw_250)) rfl (by decide +kernel)))
    (ms_lf (ms_aload_n hx hb rfl (by decide +kernel)))))
    (ms_b (ms_b (ms_lf (ms_getf (C := RX1) (T := TX1) (N := 5) hx hb hf hts (fun w h => hAW w (inq_1 w h)) hown hK rfl (by decide) (hts _ (hAW _ qw_253)) rfl (by decide +kernel)))
    (ms_lf (ms_iload_n hx hb rfl (by decide +kernel))))
    (ms_b (ms_lf (ms_bipush hx hb (by decide) (by decide +kernel)))
    (ms_lf (ms_imul hx hb (by decide +kernel)))))))
    (ms_b (ms_b (ms_b (ms_lf (ms_iload_n hx hb rfl (by decide +kernel)))
    (ms_b (ms_lf (ms_iadd hx hb (by decide +kernel)))
    (ms_lf (ms_iast hx hb hf hA (by decide +kernel)))))
    (ms_b (ms_b (ms_lf (ms_aload_n hx hb rfl (by decide +kernel)))
    (ms_lf (ms_dup hx hb (by decide +kernel))))
    (ms_b (ms_lf (ms_getf (C := RX1) (T := TX1) (N := 5) hx hb hf hts (fun w h => hAW w (inq_1 w h)) hown hK rfl (by decide) (hts _ (hAW _ qw_253)) rfl (by decide +kernel)))
    (ms_lf (ms_iconst hx hb (by decide) (by decide +kernel))))))
    (ms_b (ms_b (ms_lf (ms_iadd hx hb (by decide +kernel)))
    (ms_b (ms_lf (ms_put (C := RX1) (T := TX1) (N := 5) hx hb hf hts (fun w h => hAW w (inq_1 w h)) tyX1 tyX1_ok nmX1 hown hK rfl (by decide) (hts _ (hAW _ qw_253)) rfl rfl rfl (by decide +kernel)))
    (ms_lf (ms_aload_n hx hb rfl (by decide +kernel)))))
    (ms_b (ms_b (ms_lf (ms_getf (C := RX1) (T := TX1) (N := 5) hx hb hf hts (fun w h => hAW w (inq_1 w h)) hown hK rfl (by decide) (hts _ (hAW _ qw_253)) rfl (by decide +kernel)))
    (ms_lf (ms_iconst hx hb (by decide) (by decide +kernel))))
    (ms_b (ms_lf (ms_isub hx hb (by decide +kernel)))
    (ms_lf (ms_iret hx hb hr hlk (by decide +kernel))))))))
set_option maxRecDepth 100000 in
set_option maxHeartbeats 8000000 in
/-- TippedCrates$Laws.leadHere -/
theorem sd_16 (l : Launch) (f : Nat → Nat) (D : va_G) (cA : FieldType → ClassId) (d : Nat) : mm_Ok2 l f D cA d (yX1_leadHere, cX1_leadHere, 2, none, mc_16) := by
  intro p e R s m args below meth c C hRf hRl pc
  obtain ⟨hx, hb, hml, hr, hlk, hnm, hown, hts, hEX, hgo, hf⟩ := C
  obtain ⟨hK, hA, hX, hZs, hZc, hZq, hTx, hSR0, hSR1, hAO, hN⟩ := id hEX
  have hAW : ∀ w ∈ mm_AW, w ∈ (Cond.code yX1_leadHere cX1_leadHere 2 none :: mm_AW) := fun w h => List.mem_cons_of_mem _ h
  have hown : s.vm.findClass "TippedCrates$Laws" = some m.cls := hown
  show mm_S p l e R s m args below meth c f D mm_cl cA 2 _ pc (mc_16 pc)
  unfold mc_16
  exact (ms_b (ms_b (ms_b (ms_lf (ms_iload_n hx hb rfl (by decide +kernel)))
    (ms_b (ms_lf (ms_iconst hx hb (by decide) (by decide +kernel)))
    (ms_lf (ms_ic_eq hx hb (by decide) (by decide +kernel)))))
    (ms_b (ms_b (ms_lf (ms_aload_n hx hb rfl (by decide +kernel)))
    (ms_lf (ms_getf (C := RX1) (T := TX1) (N := 5) hx hb hf hts (fun w h => hAW w (inq_1 w h)) hown hK rfl (by decide) (hts _ (hAW _ qw_250)) rfl (by decide +kernel))))
    (ms_b (ms_lf (ms_iload_n hx hb rfl (by decide +kernel)))
    (ms_lf (ms_aload_n hx hb rfl (by decide +kernel))))))
    (ms_b (ms_b (ms_lf (ms_getf (C := RX1) (T := TX1) (N := 5) hx hb hf hts (fun w h => hAW w (inq_1 w h)) hown hK rfl (by decide) (hts _ (hAW _ qw_253)) rfl (by decide +kernel)))
    (ms_b (ms_lf (ms_bipush hx hb (by decide) (by decide +kernel)))
    (ms_lf (ms_imul hx hb (by decide +kernel)))))
    (ms_b (ms_b (ms_lf (ms_iconst hx hb (by decide) (by decide +kernel)))
    (ms_lf (ms_iadd hx hb (by decide +kernel))))
    (ms_b (ms_lf (ms_iast hx hb hf hA (by decide +kernel)))
    (ms_lf (ms_ret hx hb hr hlk (by decide +kernel)))))))
set_option maxRecDepth 100000 in
set_option maxHeartbeats 8000000 in
/-- TippedCrates$Laws.copyOf -/
theorem sd_17 (l : Launch) (f : Nat → Nat) (D : va_G) (cA : FieldType → ClassId) (d : Nat) : mm_Ok2 l f D cA d (yX1_copyOf, cX1_copyOf, 2, none, mc_17) := by
  intro p e R s m args below meth c C hRf hRl pc
  obtain ⟨hx, hb, hml, hr, hlk, hnm, hown, hts, hEX, hgo, hf⟩ := C
  obtain ⟨hK, hA, hX, hZs, hZc, hZq, hTx, hSR0, hSR1, hAO, hN⟩ := id hEX
  have hAW : ∀ w ∈ mm_AW, w ∈ (Cond.code yX1_copyOf cX1_copyOf 2 none :: mm_AW) := fun w h => List.mem_cons_of_mem _ h
  have hown : s.vm.findClass "TippedCrates$Laws" = some m.cls := hown
  show mm_S p l e R s m args below meth c f D mm_cl cA 2 _ pc (mc_17 pc)
  unfold mc_17
  exact (ms_b (ms_b (ms_b (ms_b (ms_lf (ms_aload_n hx hb rfl (by decide +kernel)))
    (ms_lf (ms_getf (C := RX1) (T := TX1) (N := 5) hx hb hf hts (fun w h => hAW w (inq_1 w h)) hown hK rfl (by decide) (hts _ (hAW _ qw_250)) rfl (by decide +kernel))))
    (ms_b (ms_lf (ms_iconst hx hb (by decide) (by decide +kernel)))
    (ms_b (ms_lf (ms_aload_n hx hb rfl (by decide +kernel)))
    (ms_lf (ms_getf (C := RX1) (T := TX1) (N := 5) hx hb hf hts (fun w h => hAW w (inq_1 w h)) hown hK rfl (by decide) (hts _ (hAW _ qw_250)) rfl (by decide +kernel))))))
    (ms_b (ms_b (ms_lf (ms_iconst hx hb (by decide) (by decide +kernel)))
    (ms_b (ms_lf (ms_aload_n hx hb rfl (by decide +kernel)))
    (ms_lf (ms_getf (C := RX1) (T := TX1) (N := 5) hx hb hf hts (fun w h => hAW w (inq_1 w h)) hown hK rfl (by decide) (hts _ (hAW _ qw_253)) rfl (by decide +kernel)))))
    (ms_b (ms_lf (ms_ac hx hb hml hf hA hown (hts _ (hAW _ qw_840)) (hts _ (hAW _ qw_408)) (hts _ (hAW _ qw_407)) (hts _ (hAW _ qw_128)) (by omega) (by rw [hRl]; simp [nativeFrameWords]; omega) (by decide +kernel)))
    (ms_b (ms_lf (ms_aload_n hx hb rfl (by decide +kernel)))
    (ms_lf (ms_getf (C := RX1) (T := TX1) (N := 5) hx hb hf hts (fun w h => hAW w (inq_1 w h)) hown hK rfl (by decide) (hts _ (hAW _ qw_251)) rfl (by decide +kernel)))))))
    (ms_b (ms_b (ms_b (ms_lf (ms_iconst hx hb (by decide) (by decide +kernel)))
    (ms_lf (ms_aload_n hx hb rfl (by decide +kernel))))
    (ms_b (ms_lf (ms_getf (C := RX1) (T := TX1) (N := 5) hx hb hf hts (fun w h => hAW w (inq_1 w h)) hown hK rfl (by decide) (hts _ (hAW _ qw_251)) rfl (by decide +kernel)))
    (ms_b (ms_lf (ms_iconst hx hb (by decide) (by decide +kernel)))
    (ms_lf (ms_iconst hx hb (by decide) (by decide +kernel))))))
    (ms_b (ms_b (ms_lf (ms_ac hx hb hml hf hA hown (hts _ (hAW _ qw_840)) (hts _ (hAW _ qw_408)) (hts _ (hAW _ qw_407)) (hts _ (hAW _ qw_128)) (by omega) (by rw [hRl]; simp [nativeFrameWords]; omega) (by decide +kernel)))
    (ms_b (ms_lf (ms_aload_n hx hb rfl (by decide +kernel)))
    (ms_lf (ms_aload_n hx hb rfl (by decide +kernel)))))
    (ms_b (ms_lf (ms_getf (C := RX1) (T := TX1) (N := 5) hx hb hf hts (fun w h => hAW w (inq_1 w h)) hown hK rfl (by decide) (hts _ (hAW _ qw_253)) rfl (by decide +kernel)))
    (ms_b (ms_lf (ms_put (C := RX1) (T := TX1) (N := 5) hx hb hf hts (fun w h => hAW w (inq_1 w h)) tyX1 tyX1_ok nmX1 hown hK rfl (by decide) (hts _ (hAW _ qw_253)) rfl rfl rfl (by decide +kernel)))
    (ms_lf (ms_ret hx hb hr hlk (by decide +kernel))))))))
set_option maxRecDepth 100000 in
set_option maxHeartbeats 8000000 in
/-- TippedCrates$Laws.answer -/
theorem sd_18 (l : Launch) (f : Nat → Nat) (D : va_G) (cA : FieldType → ClassId) (d : Nat) : mm_Ok2 l f D cA d (yX1_answer, cX1_answer, 9, (some .int), mc_18) := by
  intro p e R s m args below meth c C hRf hRl pc
  obtain ⟨hx, hb, hml, hr, hlk, hnm, hown, hts, hEX, hgo, hf⟩ := C
  obtain ⟨hK, hA, hX, hZs, hZc, hZq, hTx, hSR0, hSR1, hAO, hN⟩ := id hEX
  have hAW : ∀ w ∈ mm_AW, w ∈ (Cond.code yX1_answer cX1_answer 9 (some .int) :: mm_AW) := fun w h => List.mem_cons_of_mem _ h
  have hown : s.vm.findClass "TippedCrates$Laws" = some m.cls := hown
  show mm_S p l e R s m args below meth c f D mm_cl cA 9 _ pc (mc_18 pc)
  unfold mc_18
  exact (ms_b (ms_b (ms_b (ms_b (ms_b (ms_b (ms_b (ms_lf (ms_aload_n hx hb rfl (by decide +kernel)))
    (ms_lf (ms_getf (C := RX1) (T := TX1) (N := 5) hx hb hf hts (fun w h => hAW w (inq_1 w h)) hown hK rfl (by decide) (hts _ (hAW _ qw_251)) rfl (by decide +kernel))))
    (ms_b (ms_lf (ms_iload_n hx hb rfl (by decide +kernel)))
    (ms_lf (ms_iald hx hb hf hA hX (by decide +kernel)))))
    (ms_b (ms_b (ms_lf (ms_istore_n hx hb rfl (by decide : 2 < 9) (by decide +kernel)))
    (ms_lf (ms_iconst hx hb (by decide) (by decide +kernel))))
    (ms_b (ms_lf (ms_istore_n hx hb rfl (by decide : 3 < 9) (by decide +kernel)))
    (ms_lf (ms_iconst hx hb (by decide) (by decide +kernel))))))
    (ms_b (ms_b (ms_b (ms_lf (ms_istore hx hb (by decide : 4 < 9) (by decide +kernel)))
    (ms_lf (ms_iload hx hb (by decide +kernel))))
    (ms_b (ms_lf (ms_aload_n hx hb rfl (by decide +kernel)))
    (ms_lf (ms_getf (C := RX1) (T := TX1) (N := 5) hx hb hf hts (fun w h => hAW w (inq_1 w h)) hown hK rfl (by decide) (hts _ (hAW _ qw_253)) rfl (by decide +kernel)))))
    (ms_b (ms_b (ms_lf (ms_ic_ge hx hb (by decide) (by decide +kernel)))
    (ms_lf (ms_iload_n hx hb rfl (by decide +kernel))))
    (ms_b (ms_lf (ms_aload_n hx hb rfl (by decide +kernel)))
    (ms_b (ms_lf (ms_getf (C := RX1) (T := TX1) (N := 5) hx hb hf hts (fun w h => hAW w (inq_1 w h)) hown hK rfl (by decide) (hts _ (hAW _ qw_253)) rfl (by decide +kernel)))
    (ms_lf (ms_ic_ge hx hb (by decide) (by decide +kernel))))))))
    (ms_b (ms_b (ms_b (ms_b (ms_lf (ms_aload_n hx hb rfl (by decide +kernel)))
    (ms_lf (ms_getf (C := RX1) (T := TX1) (N := 5) hx hb hf hts (fun w h => hAW w (inq_1 w h)) hown hK rfl (by decide) (hts _ (hAW _ qw_250)) rfl (by decide +kernel))))
    (ms_b (ms_lf (ms_iload_n hx hb rfl (by decide +kernel)))
    (ms_lf (ms_iald hx hb hf hA hX (by decide +kernel)))))
    (ms_b (ms_b (ms_lf (ms_bipush hx hb (by decide) (by decide +kernel)))
    (ms_lf (ms_irem hx hb (by decide +kernel))))
    (ms_b (ms_lf (ms_istore hx hb (by decide : 5 < 9) (by decide +kernel)))
    (ms_lf (ms_aload_n hx hb rfl (by decide +kernel))))))
    (ms_b (ms_b (ms_b (ms_lf (ms_getf (C := RX1) (T := TX1) (N := 5) hx hb hf hts (fun w h => hAW w (inq_1 w h)) hown hK rfl (by decide) (hts _ (hAW _ qw_250)) rfl (by decide +kernel)))
    (ms_lf (ms_iload_n hx hb rfl (by decide +kernel))))
    (ms_b (ms_lf (ms_iald hx hb hf hA hX (by decide +kernel)))
    (ms_lf (ms_bipush hx hb (by decide) (by decide +kernel)))))
    (ms_b (ms_b (ms_lf (ms_idiv hx hb (by decide +kernel)))
    (ms_lf (ms_istore hx hb (by decide : 6 < 9) (by decide +kernel))))
    (ms_b (ms_lf (ms_iinc hx hb (by decide) (by decide : 2 < 9) (by decide +kernel)))
    (ms_b (ms_lf (ms_iload hx hb (by decide +kernel)))
    (ms_lf (ms_iconst hx hb (by decide) (by decide +kernel)))))))))
    (ms_b (ms_b (ms_b (ms_b (ms_b (ms_lf (ms_ic_ne hx hb (by decide) (by decide +kernel)))
    (ms_lf (ms_iload_n hx hb rfl (by decide +kernel))))
    (ms_b (ms_lf (ms_if_le hx hb (by decide) (by decide +kernel)))
    (ms_lf (ms_aload_n hx hb rfl (by decide +kernel)))))
    (ms_b (ms_b (ms_lf (ms_getf (C := RX1) (T := TX1) (N := 5) hx hb hf hts (fun w h => hAW w (inq_1 w h)) hown hK rfl (by decide) (hts _ (hAW _ qw_252)) rfl (by decide +kernel)))
    (ms_lf (ms_iload_n hx hb rfl (by decide +kernel))))
    (ms_b (ms_lf (ms_iconst hx hb (by decide) (by decide +kernel)))
    (ms_lf (ms_isub hx hb (by decide +kernel))))))
    (ms_b (ms_b (ms_b (ms_lf (ms_iald hx hb hf hA hX (by decide +kernel)))
    (ms_lf (ms_goto hx hb (by decide) (by decide +kernel))))
    (ms_b (ms_lf (ms_iconst hx hb (by decide) (by decide +kernel)))
    (ms_lf (ms_iret hx hb hr hlk (by decide +kernel)))))
    (ms_b (ms_b (ms_lf (ms_iload hx hb (by decide +kernel)))
    (ms_lf (ms_iconst hx hb (by decide) (by decide +kernel))))
    (ms_b (ms_lf (ms_ic_gt hx hb (by decide) (by decide +kernel)))
    (ms_b (ms_lf (ms_iload_n hx hb rfl (by decide +kernel)))
    (ms_lf (ms_bipush hx hb (by decide) (by decide +kernel))))))))
    (ms_b (ms_b (ms_b (ms_b (ms_lf (ms_ic_lt hx hb (by decide) (by decide +kernel)))
    (ms_lf (ms_iconst hx hb (by decide) (by decide +kernel))))
    (ms_b (ms_lf (ms_iret hx hb hr hlk (by decide +kernel)))
    (ms_lf (ms_aload_n hx hb rfl (by decide +kernel)))))
    (ms_b (ms_b (ms_lf (ms_getf (C := RX1) (T := TX1) (N := 5) hx hb hf hts (fun w h => hAW w (inq_1 w h)) hown hK rfl (by decide) (hts _ (hAW _ qw_252)) rfl (by decide +kernel)))
    (ms_lf (ms_iload_n hx hb rfl (by decide +kernel))))
    (ms_b (ms_lf (ms_iload hx hb (by decide +kernel)))
    (ms_b (ms_lf (ms_if_ne hx hb (by decide) (by decide +kernel)))
    (ms_lf (ms_iload hx hb (by decide +kernel)))))))
    (ms_b (ms_b (ms_b (ms_lf (ms_goto hx hb (by decide) (by decide +kernel)))
    (ms_lf (ms_aload_n hx hb rfl (by decide +kernel))))
    (ms_b (ms_lf (ms_getf (C := RX1) (T := TX1) (N := 5) hx hb hf hts (fun w h => hAW w (inq_1 w h)) hown hK rfl (by decide) (hts _ (hAW _ qw_248)) rfl (by decide +kernel)))
    (ms_lf (ms_iload hx hb (by decide +kernel)))))
    (ms_b (ms_b (ms_lf (ms_iald hx hb hf hA hX (by decide +kernel)))
    (ms_lf (ms_iast hx hb hf hA (by decide +kernel))))
    (ms_b (ms_lf (ms_iinc hx hb (by decide) (by decide : 3 < 9) (by decide +kernel)))
    (ms_b (ms_lf (ms_goto hx hb (by decide) (by decide +kernel)))
    (ms_lf (ms_iload_n hx hb rfl (by decide +kernel))))))))))
    (ms_b (ms_b (ms_b (ms_b (ms_b (ms_b (ms_lf (ms_iconst hx hb (by decide) (by decide +kernel)))
    (ms_lf (ms_ic_ge hx hb (by decide) (by decide +kernel))))
    (ms_b (ms_lf (ms_iconst hx hb (by decide) (by decide +kernel)))
    (ms_lf (ms_iret hx hb hr hlk (by decide +kernel)))))
    (ms_b (ms_b (ms_lf (ms_iinc hx hb (by decide) (by decide : 3 < 9) (by decide +kernel)))
    (ms_lf (ms_aload_n hx hb rfl (by decide +kernel))))
    (ms_b (ms_lf (ms_getf (C := RX1) (T := TX1) (N := 5) hx hb hf hts (fun w h => hAW w (inq_1 w h)) hown hK rfl (by decide) (hts _ (hAW _ qw_252)) rfl (by decide +kernel)))
    (ms_lf (ms_iload_n hx hb rfl (by decide +kernel))))))
    (ms_b (ms_b (ms_b (ms_lf (ms_iconst hx hb (by decide) (by decide +kernel)))
    (ms_lf (ms_isub hx hb (by decide +kernel))))
    (ms_b (ms_lf (ms_iald hx hb hf hA hX (by decide +kernel)))
    (ms_lf (ms_istore hx hb (by decide : 7 < 9) (by decide +kernel)))))
    (ms_b (ms_b (ms_lf (ms_aload_n hx hb rfl (by decide +kernel)))
    (ms_lf (ms_getf (C := RX1) (T := TX1) (N := 5) hx hb hf hts (fun w h => hAW w (inq_1 w h)) hown hK rfl (by decide) (hts _ (hAW _ qw_252)) rfl (by decide +kernel))))
    (ms_b (ms_lf (ms_iload_n hx hb rfl (by decide +kernel)))
    (ms_b (ms_lf (ms_iald hx hb hf hA hX (by decide +kernel)))
    (ms_lf (ms_istore hx hb (by decide : 8 < 9) (by decide +kernel))))))))
    (ms_b (ms_b (ms_b (ms_b (ms_lf (ms_iload hx hb (by decide +kernel)))
    (ms_lf (ms_iconst hx hb (by decide) (by decide +kernel))))
    (ms_b (ms_lf (ms_ic_ne hx hb (by decide) (by decide +kernel)))
    (ms_lf (ms_iinc hx hb (by decide) (by decide : 3 < 9) (by decide +kernel)))))
    (ms_b (ms_b (ms_lf (ms_iload hx hb (by decide +kernel)))
    (ms_lf (ms_iload hx hb (by decide +kernel))))
    (ms_b (ms_lf (ms_ic_ge hx hb (by decide) (by decide +kernel)))
    (ms_b (ms_lf (ms_iload_n hx hb rfl (by decide +kernel)))
    (ms_lf (ms_goto hx hb (by decide) (by decide +kernel)))))))
    (ms_b (ms_b (ms_b (ms_lf (ms_iload hx hb (by decide +kernel)))
    (ms_lf (ms_istore_n hx hb rfl (by decide : 2 < 9) (by decide +kernel))))
    (ms_b (ms_lf (ms_goto hx hb (by decide) (by decide +kernel)))
    (ms_lf (ms_iload hx hb (by decide +kernel)))))
    (ms_b (ms_b (ms_lf (ms_bipush hx hb (by decide) (by decide +kernel)))
    (ms_lf (ms_ic_ne hx hb (by decide) (by decide +kernel))))
    (ms_b (ms_lf (ms_iload hx hb (by decide +kernel)))
    (ms_b (ms_lf (ms_if_ne hx hb (by decide) (by decide +kernel)))
    (ms_lf (ms_iconst hx hb (by decide) (by decide +kernel)))))))))
    (ms_b (ms_b (ms_b (ms_b (ms_b (ms_lf (ms_iret hx hb hr hlk (by decide +kernel)))
    (ms_lf (ms_aload_n hx hb rfl (by decide +kernel))))
    (ms_b (ms_lf (ms_getf (C := RX1) (T := TX1) (N := 5) hx hb hf hts (fun w h => hAW w (inq_1 w h)) hown hK rfl (by decide) (hts _ (hAW _ qw_252)) rfl (by decide +kernel)))
    (ms_lf (ms_iload_n hx hb rfl (by decide +kernel)))))
    (ms_b (ms_b (ms_lf (ms_iconst hx hb (by decide) (by decide +kernel)))
    (ms_lf (ms_isub hx hb (by decide +kernel))))
    (ms_b (ms_lf (ms_iload hx hb (by decide +kernel)))
    (ms_lf (ms_iconst hx hb (by decide) (by decide +kernel))))))
    (ms_b (ms_b (ms_b (ms_lf (ms_ic_ne hx hb (by decide) (by decide +kernel)))
    (ms_lf (ms_iload hx hb (by decide +kernel))))
    (ms_b (ms_lf (ms_iload hx hb (by decide +kernel)))
    (ms_lf (ms_iadd hx hb (by decide +kernel)))))
    (ms_b (ms_b (ms_lf (ms_goto hx hb (by decide) (by decide +kernel)))
    (ms_lf (ms_iload hx hb (by decide +kernel))))
    (ms_b (ms_lf (ms_iconst hx hb (by decide) (by decide +kernel)))
    (ms_b (ms_lf (ms_ic_ne hx hb (by decide) (by decide +kernel)))
    (ms_lf (ms_iload hx hb (by decide +kernel))))))))
    (ms_b (ms_b (ms_b (ms_b (ms_lf (ms_iload hx hb (by decide +kernel)))
    (ms_lf (ms_isub hx hb (by decide +kernel))))
    (ms_b (ms_lf (ms_goto hx hb (by decide) (by decide +kernel)))
    (ms_lf (ms_iload hx hb (by decide +kernel)))))
    (ms_b (ms_b (ms_lf (ms_bipush hx hb (by decide) (by decide +kernel)))
    (ms_lf (ms_ic_ne hx hb (by decide) (by decide +kernel))))
    (ms_b (ms_lf (ms_iload hx hb (by decide +kernel)))
    (ms_b (ms_lf (ms_iload hx hb (by decide +kernel)))
    (ms_lf (ms_imul hx hb (by decide +kernel)))))))
    (ms_b (ms_b (ms_b (ms_lf (ms_goto hx hb (by decide) (by decide +kernel)))
    (ms_lf (ms_iload hx hb (by decide +kernel))))
    (ms_b (ms_lf (ms_iload hx hb (by decide +kernel)))
    (ms_lf (ms_idiv hx hb (by decide +kernel)))))
    (ms_b (ms_b (ms_lf (ms_iast hx hb hf hA (by decide +kernel)))
    (ms_lf (ms_iinc hx hb (by decide) (by decide : 4 < 9) (by decide +kernel))))
    (ms_b (ms_lf (ms_goto hx hb (by decide) (by decide +kernel)))
    (ms_b (ms_lf (ms_iconst hx hb (by decide) (by decide +kernel)))
    (ms_lf (ms_iret hx hb hr hlk (by decide +kernel)))))))))))
set_option maxRecDepth 100000 in
set_option maxHeartbeats 8000000 in
/-- TippedCrates$Past.<init> -/
theorem sd_19 (l : Launch) (f : Nat → Nat) (D : va_G) (cA : FieldType → ClassId) (d : Nat) : mm_Ok2 l f D cA d (yX2_init, cX2_init, 2, none, mc_19) := by
  intro p e R s m args below meth c C hRf hRl pc
  obtain ⟨hx, hb, hml, hr, hlk, hnm, hown, hts, hEX, hgo, hf⟩ := C
  obtain ⟨hK, hA, hX, hZs, hZc, hZq, hTx, hSR0, hSR1, hAO, hN⟩ := id hEX
  have hAW : ∀ w ∈ mm_AW, w ∈ (Cond.code yX2_init cX2_init 2 none :: mm_AW) := fun w h => List.mem_cons_of_mem _ h
  have hown : s.vm.findClass "TippedCrates$Past" = some m.cls := hown
  show mm_S p l e R s m args below meth c f D mm_cl cA 2 _ pc (mc_19 pc)
  unfold mc_19
  exact (ms_b (ms_b (ms_b (ms_b (ms_b (ms_lf (ms_aload_n hx hb rfl (by decide +kernel)))
    (ms_lf (ms_oi hx hb hml hown (hts _ (hAW _ qw_556)) (hts _ (hAW _ qw_144)) (hts _ (hAW _ qw_145)) (by omega) (by omega) (by decide +kernel))))
    (ms_b (ms_lf (ms_aload_n hx hb rfl (by decide +kernel)))
    (ms_b (ms_lf (ms_bipush hx hb (by decide) (by decide +kernel)))
    (ms_lf (ms_naq hx hb hf hA hown (hts _ (hAW _ qw_557)) hAO rfl (by decide +kernel))))))
    (ms_b (ms_b (ms_lf (ms_putF (C := RX2) (T := TX2) (N := 5) hx hb hf hts (fun w h => hAW w (inq_2 w h)) tyX2 tyX2_ok nmX2 hown hK rfl (by decide) (hts _ (hAW _ qw_603)) rfl rfl hnm rfl rfl (by decide +kernel)))
    (ms_lf (ms_aload_n hx hb rfl (by decide +kernel))))
    (ms_b (ms_lf (ms_iconst hx hb (by decide) (by decide +kernel)))
    (ms_b (ms_lf (ms_naq hx hb hf hA hown (hts _ (hAW _ qw_557)) hAO rfl (by decide +kernel)))
    (ms_lf (ms_putF (C := RX2) (T := TX2) (N := 5) hx hb hf hts (fun w h => hAW w (inq_2 w h)) tyX2 tyX2_ok nmX2 hown hK rfl (by decide) (hts _ (hAW _ qw_604)) rfl rfl hnm rfl rfl (by decide +kernel)))))))
    (ms_b (ms_b (ms_b (ms_lf (ms_aload_n hx hb rfl (by decide +kernel)))
    (ms_lf (ms_iconst hx hb (by decide) (by decide +kernel))))
    (ms_b (ms_lf (ms_na hx hb hf hA rfl (hts _ (hAW _ qw_550)) rfl rfl rfl (by decide) (by decide +kernel)))
    (ms_b (ms_lf (ms_putF (C := RX2) (T := TX2) (N := 5) hx hb hf hts (fun w h => hAW w (inq_2 w h)) tyX2 tyX2_ok nmX2 hown hK rfl (by decide) (hts _ (hAW _ qw_605)) rfl rfl hnm rfl rfl (by decide +kernel)))
    (ms_lf (ms_iconst hx hb (by decide) (by decide +kernel))))))
    (ms_b (ms_b (ms_lf (ms_istore_n hx hb rfl (by decide : 1 < 2) (by decide +kernel)))
    (ms_b (ms_lf (ms_iload_n hx hb rfl (by decide +kernel)))
    (ms_lf (ms_bipush hx hb (by decide) (by decide +kernel)))))
    (ms_b (ms_lf (ms_ic_ge hx hb (by decide) (by decide +kernel)))
    (ms_b (ms_lf (ms_aload_n hx hb rfl (by decide +kernel)))
    (ms_lf (ms_getf (C := RX2) (T := TX2) (N := 5) hx hb hf hts (fun w h => hAW w (inq_2 w h)) hown hK rfl (by decide) (hts _ (hAW _ qw_603)) rfl (by decide +kernel))))))))
    (ms_b (ms_b (ms_b (ms_b (ms_lf (ms_iload_n hx hb rfl (by decide +kernel)))
    (ms_lf (ms_new (C := RX7) (T := TX7) (N := 7) hx hb hf hts (fun w h => hAW w (inq_7 w h)) tyX7 tyX7_ok hown (hts _ (hAW _ qw_557)) (hts _ (hAW _ qw_559)) (hts _ (hAW _ qw_133)) hK rfl nfs_7 rfl (by decide +kernel) (by decide +kernel))))
    (ms_b (ms_lf (ms_dup hx hb (by decide +kernel)))
    (ms_b (ms_lf (ms_ivIN hx hb hml hown hts hgo hEX (mm_GI hAW gi_74) rfl (hN.2.2.2.2.2.1) (hts _ (hAW _ qw_133)) (hts _ (hAW _ qw_561)) rfl hd_74 (mm_rm hRf hRl (Nat.le_of_ble_eq_true rfl)) (by decide +kernel)))
    (ms_lf (ms_aast (C := RX7) (T := TX7) (N := 7) hx hb hf hA hK rfl rfl (by decide +kernel))))))
    (ms_b (ms_b (ms_lf (ms_iinc hx hb (by decide) (by decide : 1 < 2) (by decide +kernel)))
    (ms_b (ms_lf (ms_goto hx hb (by decide) (by decide +kernel)))
    (ms_lf (ms_iconst hx hb (by decide) (by decide +kernel)))))
    (ms_b (ms_lf (ms_istore_n hx hb rfl (by decide : 1 < 2) (by decide +kernel)))
    (ms_b (ms_lf (ms_iload_n hx hb rfl (by decide +kernel)))
    (ms_lf (ms_iconst hx hb (by decide) (by decide +kernel)))))))
    (ms_b (ms_b (ms_b (ms_lf (ms_ic_ge hx hb (by decide) (by decide +kernel)))
    (ms_lf (ms_aload_n hx hb rfl (by decide +kernel))))
    (ms_b (ms_lf (ms_getf (C := RX2) (T := TX2) (N := 5) hx hb hf hts (fun w h => hAW w (inq_2 w h)) hown hK rfl (by decide) (hts _ (hAW _ qw_604)) rfl (by decide +kernel)))
    (ms_b (ms_lf (ms_iload_n hx hb rfl (by decide +kernel)))
    (ms_lf (ms_new (C := RX7) (T := TX7) (N := 7) hx hb hf hts (fun w h => hAW w (inq_7 w h)) tyX7 tyX7_ok hown (hts _ (hAW _ qw_557)) (hts _ (hAW _ qw_559)) (hts _ (hAW _ qw_133)) hK rfl nfs_7 rfl (by decide +kernel) (by decide +kernel))))))
    (ms_b (ms_b (ms_lf (ms_dup hx hb (by decide +kernel)))
    (ms_b (ms_lf (ms_ivIN hx hb hml hown hts hgo hEX (mm_GI hAW gi_74) rfl (hN.2.2.2.2.2.1) (hts _ (hAW _ qw_133)) (hts _ (hAW _ qw_561)) rfl hd_74 (mm_rm hRf hRl (Nat.le_of_ble_eq_true rfl)) (by decide +kernel)))
    (ms_lf (ms_aast (C := RX7) (T := TX7) (N := 7) hx hb hf hA hK rfl rfl (by decide +kernel)))))
    (ms_b (ms_lf (ms_iinc hx hb (by decide) (by decide : 1 < 2) (by decide +kernel)))
    (ms_b (ms_lf (ms_goto hx hb (by decide) (by decide +kernel)))
    (ms_lf (ms_ret hx hb hr hlk (by decide +kernel)))))))))
set_option maxRecDepth 100000 in
set_option maxHeartbeats 8000000 in
/-- TippedCrates$Past.clear -/
theorem sd_20 (l : Launch) (f : Nat → Nat) (D : va_G) (cA : FieldType → ClassId) (d : Nat) : mm_Ok2 l f D cA d (yX2_clear, cX2_clear, 2, none, mc_20) := by
  intro p e R s m args below meth c C hRf hRl pc
  obtain ⟨hx, hb, hml, hr, hlk, hnm, hown, hts, hEX, hgo, hf⟩ := C
  obtain ⟨hK, hA, hX, hZs, hZc, hZq, hTx, hSR0, hSR1, hAO, hN⟩ := id hEX
  have hAW : ∀ w ∈ mm_AW, w ∈ (Cond.code yX2_clear cX2_clear 2 none :: mm_AW) := fun w h => List.mem_cons_of_mem _ h
  have hown : s.vm.findClass "TippedCrates$Past" = some m.cls := hown
  show mm_S p l e R s m args below meth c f D mm_cl cA 2 _ pc (mc_20 pc)
  unfold mc_20
  exact (ms_b (ms_b (ms_b (ms_b (ms_lf (ms_aload_n hx hb rfl (by decide +kernel)))
    (ms_lf (ms_iconst hx hb (by decide) (by decide +kernel))))
    (ms_b (ms_lf (ms_put (C := RX2) (T := TX2) (N := 5) hx hb hf hts (fun w h => hAW w (inq_2 w h)) tyX2 tyX2_ok nmX2 hown hK rfl (by decide) (hts _ (hAW _ qw_601)) rfl rfl rfl (by decide +kernel)))
    (ms_lf (ms_iconst hx hb (by decide) (by decide +kernel)))))
    (ms_b (ms_b (ms_lf (ms_istore_n hx hb rfl (by decide : 1 < 2) (by decide +kernel)))
    (ms_lf (ms_iload_n hx hb rfl (by decide +kernel))))
    (ms_b (ms_lf (ms_iconst hx hb (by decide) (by decide +kernel)))
    (ms_lf (ms_ic_ge hx hb (by decide) (by decide +kernel))))))
    (ms_b (ms_b (ms_b (ms_lf (ms_aload_n hx hb rfl (by decide +kernel)))
    (ms_lf (ms_getf (C := RX2) (T := TX2) (N := 5) hx hb hf hts (fun w h => hAW w (inq_2 w h)) hown hK rfl (by decide) (hts _ (hAW _ qw_605)) rfl (by decide +kernel))))
    (ms_b (ms_lf (ms_iload_n hx hb rfl (by decide +kernel)))
    (ms_lf (ms_iconst hx hb (by decide) (by decide +kernel)))))
    (ms_b (ms_b (ms_lf (ms_bast hx hb hf hA (by decide +kernel)))
    (ms_lf (ms_iinc hx hb (by decide) (by decide : 1 < 2) (by decide +kernel))))
    (ms_b (ms_lf (ms_goto hx hb (by decide) (by decide +kernel)))
    (ms_lf (ms_ret hx hb hr hlk (by decide +kernel)))))))
set_option maxRecDepth 100000 in
set_option maxHeartbeats 8000000 in
/-- TippedCrates$Past.note -/
theorem sd_21 (l : Launch) (f : Nat → Nat) (D : va_G) (cA : FieldType → ClassId) (d : Nat) : mm_Ok2 l f D cA d (yX2_note, cX2_note, 2, none, mc_21) := by
  intro p e R s m args below meth c C hRf hRl pc
  obtain ⟨hx, hb, hml, hr, hlk, hnm, hown, hts, hEX, hgo, hf⟩ := C
  obtain ⟨hK, hA, hX, hZs, hZc, hZq, hTx, hSR0, hSR1, hAO, hN⟩ := id hEX
  have hAW : ∀ w ∈ mm_AW, w ∈ (Cond.code yX2_note cX2_note 2 none :: mm_AW) := fun w h => List.mem_cons_of_mem _ h
  have hown : s.vm.findClass "TippedCrates$Past" = some m.cls := hown
  show mm_S p l e R s m args below meth c f D mm_cl cA 2 _ pc (mc_21 pc)
  unfold mc_21
  exact (ms_b (ms_b (ms_b (ms_b (ms_lf (ms_aload_n hx hb rfl (by decide +kernel)))
    (ms_b (ms_lf (ms_getf (C := RX2) (T := TX2) (N := 5) hx hb hf hts (fun w h => hAW w (inq_2 w h)) hown hK rfl (by decide) (hts _ (hAW _ qw_603)) rfl (by decide +kernel)))
    (ms_lf (ms_aload_n hx hb rfl (by decide +kernel)))))
    (ms_b (ms_b (ms_lf (ms_getf (C := RX2) (T := TX2) (N := 5) hx hb hf hts (fun w h => hAW w (inq_2 w h)) hown hK rfl (by decide) (hts _ (hAW _ qw_606)) rfl (by decide +kernel)))
    (ms_lf (ms_aald hx hb hf hA (by decide +kernel))))
    (ms_b (ms_lf (ms_aload_n hx hb rfl (by decide +kernel)))
    (ms_lf (ms_ivV (C := RX7) (T := TX7) (N := 7) hx hb hml hown hts hgo hEX hf hK rfl (mm_GV hAW (mm_GI hAW gi_76) qw_991 qw_992 qw_993 qw_133) rfl ⟨rfl, hd_76⟩ (mm_rm hRf hRl (Nat.le_of_ble_eq_true rfl)) (by decide +kernel))))))
    (ms_b (ms_b (ms_b (ms_lf (ms_aload_n hx hb rfl (by decide +kernel)))
    (ms_lf (ms_aload_n hx hb rfl (by decide +kernel))))
    (ms_b (ms_lf (ms_getf (C := RX2) (T := TX2) (N := 5) hx hb hf hts (fun w h => hAW w (inq_2 w h)) hown hK rfl (by decide) (hts _ (hAW _ qw_606)) rfl (by decide +kernel)))
    (ms_lf (ms_iconst hx hb (by decide) (by decide +kernel)))))
    (ms_b (ms_b (ms_lf (ms_iadd hx hb (by decide +kernel)))
    (ms_lf (ms_bipush hx hb (by decide) (by decide +kernel))))
    (ms_b (ms_lf (ms_ic_ge hx hb (by decide) (by decide +kernel)))
    (ms_lf (ms_aload_n hx hb rfl (by decide +kernel)))))))
    (ms_b (ms_b (ms_b (ms_lf (ms_getf (C := RX2) (T := TX2) (N := 5) hx hb hf hts (fun w h => hAW w (inq_2 w h)) hown hK rfl (by decide) (hts _ (hAW _ qw_606)) rfl (by decide +kernel)))
    (ms_b (ms_lf (ms_iconst hx hb (by decide) (by decide +kernel)))
    (ms_lf (ms_iadd hx hb (by decide +kernel)))))
    (ms_b (ms_b (ms_lf (ms_goto hx hb (by decide) (by decide +kernel)))
    (ms_lf (ms_iconst hx hb (by decide) (by decide +kernel))))
    (ms_b (ms_lf (ms_put (C := RX2) (T := TX2) (N := 5) hx hb hf hts (fun w h => hAW w (inq_2 w h)) tyX2 tyX2_ok nmX2 hown hK rfl (by decide) (hts _ (hAW _ qw_606)) rfl rfl rfl (by decide +kernel)))
    (ms_lf (ms_aload_n hx hb rfl (by decide +kernel))))))
    (ms_b (ms_b (ms_b (ms_lf (ms_aload_n hx hb rfl (by decide +kernel)))
    (ms_lf (ms_getf (C := RX2) (T := TX2) (N := 5) hx hb hf hts (fun w h => hAW w (inq_2 w h)) hown hK rfl (by decide) (hts _ (hAW _ qw_601)) rfl (by decide +kernel))))
    (ms_b (ms_lf (ms_iconst hx hb (by decide) (by decide +kernel)))
    (ms_lf (ms_iadd hx hb (by decide +kernel)))))
    (ms_b (ms_b (ms_lf (ms_bipush hx hb (by decide) (by decide +kernel)))
    (ms_lf (ms_ivS hx hb hml hown hts hgo hEX (mm_GS hAW (mm_GI hAW gi_289) qw_995 qw_691 qw_134) rfl hd_289 (mm_rm hRf hRl (Nat.le_of_ble_eq_true rfl)) (by decide +kernel))))
    (ms_b (ms_lf (ms_put (C := RX2) (T := TX2) (N := 5) hx hb hf hts (fun w h => hAW w (inq_2 w h)) tyX2 tyX2_ok nmX2 hown hK rfl (by decide) (hts _ (hAW _ qw_601)) rfl rfl rfl (by decide +kernel)))
    (ms_lf (ms_ret hx hb hr hlk (by decide +kernel))))))))
set_option maxRecDepth 100000 in
set_option maxHeartbeats 8000000 in
/-- TippedCrates$Past.takeBack -/
theorem sd_22 (l : Launch) (f : Nat → Nat) (D : va_G) (cA : FieldType → ClassId) (d : Nat) : mm_Ok2 l f D cA d (yX2_takeBack, cX2_takeBack, 2, (some .boolean), mc_22) := by
  intro p e R s m args below meth c C hRf hRl pc
  obtain ⟨hx, hb, hml, hr, hlk, hnm, hown, hts, hEX, hgo, hf⟩ := C
  obtain ⟨hK, hA, hX, hZs, hZc, hZq, hTx, hSR0, hSR1, hAO, hN⟩ := id hEX
  have hAW : ∀ w ∈ mm_AW, w ∈ (Cond.code yX2_takeBack cX2_takeBack 2 (some .boolean) :: mm_AW) := fun w h => List.mem_cons_of_mem _ h
  have hown : s.vm.findClass "TippedCrates$Past" = some m.cls := hown
  show mm_S p l e R s m args below meth c f D mm_cl cA 2 _ pc (mc_22 pc)
  unfold mc_22
  exact (ms_b (ms_b (ms_b (ms_b (ms_lf (ms_aload_n hx hb rfl (by decide +kernel)))
    (ms_b (ms_lf (ms_getf (C := RX2) (T := TX2) (N := 5) hx hb hf hts (fun w h => hAW w (inq_2 w h)) hown hK rfl (by decide) (hts _ (hAW _ qw_601)) rfl (by decide +kernel)))
    (ms_lf (ms_if_ne hx hb (by decide) (by decide +kernel)))))
    (ms_b (ms_b (ms_lf (ms_iconst hx hb (by decide) (by decide +kernel)))
    (ms_lf (ms_iret hx hb hr hlk (by decide +kernel))))
    (ms_b (ms_lf (ms_aload_n hx hb rfl (by decide +kernel)))
    (ms_lf (ms_dup hx hb (by decide +kernel))))))
    (ms_b (ms_b (ms_b (ms_lf (ms_getf (C := RX2) (T := TX2) (N := 5) hx hb hf hts (fun w h => hAW w (inq_2 w h)) hown hK rfl (by decide) (hts _ (hAW _ qw_601)) rfl (by decide +kernel)))
    (ms_lf (ms_iconst hx hb (by decide) (by decide +kernel))))
    (ms_b (ms_lf (ms_isub hx hb (by decide +kernel)))
    (ms_lf (ms_put (C := RX2) (T := TX2) (N := 5) hx hb hf hts (fun w h => hAW w (inq_2 w h)) tyX2 tyX2_ok nmX2 hown hK rfl (by decide) (hts _ (hAW _ qw_601)) rfl rfl rfl (by decide +kernel)))))
    (ms_b (ms_b (ms_lf (ms_aload_n hx hb rfl (by decide +kernel)))
    (ms_lf (ms_aload_n hx hb rfl (by decide +kernel))))
    (ms_b (ms_lf (ms_getf (C := RX2) (T := TX2) (N := 5) hx hb hf hts (fun w h => hAW w (inq_2 w h)) hown hK rfl (by decide) (hts _ (hAW _ qw_606)) rfl (by decide +kernel)))
    (ms_lf (ms_if_le hx hb (by decide) (by decide +kernel)))))))
    (ms_b (ms_b (ms_b (ms_b (ms_lf (ms_aload_n hx hb rfl (by decide +kernel)))
    (ms_lf (ms_getf (C := RX2) (T := TX2) (N := 5) hx hb hf hts (fun w h => hAW w (inq_2 w h)) hown hK rfl (by decide) (hts _ (hAW _ qw_606)) rfl (by decide +kernel))))
    (ms_b (ms_lf (ms_iconst hx hb (by decide) (by decide +kernel)))
    (ms_lf (ms_isub hx hb (by decide +kernel)))))
    (ms_b (ms_b (ms_lf (ms_goto hx hb (by decide) (by decide +kernel)))
    (ms_lf (ms_bipush hx hb (by decide) (by decide +kernel))))
    (ms_b (ms_lf (ms_put (C := RX2) (T := TX2) (N := 5) hx hb hf hts (fun w h => hAW w (inq_2 w h)) tyX2 tyX2_ok nmX2 hown hK rfl (by decide) (hts _ (hAW _ qw_606)) rfl rfl rfl (by decide +kernel)))
    (ms_lf (ms_aload_n hx hb rfl (by decide +kernel))))))
    (ms_b (ms_b (ms_b (ms_lf (ms_aload_n hx hb rfl (by decide +kernel)))
    (ms_lf (ms_getf (C := RX2) (T := TX2) (N := 5) hx hb hf hts (fun w h => hAW w (inq_2 w h)) hown hK rfl (by decide) (hts _ (hAW _ qw_603)) rfl (by decide +kernel))))
    (ms_b (ms_lf (ms_aload_n hx hb rfl (by decide +kernel)))
    (ms_lf (ms_getf (C := RX2) (T := TX2) (N := 5) hx hb hf hts (fun w h => hAW w (inq_2 w h)) hown hK rfl (by decide) (hts _ (hAW _ qw_606)) rfl (by decide +kernel)))))
    (ms_b (ms_b (ms_lf (ms_aald hx hb hf hA (by decide +kernel)))
    (ms_lf (ms_ivV (C := RX7) (T := TX7) (N := 7) hx hb hml hown hts hgo hEX hf hK rfl (mm_GV hAW (mm_GI hAW gi_76) qw_991 qw_992 qw_993 qw_133) rfl ⟨rfl, hd_76⟩ (mm_rm hRf hRl (Nat.le_of_ble_eq_true rfl)) (by decide +kernel))))
    (ms_b (ms_lf (ms_iconst hx hb (by decide) (by decide +kernel)))
    (ms_lf (ms_iret hx hb hr hlk (by decide +kernel))))))))
set_option maxRecDepth 100000 in
set_option maxHeartbeats 8000000 in
/-- TippedCrates$Past.keep -/
theorem sd_23 (l : Launch) (f : Nat → Nat) (D : va_G) (cA : FieldType → ClassId) (d : Nat) : mm_Ok2 l f D cA d (yX2_keep, cX2_keep, 3, none, mc_23) := by
  intro p e R s m args below meth c C hRf hRl pc
  obtain ⟨hx, hb, hml, hr, hlk, hnm, hown, hts, hEX, hgo, hf⟩ := C
  obtain ⟨hK, hA, hX, hZs, hZc, hZq, hTx, hSR0, hSR1, hAO, hN⟩ := id hEX
  have hAW : ∀ w ∈ mm_AW, w ∈ (Cond.code yX2_keep cX2_keep 3 none :: mm_AW) := fun w h => List.mem_cons_of_mem _ h
  have hown : s.vm.findClass "TippedCrates$Past" = some m.cls := hown
  show mm_S p l e R s m args below meth c f D mm_cl cA 3 _ pc (mc_23 pc)
  unfold mc_23
  exact (ms_b (ms_b (ms_b (ms_lf (ms_aload_n hx hb rfl (by decide +kernel)))
    (ms_b (ms_lf (ms_getf (C := RX2) (T := TX2) (N := 5) hx hb hf hts (fun w h => hAW w (inq_2 w h)) hown hK rfl (by decide) (hts _ (hAW _ qw_604)) rfl (by decide +kernel)))
    (ms_lf (ms_iload_n hx hb rfl (by decide +kernel)))))
    (ms_b (ms_lf (ms_aald hx hb hf hA (by decide +kernel)))
    (ms_b (ms_lf (ms_aload_n hx hb rfl (by decide +kernel)))
    (ms_lf (ms_ivV (C := RX7) (T := TX7) (N := 7) hx hb hml hown hts hgo hEX hf hK rfl (mm_GV hAW (mm_GI hAW gi_76) qw_991 qw_992 qw_993 qw_133) rfl ⟨rfl, hd_76⟩ (mm_rm hRf hRl (Nat.le_of_ble_eq_true rfl)) (by decide +kernel))))))
    (ms_b (ms_b (ms_lf (ms_aload_n hx hb rfl (by decide +kernel)))
    (ms_b (ms_lf (ms_getf (C := RX2) (T := TX2) (N := 5) hx hb hf hts (fun w h => hAW w (inq_2 w h)) hown hK rfl (by decide) (hts _ (hAW _ qw_605)) rfl (by decide +kernel)))
    (ms_lf (ms_iload_n hx hb rfl (by decide +kernel)))))
    (ms_b (ms_lf (ms_iconst hx hb (by decide) (by decide +kernel)))
    (ms_b (ms_lf (ms_bast hx hb hf hA (by decide +kernel)))
    (ms_lf (ms_ret hx hb hr hlk (by decide +kernel)))))))
set_option maxRecDepth 100000 in
set_option maxHeartbeats 8000000 in
/-- TippedCrates$Past.goOnFrom -/
theorem sd_24 (l : Launch) (f : Nat → Nat) (D : va_G) (cA : FieldType → ClassId) (d : Nat) : mm_Ok2 l f D cA d (yX2_goOnFrom, cX2_goOnFrom, 3, (some .boolean), mc_24) := by
  intro p e R s m args below meth c C hRf hRl pc
  obtain ⟨hx, hb, hml, hr, hlk, hnm, hown, hts, hEX, hgo, hf⟩ := C
  obtain ⟨hK, hA, hX, hZs, hZc, hZq, hTx, hSR0, hSR1, hAO, hN⟩ := id hEX
  have hAW : ∀ w ∈ mm_AW, w ∈ (Cond.code yX2_goOnFrom cX2_goOnFrom 3 (some .boolean) :: mm_AW) := fun w h => List.mem_cons_of_mem _ h
  have hown : s.vm.findClass "TippedCrates$Past" = some m.cls := hown
  show mm_S p l e R s m args below meth c f D mm_cl cA 3 _ pc (mc_24 pc)
  unfold mc_24
  exact (ms_b (ms_b (ms_b (ms_b (ms_lf (ms_aload_n hx hb rfl (by decide +kernel)))
    (ms_lf (ms_getf (C := RX2) (T := TX2) (N := 5) hx hb hf hts (fun w h => hAW w (inq_2 w h)) hown hK rfl (by decide) (hts _ (hAW _ qw_605)) rfl (by decide +kernel))))
    (ms_b (ms_lf (ms_iload_n hx hb rfl (by decide +kernel)))
    (ms_lf (ms_bald hx hb hf hA (by decide +kernel)))))
    (ms_b (ms_b (ms_lf (ms_if_ne hx hb (by decide) (by decide +kernel)))
    (ms_lf (ms_iconst hx hb (by decide) (by decide +kernel))))
    (ms_b (ms_lf (ms_iret hx hb hr hlk (by decide +kernel)))
    (ms_b (ms_lf (ms_aload_n hx hb rfl (by decide +kernel)))
    (ms_lf (ms_aload_n hx hb rfl (by decide +kernel)))))))
    (ms_b (ms_b (ms_b (ms_lf (ms_getf (C := RX2) (T := TX2) (N := 5) hx hb hf hts (fun w h => hAW w (inq_2 w h)) hown hK rfl (by decide) (hts _ (hAW _ qw_604)) rfl (by decide +kernel)))
    (ms_lf (ms_iload_n hx hb rfl (by decide +kernel))))
    (ms_b (ms_lf (ms_aald hx hb hf hA (by decide +kernel)))
    (ms_lf (ms_ivV (C := RX7) (T := TX7) (N := 7) hx hb hml hown hts hgo hEX hf hK rfl (mm_GV hAW (mm_GI hAW gi_76) qw_991 qw_992 qw_993 qw_133) rfl ⟨rfl, hd_76⟩ (mm_rm hRf hRl (Nat.le_of_ble_eq_true rfl)) (by decide +kernel)))))
    (ms_b (ms_b (ms_lf (ms_aload_n hx hb rfl (by decide +kernel)))
    (ms_lf (ms_iconst hx hb (by decide) (by decide +kernel))))
    (ms_b (ms_lf (ms_put (C := RX2) (T := TX2) (N := 5) hx hb hf hts (fun w h => hAW w (inq_2 w h)) tyX2 tyX2_ok nmX2 hown hK rfl (by decide) (hts _ (hAW _ qw_601)) rfl rfl rfl (by decide +kernel)))
    (ms_b (ms_lf (ms_iconst hx hb (by decide) (by decide +kernel)))
    (ms_lf (ms_iret hx hb hr hlk (by decide +kernel))))))))
set_option maxRecDepth 100000 in
set_option maxHeartbeats 8000000 in
/-- TippedCrates$Past.slotsHeld -/
theorem sd_25 (l : Launch) (f : Nat → Nat) (D : va_G) (cA : FieldType → ClassId) (d : Nat) : mm_Ok2 l f D cA d (yX2_slotsHeld, cX2_slotsHeld, 6, (some .int), mc_25) := by
  intro p e R s m args below meth c C hRf hRl pc
  obtain ⟨hx, hb, hml, hr, hlk, hnm, hown, hts, hEX, hgo, hf⟩ := C
  obtain ⟨hK, hA, hX, hZs, hZc, hZq, hTx, hSR0, hSR1, hAO, hN⟩ := id hEX
  have hAW : ∀ w ∈ mm_AW, w ∈ (Cond.code yX2_slotsHeld cX2_slotsHeld 6 (some .int) :: mm_AW) := fun w h => List.mem_cons_of_mem _ h
  have hown : s.vm.findClass "TippedCrates$Past" = some m.cls := hown
  show mm_S p l e R s m args below meth c f D mm_cl cA 6 _ pc (mc_25 pc)
  unfold mc_25
  exact (ms_b (ms_b (ms_b (ms_b (ms_lf (ms_iconst hx hb (by decide) (by decide +kernel)))
    (ms_b (ms_lf (ms_istore_n hx hb rfl (by decide : 1 < 6) (by decide +kernel)))
    (ms_lf (ms_aload_n hx hb rfl (by decide +kernel)))))
    (ms_b (ms_b (ms_lf (ms_getf (C := RX2) (T := TX2) (N := 5) hx hb hf hts (fun w h => hAW w (inq_2 w h)) hown hK rfl (by decide) (hts _ (hAW _ qw_605)) rfl (by decide +kernel)))
    (ms_lf (ms_astore_n hx hb rfl (by decide : 2 < 6) (by decide +kernel))))
    (ms_b (ms_lf (ms_aload_n hx hb rfl (by decide +kernel)))
    (ms_lf (ms_alen hx hb hf hA hX (by decide +kernel))))))
    (ms_b (ms_b (ms_lf (ms_istore_n hx hb rfl (by decide : 3 < 6) (by decide +kernel)))
    (ms_b (ms_lf (ms_iconst hx hb (by decide) (by decide +kernel)))
    (ms_lf (ms_istore hx hb (by decide : 4 < 6) (by decide +kernel)))))
    (ms_b (ms_b (ms_lf (ms_iload hx hb (by decide +kernel)))
    (ms_lf (ms_iload_n hx hb rfl (by decide +kernel))))
    (ms_b (ms_lf (ms_ic_ge hx hb (by decide) (by decide +kernel)))
    (ms_lf (ms_aload_n hx hb rfl (by decide +kernel)))))))
    (ms_b (ms_b (ms_b (ms_lf (ms_iload hx hb (by decide +kernel)))
    (ms_b (ms_lf (ms_bald hx hb hf hA (by decide +kernel)))
    (ms_lf (ms_istore hx hb (by decide : 5 < 6) (by decide +kernel)))))
    (ms_b (ms_b (ms_lf (ms_iload_n hx hb rfl (by decide +kernel)))
    (ms_lf (ms_iload hx hb (by decide +kernel))))
    (ms_b (ms_lf (ms_if_eq hx hb (by decide) (by decide +kernel)))
    (ms_lf (ms_iconst hx hb (by decide) (by decide +kernel))))))
    (ms_b (ms_b (ms_b (ms_lf (ms_goto hx hb (by decide) (by decide +kernel)))
    (ms_lf (ms_iconst hx hb (by decide) (by decide +kernel))))
    (ms_b (ms_lf (ms_iadd hx hb (by decide +kernel)))
    (ms_lf (ms_istore_n hx hb rfl (by decide : 1 < 6) (by decide +kernel)))))
    (ms_b (ms_b (ms_lf (ms_iinc hx hb (by decide) (by decide : 4 < 6) (by decide +kernel)))
    (ms_lf (ms_goto hx hb (by decide) (by decide +kernel))))
    (ms_b (ms_lf (ms_iload_n hx hb rfl (by decide +kernel)))
    (ms_lf (ms_iret hx hb hr hlk (by decide +kernel))))))))
set_option maxRecDepth 100000 in
set_option maxHeartbeats 8000000 in
/-- TippedCrates$Plan.<init> -/
theorem sd_26 (l : Launch) (f : Nat → Nat) (D : va_G) (cA : FieldType → ClassId) (d : Nat) : mm_Ok2 l f D cA d (yX3_init, cX3_init, 1, none, mc_26) := by
  intro p e R s m args below meth c C hRf hRl pc
  obtain ⟨hx, hb, hml, hr, hlk, hnm, hown, hts, hEX, hgo, hf⟩ := C
  obtain ⟨hK, hA, hX, hZs, hZc, hZq, hTx, hSR0, hSR1, hAO, hN⟩ := id hEX
  have hAW : ∀ w ∈ mm_AW, w ∈ (Cond.code yX3_init cX3_init 1 none :: mm_AW) := fun w h => List.mem_cons_of_mem _ h
  have hown : s.vm.findClass "TippedCrates$Plan" = some m.cls := hown
  show mm_S p l e R s m args below meth c f D mm_cl cA 1 _ pc (mc_26 pc)
  unfold mc_26
  exact (ms_b (ms_b (ms_b (ms_b (ms_b (ms_lf (ms_aload_n hx hb rfl (by decide +kernel)))
    (ms_lf (ms_oi hx hb hml hown (hts _ (hAW _ qw_241)) (hts _ (hAW _ qw_144)) (hts _ (hAW _ qw_145)) (by omega) (by omega) (by decide +kernel))))
    (ms_b (ms_lf (ms_aload_n hx hb rfl (by decide +kernel)))
    (ms_lf (ms_bipush hx hb (by decide) (by decide +kernel)))))
    (ms_b (ms_b (ms_lf (ms_na hx hb hf hA rfl (hts _ (hAW _ qw_233)) rfl rfl rfl (by decide) (by decide +kernel)))
    (ms_lf (ms_putF (C := RX3) (T := TX3) (N := 12) hx hb hf hts (fun w h => hAW w (inq_3 w h)) tyX3 tyX3_ok nmX3 hown hK rfl (by decide) (hts _ (hAW _ qw_281)) rfl rfl hnm rfl rfl (by decide +kernel))))
    (ms_b (ms_lf (ms_aload_n hx hb rfl (by decide +kernel)))
    (ms_lf (ms_iconst hx hb (by decide) (by decide +kernel))))))
    (ms_b (ms_b (ms_b (ms_lf (ms_na hx hb hf hA rfl (hts _ (hAW _ qw_233)) rfl rfl rfl (by decide) (by decide +kernel)))
    (ms_lf (ms_putF (C := RX3) (T := TX3) (N := 12) hx hb hf hts (fun w h => hAW w (inq_3 w h)) tyX3 tyX3_ok nmX3 hown hK rfl (by decide) (hts _ (hAW _ qw_284)) rfl rfl hnm rfl rfl (by decide +kernel))))
    (ms_b (ms_lf (ms_aload_n hx hb rfl (by decide +kernel)))
    (ms_lf (ms_bipush hx hb (by decide) (by decide +kernel)))))
    (ms_b (ms_b (ms_lf (ms_na hx hb hf hA rfl (hts _ (hAW _ qw_233)) rfl rfl rfl (by decide) (by decide +kernel)))
    (ms_lf (ms_putF (C := RX3) (T := TX3) (N := 12) hx hb hf hts (fun w h => hAW w (inq_3 w h)) tyX3 tyX3_ok nmX3 hown hK rfl (by decide) (hts _ (hAW _ qw_287)) rfl rfl hnm rfl rfl (by decide +kernel))))
    (ms_b (ms_lf (ms_aload_n hx hb rfl (by decide +kernel)))
    (ms_lf (ms_new (C := RX1) (T := TX1) (N := 5) hx hb hf hts (fun w h => hAW w (inq_1 w h)) tyX1 tyX1_ok hown (hts _ (hAW _ qw_242)) (hts _ (hAW _ qw_243)) (hts _ (hAW _ qw_124)) hK rfl nfs_1 rfl (by decide +kernel) (by decide +kernel)))))))
    (ms_b (ms_b (ms_b (ms_b (ms_lf (ms_dup hx hb (by decide +kernel)))
    (ms_lf (ms_ivIN hx hb hml hown hts hgo hEX (mm_GI hAW gi_12) rfl (hN.2.2.2.2.2.2.1) (hts _ (hAW _ qw_124)) (hts _ (hAW _ qw_245)) rfl hd_12 (mm_rm hRf hRl (Nat.le_of_ble_eq_true rfl)) (by decide +kernel))))
    (ms_b (ms_lf (ms_putF (C := RX3) (T := TX3) (N := 12) hx hb hf hts (fun w h => hAW w (inq_3 w h)) tyX3 tyX3_ok nmX3 hown hK rfl (by decide) (hts _ (hAW _ qw_290)) rfl rfl hnm rfl rfl (by decide +kernel)))
    (ms_lf (ms_aload_n hx hb rfl (by decide +kernel)))))
    (ms_b (ms_b (ms_lf (ms_bipush hx hb (by decide) (by decide +kernel)))
    (ms_lf (ms_na hx hb hf hA rfl (hts _ (hAW _ qw_233)) rfl rfl rfl (by decide) (by decide +kernel))))
    (ms_b (ms_lf (ms_putF (C := RX3) (T := TX3) (N := 12) hx hb hf hts (fun w h => hAW w (inq_3 w h)) tyX3 tyX3_ok nmX3 hown hK rfl (by decide) (hts _ (hAW _ qw_293)) rfl rfl hnm rfl rfl (by decide +kernel)))
    (ms_lf (ms_aload_n hx hb rfl (by decide +kernel))))))
    (ms_b (ms_b (ms_b (ms_lf (ms_bipush hx hb (by decide) (by decide +kernel)))
    (ms_lf (ms_na hx hb hf hA rfl (hts _ (hAW _ qw_233)) rfl rfl rfl (by decide) (by decide +kernel))))
    (ms_b (ms_lf (ms_putF (C := RX3) (T := TX3) (N := 12) hx hb hf hts (fun w h => hAW w (inq_3 w h)) tyX3 tyX3_ok nmX3 hown hK rfl (by decide) (hts _ (hAW _ qw_295)) rfl rfl hnm rfl rfl (by decide +kernel)))
    (ms_lf (ms_aload_n hx hb rfl (by decide +kernel)))))
    (ms_b (ms_b (ms_lf (ms_bipush hx hb (by decide) (by decide +kernel)))
    (ms_lf (ms_na hx hb hf hA rfl (hts _ (hAW _ qw_233)) rfl rfl rfl (by decide) (by decide +kernel))))
    (ms_b (ms_lf (ms_putF (C := RX3) (T := TX3) (N := 12) hx hb hf hts (fun w h => hAW w (inq_3 w h)) tyX3 tyX3_ok nmX3 hown hK rfl (by decide) (hts _ (hAW _ qw_297)) rfl rfl hnm rfl rfl (by decide +kernel)))
    (ms_lf (ms_ret hx hb hr hlk (by decide +kernel))))))))
set_option maxRecDepth 100000 in
set_option maxHeartbeats 8000000 in
/-- TippedCrates$Plan.layOut -/
theorem sd_27 (l : Launch) (f : Nat → Nat) (D : va_G) (cA : FieldType → ClassId) (d : Nat) : mm_Ok2 l f D cA d (yX3_layOut, cX3_layOut, 5, none, mc_27) := by
  intro p e R s m args below meth c C hRf hRl pc
  obtain ⟨hx, hb, hml, hr, hlk, hnm, hown, hts, hEX, hgo, hf⟩ := C
  obtain ⟨hK, hA, hX, hZs, hZc, hZq, hTx, hSR0, hSR1, hAO, hN⟩ := id hEX
  have hAW : ∀ w ∈ mm_AW, w ∈ (Cond.code yX3_layOut cX3_layOut 5 none :: mm_AW) := fun w h => List.mem_cons_of_mem _ h
  have hown : s.vm.findClass "TippedCrates$Plan" = some m.cls := hown
  show mm_S p l e R s m args below meth c f D mm_cl cA 5 _ pc (mc_27 pc)
  unfold mc_27
  exact (ms_b (ms_b (ms_b (ms_b (ms_b (ms_lf (ms_aload_n hx hb rfl (by decide +kernel)))
    (ms_lf (ms_iload_n hx hb rfl (by decide +kernel))))
    (ms_b (ms_lf (ms_put (C := RX3) (T := TX3) (N := 12) hx hb hf hts (fun w h => hAW w (inq_3 w h)) tyX3 tyX3_ok nmX3 hown hK rfl (by decide) (hts _ (hAW _ qw_265)) rfl rfl rfl (by decide +kernel)))
    (ms_b (ms_lf (ms_aload_n hx hb rfl (by decide +kernel)))
    (ms_lf (ms_iload_n hx hb rfl (by decide +kernel))))))
    (ms_b (ms_b (ms_lf (ms_put (C := RX3) (T := TX3) (N := 12) hx hb hf hts (fun w h => hAW w (inq_3 w h)) tyX3 tyX3_ok nmX3 hown hK rfl (by decide) (hts _ (hAW _ qw_268)) rfl rfl rfl (by decide +kernel)))
    (ms_lf (ms_aload_n hx hb rfl (by decide +kernel))))
    (ms_b (ms_lf (ms_iconst hx hb (by decide) (by decide +kernel)))
    (ms_b (ms_lf (ms_put (C := RX3) (T := TX3) (N := 12) hx hb hf hts (fun w h => hAW w (inq_3 w h)) tyX3 tyX3_ok nmX3 hown hK rfl (by decide) (hts _ (hAW _ qw_273)) rfl rfl rfl (by decide +kernel)))
    (ms_lf (ms_aload_n hx hb rfl (by decide +kernel)))))))
    (ms_b (ms_b (ms_b (ms_lf (ms_iconst hx hb (by decide) (by decide +kernel)))
    (ms_lf (ms_put (C := RX3) (T := TX3) (N := 12) hx hb hf hts (fun w h => hAW w (inq_3 w h)) tyX3 tyX3_ok nmX3 hown hK rfl (by decide) (hts _ (hAW _ qw_277)) rfl rfl rfl (by decide +kernel))))
    (ms_b (ms_lf (ms_aload_n hx hb rfl (by decide +kernel)))
    (ms_b (ms_lf (ms_getf (C := RX3) (T := TX3) (N := 12) hx hb hf hts (fun w h => hAW w (inq_3 w h)) hown hK rfl (by decide) (hts _ (hAW _ qw_281)) rfl (by decide +kernel)))
    (ms_lf (ms_iconst hx hb (by decide) (by decide +kernel))))))
    (ms_b (ms_b (ms_lf (ms_ivS hx hb hml hown hts hgo hEX (mm_GS hAW (mm_GI hAW gi_301) qw_820 qw_821 qw_136) rfl hd_301 (mm_rm hRf hRl (Nat.le_of_ble_eq_true rfl)) (by decide +kernel)))
    (ms_lf (ms_aload_n hx hb rfl (by decide +kernel))))
    (ms_b (ms_lf (ms_getf (C := RX3) (T := TX3) (N := 12) hx hb hf hts (fun w h => hAW w (inq_3 w h)) hown hK rfl (by decide) (hts _ (hAW _ qw_284)) rfl (by decide +kernel)))
    (ms_b (ms_lf (ms_iconst hx hb (by decide) (by decide +kernel)))
    (ms_lf (ms_ivS hx hb hml hown hts hgo hEX (mm_GS hAW (mm_GI hAW gi_301) qw_820 qw_821 qw_136) rfl hd_301 (mm_rm hRf hRl (Nat.le_of_ble_eq_true rfl)) (by decide +kernel))))))))
    (ms_b (ms_b (ms_b (ms_b (ms_lf (ms_iconst hx hb (by decide) (by decide +kernel)))
    (ms_lf (ms_istore_n hx hb rfl (by decide : 3 < 5) (by decide +kernel))))
    (ms_b (ms_lf (ms_iload_n hx hb rfl (by decide +kernel)))
    (ms_b (ms_lf (ms_aload_n hx hb rfl (by decide +kernel)))
    (ms_lf (ms_getf (C := RX3) (T := TX3) (N := 12) hx hb hf hts (fun w h => hAW w (inq_3 w h)) hown hK rfl (by decide) (hts _ (hAW _ qw_268)) rfl (by decide +kernel))))))
    (ms_b (ms_b (ms_lf (ms_ic_ge hx hb (by decide) (by decide +kernel)))
    (ms_lf (ms_iconst hx hb (by decide) (by decide +kernel))))
    (ms_b (ms_lf (ms_istore hx hb (by decide : 4 < 5) (by decide +kernel)))
    (ms_b (ms_lf (ms_iload hx hb (by decide +kernel)))
    (ms_lf (ms_aload_n hx hb rfl (by decide +kernel)))))))
    (ms_b (ms_b (ms_b (ms_lf (ms_getf (C := RX3) (T := TX3) (N := 12) hx hb hf hts (fun w h => hAW w (inq_3 w h)) hown hK rfl (by decide) (hts _ (hAW _ qw_265)) rfl (by decide +kernel)))
    (ms_lf (ms_ic_ge hx hb (by decide) (by decide +kernel))))
    (ms_b (ms_lf (ms_aload_n hx hb rfl (by decide +kernel)))
    (ms_b (ms_lf (ms_iload hx hb (by decide +kernel)))
    (ms_lf (ms_iload_n hx hb rfl (by decide +kernel))))))
    (ms_b (ms_b (ms_lf (ms_ivV (C := RX3) (T := TX3) (N := 12) hx hb hml hown hts hgo hEX hf hK rfl (mm_GV hAW (mm_GI hAW gi_28) qw_823 qw_825 qw_25 qw_123) rfl ⟨rfl, hd_28⟩ (mm_rm hRf hRl (Nat.le_of_ble_eq_true rfl)) (by decide +kernel)))
    (ms_b (ms_lf (ms_iinc hx hb (by decide) (by decide : 4 < 5) (by decide +kernel)))
    (ms_lf (ms_goto hx hb (by decide) (by decide +kernel)))))
    (ms_b (ms_lf (ms_iinc hx hb (by decide) (by decide : 3 < 5) (by decide +kernel)))
    (ms_b (ms_lf (ms_goto hx hb (by decide) (by decide +kernel)))
    (ms_lf (ms_ret hx hb hr hlk (by decide +kernel)))))))))
set_option maxRecDepth 100000 in
set_option maxHeartbeats 8000000 in
/-- TippedCrates$Plan.layFlag -/
theorem sd_28 (l : Launch) (f : Nat → Nat) (D : va_G) (cA : FieldType → ClassId) (d : Nat) : mm_Ok2 l f D cA d (yX3_layFlag, cX3_layFlag, 8, none, mc_28) := by
  intro p e R s m args below meth c C hRf hRl pc
  obtain ⟨hx, hb, hml, hr, hlk, hnm, hown, hts, hEX, hgo, hf⟩ := C
  obtain ⟨hK, hA, hX, hZs, hZc, hZq, hTx, hSR0, hSR1, hAO, hN⟩ := id hEX
  have hAW : ∀ w ∈ mm_AW, w ∈ (Cond.code yX3_layFlag cX3_layFlag 8 none :: mm_AW) := fun w h => List.mem_cons_of_mem _ h
  have hown : s.vm.findClass "TippedCrates$Plan" = some m.cls := hown
  show mm_S p l e R s m args below meth c f D mm_cl cA 8 _ pc (mc_28 pc)
  unfold mc_28
  exact (ms_b (ms_b (ms_b (ms_b (ms_b (ms_b (ms_lf (ms_aload_n hx hb rfl (by decide +kernel)))
    (ms_lf (ms_iload_n hx hb rfl (by decide +kernel))))
    (ms_b (ms_lf (ms_iload_n hx hb rfl (by decide +kernel)))
    (ms_lf (ms_ivV (C := RX3) (T := TX3) (N := 12) hx hb hml hown hts hgo hEX hf hK rfl (mm_GV hAW (mm_GI hAW gi_29) qw_827 qw_828 qw_829 qw_123) rfl ⟨rfl, hd_29⟩ (mm_rm hRf hRl (Nat.le_of_ble_eq_true rfl)) (by decide +kernel)))))
    (ms_b (ms_b (ms_lf (ms_istore_n hx hb rfl (by decide : 3 < 8) (by decide +kernel)))
    (ms_lf (ms_aload_n hx hb rfl (by decide +kernel))))
    (ms_b (ms_lf (ms_getf (C := RX3) (T := TX3) (N := 12) hx hb hf hts (fun w h => hAW w (inq_3 w h)) hown hK rfl (by decide) (hts _ (hAW _ qw_293)) rfl (by decide +kernel)))
    (ms_lf (ms_iload_n hx hb rfl (by decide +kernel))))))
    (ms_b (ms_b (ms_b (ms_lf (ms_iload_n hx hb rfl (by decide +kernel)))
    (ms_lf (ms_iast hx hb hf hA (by decide +kernel))))
    (ms_b (ms_lf (ms_aload_n hx hb rfl (by decide +kernel)))
    (ms_lf (ms_getf (C := RX3) (T := TX3) (N := 12) hx hb hf hts (fun w h => hAW w (inq_3 w h)) hown hK rfl (by decide) (hts _ (hAW _ qw_295)) rfl (by decide +kernel)))))
    (ms_b (ms_b (ms_lf (ms_iload_n hx hb rfl (by decide +kernel)))
    (ms_lf (ms_iload_n hx hb rfl (by decide +kernel))))
    (ms_b (ms_lf (ms_iast hx hb hf hA (by decide +kernel)))
    (ms_b (ms_lf (ms_iconst hx hb (by decide) (by decide +kernel)))
    (ms_lf (ms_istore hx hb (by decide : 4 < 8) (by decide +kernel))))))))
    (ms_b (ms_b (ms_b (ms_b (ms_lf (ms_iload hx hb (by decide +kernel)))
    (ms_lf (ms_iconst hx hb (by decide) (by decide +kernel))))
    (ms_b (ms_lf (ms_ic_ge hx hb (by decide) (by decide +kernel)))
    (ms_lf (ms_iload_n hx hb rfl (by decide +kernel)))))
    (ms_b (ms_b (ms_lf (ms_gsN hx hb hown (hZs 2 _ rfl) (va_Nw.use rfl (hN.2.2.2.2.2.2.2.1)) rfl (by decide +kernel)))
    (ms_lf (ms_iload hx hb (by decide +kernel))))
    (ms_b (ms_lf (ms_iald hx hb hf hA hX (by decide +kernel)))
    (ms_b (ms_lf (ms_iadd hx hb (by decide +kernel)))
    (ms_lf (ms_istore hx hb (by decide : 5 < 8) (by decide +kernel)))))))
    (ms_b (ms_b (ms_b (ms_lf (ms_iload_n hx hb rfl (by decide +kernel)))
    (ms_lf (ms_gsN hx hb hown (hZs 3 _ rfl) (va_Nw.use rfl (hN.2.2.2.2.2.2.2.2.1)) rfl (by decide +kernel))))
    (ms_b (ms_lf (ms_iload hx hb (by decide +kernel)))
    (ms_lf (ms_iald hx hb hf hA hX (by decide +kernel)))))
    (ms_b (ms_b (ms_lf (ms_iadd hx hb (by decide +kernel)))
    (ms_lf (ms_istore hx hb (by decide : 6 < 8) (by decide +kernel))))
    (ms_b (ms_lf (ms_iload hx hb (by decide +kernel)))
    (ms_b (ms_lf (ms_iconst hx hb (by decide) (by decide +kernel)))
    (ms_lf (ms_aload_n hx hb rfl (by decide +kernel)))))))))
    (ms_b (ms_b (ms_b (ms_b (ms_b (ms_lf (ms_getf (C := RX3) (T := TX3) (N := 12) hx hb hf hts (fun w h => hAW w (inq_3 w h)) hown hK rfl (by decide) (hts _ (hAW _ qw_265)) rfl (by decide +kernel)))
    (ms_lf (ms_iconst hx hb (by decide) (by decide +kernel))))
    (ms_b (ms_lf (ms_isub hx hb (by decide +kernel)))
    (ms_lf (ms_ivSN hx hb hml hown hts hgo hEX (mm_GI hAW gi_166) rfl (hN.2.2.2.2.2.2.2.2.2.1) (hts _ (hAW _ qw_748)) (hts _ (hAW _ qw_117)) hd_166 (mm_rm hRf hRl (Nat.le_of_ble_eq_true rfl)) (by decide +kernel)))))
    (ms_b (ms_b (ms_lf (ms_if_eq hx hb (by decide) (by decide +kernel)))
    (ms_lf (ms_iload hx hb (by decide +kernel))))
    (ms_b (ms_lf (ms_iconst hx hb (by decide) (by decide +kernel)))
    (ms_b (ms_lf (ms_aload_n hx hb rfl (by decide +kernel)))
    (ms_lf (ms_getf (C := RX3) (T := TX3) (N := 12) hx hb hf hts (fun w h => hAW w (inq_3 w h)) hown hK rfl (by decide) (hts _ (hAW _ qw_268)) rfl (by decide +kernel)))))))
    (ms_b (ms_b (ms_b (ms_lf (ms_iconst hx hb (by decide) (by decide +kernel)))
    (ms_lf (ms_isub hx hb (by decide +kernel))))
    (ms_b (ms_lf (ms_ivSN hx hb hml hown hts hgo hEX (mm_GI hAW gi_166) rfl (hN.2.2.2.2.2.2.2.2.2.1) (hts _ (hAW _ qw_748)) (hts _ (hAW _ qw_117)) hd_166 (mm_rm hRf hRl (Nat.le_of_ble_eq_true rfl)) (by decide +kernel)))
    (ms_lf (ms_if_eq hx hb (by decide) (by decide +kernel)))))
    (ms_b (ms_b (ms_lf (ms_iconst hx hb (by decide) (by decide +kernel)))
    (ms_lf (ms_goto hx hb (by decide) (by decide +kernel))))
    (ms_b (ms_lf (ms_iconst hx hb (by decide) (by decide +kernel)))
    (ms_b (ms_lf (ms_istore hx hb (by decide : 7 < 8) (by decide +kernel)))
    (ms_lf (ms_aload_n hx hb rfl (by decide +kernel))))))))
    (ms_b (ms_b (ms_b (ms_b (ms_lf (ms_getf (C := RX3) (T := TX3) (N := 12) hx hb hf hts (fun w h => hAW w (inq_3 w h)) hown hK rfl (by decide) (hts _ (hAW _ qw_297)) rfl (by decide +kernel)))
    (ms_lf (ms_iload_n hx hb rfl (by decide +kernel))))
    (ms_b (ms_lf (ms_iconst hx hb (by decide) (by decide +kernel)))
    (ms_lf (ms_imul hx hb (by decide +kernel)))))
    (ms_b (ms_b (ms_lf (ms_iload hx hb (by decide +kernel)))
    (ms_lf (ms_iadd hx hb (by decide +kernel))))
    (ms_b (ms_lf (ms_iload hx hb (by decide +kernel)))
    (ms_b (ms_lf (ms_if_eq hx hb (by decide) (by decide +kernel)))
    (ms_lf (ms_aload_n hx hb rfl (by decide +kernel)))))))
    (ms_b (ms_b (ms_b (ms_lf (ms_iload hx hb (by decide +kernel)))
    (ms_lf (ms_iload hx hb (by decide +kernel))))
    (ms_b (ms_lf (ms_ivV (C := RX3) (T := TX3) (N := 12) hx hb hml hown hts hgo hEX hf hK rfl (mm_GV hAW (mm_GI hAW gi_29) qw_827 qw_828 qw_829 qw_123) rfl ⟨rfl, hd_29⟩ (mm_rm hRf hRl (Nat.le_of_ble_eq_true rfl)) (by decide +kernel)))
    (ms_lf (ms_goto hx hb (by decide) (by decide +kernel)))))
    (ms_b (ms_b (ms_lf (ms_iconst hx hb (by decide) (by decide +kernel)))
    (ms_lf (ms_iast hx hb hf hA (by decide +kernel))))
    (ms_b (ms_lf (ms_iinc hx hb (by decide) (by decide : 4 < 8) (by decide +kernel)))
    (ms_b (ms_lf (ms_goto hx hb (by decide) (by decide +kernel)))
    (ms_lf (ms_ret hx hb hr hlk (by decide +kernel))))))))))
set_option maxRecDepth 100000 in
set_option maxHeartbeats 8000000 in
/-- TippedCrates$Plan.flagAt -/
theorem sd_29 (l : Launch) (f : Nat → Nat) (D : va_G) (cA : FieldType → ClassId) (d : Nat) : mm_Ok2 l f D cA d (yX3_flagAt, cX3_flagAt, 3, (some .int), mc_29) := by
  intro p e R s m args below meth c C hRf hRl pc
  obtain ⟨hx, hb, hml, hr, hlk, hnm, hown, hts, hEX, hgo, hf⟩ := C
  obtain ⟨hK, hA, hX, hZs, hZc, hZq, hTx, hSR0, hSR1, hAO, hN⟩ := id hEX
  have hAW : ∀ w ∈ mm_AW, w ∈ (Cond.code yX3_flagAt cX3_flagAt 3 (some .int) :: mm_AW) := fun w h => List.mem_cons_of_mem _ h
  have hown : s.vm.findClass "TippedCrates$Plan" = some m.cls := hown
  show mm_S p l e R s m args below meth c f D mm_cl cA 3 _ pc (mc_29 pc)
  unfold mc_29
  exact (ms_b (ms_b (ms_lf (ms_aload_n hx hb rfl (by decide +kernel)))
    (ms_b (ms_lf (ms_getf (C := RX3) (T := TX3) (N := 12) hx hb hf hts (fun w h => hAW w (inq_3 w h)) hown hK rfl (by decide) (hts _ (hAW _ qw_265)) rfl (by decide +kernel)))
    (ms_lf (ms_iload_n hx hb rfl (by decide +kernel)))))
    (ms_b (ms_b (ms_lf (ms_imul hx hb (by decide +kernel)))
    (ms_lf (ms_iload_n hx hb rfl (by decide +kernel))))
    (ms_b (ms_lf (ms_iadd hx hb (by decide +kernel)))
    (ms_lf (ms_iret hx hb hr hlk (by decide +kernel))))))
set_option maxRecDepth 100000 in
set_option maxHeartbeats 8000000 in
/-- TippedCrates$Plan.nextFlag -/
theorem sd_30 (l : Launch) (f : Nat → Nat) (D : va_G) (cA : FieldType → ClassId) (d : Nat) : mm_Ok2 l f D cA d (yX3_nextFlag, cX3_nextFlag, 3, (some .int), mc_30) := by
  intro p e R s m args below meth c C hRf hRl pc
  obtain ⟨hx, hb, hml, hr, hlk, hnm, hown, hts, hEX, hgo, hf⟩ := C
  obtain ⟨hK, hA, hX, hZs, hZc, hZq, hTx, hSR0, hSR1, hAO, hN⟩ := id hEX
  have hAW : ∀ w ∈ mm_AW, w ∈ (Cond.code yX3_nextFlag cX3_nextFlag 3 (some .int) :: mm_AW) := fun w h => List.mem_cons_of_mem _ h
  have hown : s.vm.findClass "TippedCrates$Plan" = some m.cls := hown
  show mm_S p l e R s m args below meth c f D mm_cl cA 3 _ pc (mc_30 pc)
  unfold mc_30
  exact (ms_b (ms_b (ms_b (ms_lf (ms_aload_n hx hb rfl (by decide +kernel)))
    (ms_lf (ms_getf (C := RX3) (T := TX3) (N := 12) hx hb hf hts (fun w h => hAW w (inq_3 w h)) hown hK rfl (by decide) (hts _ (hAW _ qw_297)) rfl (by decide +kernel))))
    (ms_b (ms_lf (ms_iload_n hx hb rfl (by decide +kernel)))
    (ms_lf (ms_iconst hx hb (by decide) (by decide +kernel)))))
    (ms_b (ms_b (ms_lf (ms_imul hx hb (by decide +kernel)))
    (ms_lf (ms_iload_n hx hb rfl (by decide +kernel))))
    (ms_b (ms_lf (ms_iadd hx hb (by decide +kernel)))
    (ms_b (ms_lf (ms_iald hx hb hf hA hX (by decide +kernel)))
    (ms_lf (ms_iret hx hb hr hlk (by decide +kernel)))))))
set_option maxRecDepth 100000 in
set_option maxHeartbeats 8000000 in
/-- TippedCrates$Plan.isShut -/
theorem sd_31 (l : Launch) (f : Nat → Nat) (D : va_G) (cA : FieldType → ClassId) (d : Nat) : mm_Ok2 l f D cA d (yX3_isShut, cX3_isShut, 2, (some .boolean), mc_31) := by
  intro p e R s m args below meth c C hRf hRl pc
  obtain ⟨hx, hb, hml, hr, hlk, hnm, hown, hts, hEX, hgo, hf⟩ := C
  obtain ⟨hK, hA, hX, hZs, hZc, hZq, hTx, hSR0, hSR1, hAO, hN⟩ := id hEX
  have hAW : ∀ w ∈ mm_AW, w ∈ (Cond.code yX3_isShut cX3_isShut 2 (some .boolean) :: mm_AW) := fun w h => List.mem_cons_of_mem _ h
  have hown : s.vm.findClass "TippedCrates$Plan" = some m.cls := hown
  show mm_S p l e R s m args below meth c f D mm_cl cA 2 _ pc (mc_31 pc)
  unfold mc_31
  exact (ms_b (ms_b (ms_b (ms_lf (ms_aload_n hx hb rfl (by decide +kernel)))
    (ms_b (ms_lf (ms_getf (C := RX3) (T := TX3) (N := 12) hx hb hf hts (fun w h => hAW w (inq_3 w h)) hown hK rfl (by decide) (hts _ (hAW _ qw_277)) rfl (by decide +kernel)))
    (ms_lf (ms_iload_n hx hb rfl (by decide +kernel)))))
    (ms_b (ms_lf (ms_ishr hx hb (by decide +kernel)))
    (ms_b (ms_lf (ms_iconst hx hb (by decide) (by decide +kernel)))
    (ms_lf (ms_iand hx hb (by decide +kernel))))))
    (ms_b (ms_b (ms_lf (ms_iconst hx hb (by decide) (by decide +kernel)))
    (ms_b (ms_lf (ms_ic_ne hx hb (by decide) (by decide +kernel)))
    (ms_lf (ms_iconst hx hb (by decide) (by decide +kernel)))))
    (ms_b (ms_lf (ms_goto hx hb (by decide) (by decide +kernel)))
    (ms_b (ms_lf (ms_iconst hx hb (by decide) (by decide +kernel)))
    (ms_lf (ms_iret hx hb hr hlk (by decide +kernel)))))))
set_option maxRecDepth 100000 in
set_option maxHeartbeats 8000000 in
/-- TippedCrates$Plan.allFlags -/
theorem sd_32 (l : Launch) (f : Nat → Nat) (D : va_G) (cA : FieldType → ClassId) (d : Nat) : mm_Ok2 l f D cA d (yX3_allFlags, cX3_allFlags, 1, (some .int), mc_32) := by
  intro p e R s m args below meth c C hRf hRl pc
  obtain ⟨hx, hb, hml, hr, hlk, hnm, hown, hts, hEX, hgo, hf⟩ := C
  obtain ⟨hK, hA, hX, hZs, hZc, hZq, hTx, hSR0, hSR1, hAO, hN⟩ := id hEX
  have hAW : ∀ w ∈ mm_AW, w ∈ (Cond.code yX3_allFlags cX3_allFlags 1 (some .int) :: mm_AW) := fun w h => List.mem_cons_of_mem _ h
  have hown : s.vm.findClass "TippedCrates$Plan" = some m.cls := hown
  show mm_S p l e R s m args below meth c f D mm_cl cA 1 _ pc (mc_32 pc)
  unfold mc_32
  exact (ms_b (ms_b (ms_b (ms_lf (ms_iconst hx hb (by decide) (by decide +kernel)))
    (ms_lf (ms_aload_n hx hb rfl (by decide +kernel))))
    (ms_b (ms_lf (ms_getf (C := RX3) (T := TX3) (N := 12) hx hb hf hts (fun w h => hAW w (inq_3 w h)) hown hK rfl (by decide) (hts _ (hAW _ qw_265)) rfl (by decide +kernel)))
    (ms_b (ms_lf (ms_aload_n hx hb rfl (by decide +kernel)))
    (ms_lf (ms_getf (C := RX3) (T := TX3) (N := 12) hx hb hf hts (fun w h => hAW w (inq_3 w h)) hown hK rfl (by decide) (hts _ (hAW _ qw_268)) rfl (by decide +kernel))))))
    (ms_b (ms_b (ms_lf (ms_imul hx hb (by decide +kernel)))
    (ms_lf (ms_ishl hx hb (by decide +kernel))))
    (ms_b (ms_lf (ms_iconst hx hb (by decide) (by decide +kernel)))
    (ms_b (ms_lf (ms_isub hx hb (by decide +kernel)))
    (ms_lf (ms_iret hx hb hr hlk (by decide +kernel)))))))
set_option maxRecDepth 100000 in
set_option maxHeartbeats 8000000 in
/-- TippedCrates$Reader.<init> -/
theorem sd_33 (l : Launch) (f : Nat → Nat) (D : va_G) (cA : FieldType → ClassId) (d : Nat) : mm_Ok2 l f D cA d (yX4_init, cX4_init, 3, none, mc_33) := by
  intro p e R s m args below meth c C hRf hRl pc
  obtain ⟨hx, hb, hml, hr, hlk, hnm, hown, hts, hEX, hgo, hf⟩ := C
  obtain ⟨hK, hA, hX, hZs, hZc, hZq, hTx, hSR0, hSR1, hAO, hN⟩ := id hEX
  have hAW : ∀ w ∈ mm_AW, w ∈ (Cond.code yX4_init cX4_init 3 none :: mm_AW) := fun w h => List.mem_cons_of_mem _ h
  have hown : s.vm.findClass "TippedCrates$Reader" = some m.cls := hown
  show mm_S p l e R s m args below meth c f D mm_cl cA 3 _ pc (mc_33 pc)
  unfold mc_33
  exact (ms_b (ms_b (ms_b (ms_b (ms_b (ms_lf (ms_aload_n hx hb rfl (by decide +kernel)))
    (ms_lf (ms_oi hx hb hml hown (hts _ (hAW _ qw_328)) (hts _ (hAW _ qw_144)) (hts _ (hAW _ qw_145)) (by omega) (by omega) (by decide +kernel))))
    (ms_b (ms_lf (ms_aload_n hx hb rfl (by decide +kernel)))
    (ms_lf (ms_iconst hx hb (by decide) (by decide +kernel)))))
    (ms_b (ms_b (ms_lf (ms_put (C := RX4) (T := TX4) (N := 19) hx hb hf hts (fun w h => hAW w (inq_4 w h)) tyX4 tyX4_ok nmX4 hown hK rfl (by decide) (hts _ (hAW _ qw_331)) rfl rfl rfl (by decide +kernel)))
    (ms_lf (ms_aload_n hx hb rfl (by decide +kernel))))
    (ms_b (ms_lf (ms_new (C := RX1) (T := TX1) (N := 5) hx hb hf hts (fun w h => hAW w (inq_1 w h)) tyX1 tyX1_ok hown (hts _ (hAW _ qw_329)) (hts _ (hAW _ qw_243)) (hts _ (hAW _ qw_124)) hK rfl nfs_1 rfl (by decide +kernel) (by decide +kernel)))
    (ms_b (ms_lf (ms_dup hx hb (by decide +kernel)))
    (ms_lf (ms_ivIN hx hb hml hown hts hgo hEX (mm_GI hAW gi_12) rfl (hN.2.2.2.2.2.2.2.2.2.2.1) (hts _ (hAW _ qw_124)) (hts _ (hAW _ qw_245)) rfl hd_12 (mm_rm hRf hRl (Nat.le_of_ble_eq_true rfl)) (by decide +kernel)))))))
    (ms_b (ms_b (ms_b (ms_lf (ms_putF (C := RX4) (T := TX4) (N := 19) hx hb hf hts (fun w h => hAW w (inq_4 w h)) tyX4 tyX4_ok nmX4 hown hK rfl (by decide) (hts _ (hAW _ qw_335)) rfl rfl hnm rfl rfl (by decide +kernel)))
    (ms_lf (ms_aload_n hx hb rfl (by decide +kernel))))
    (ms_b (ms_lf (ms_bipush hx hb (by decide) (by decide +kernel)))
    (ms_lf (ms_na hx hb hf hA rfl (hts _ (hAW _ qw_233)) rfl rfl rfl (by decide) (by decide +kernel)))))
    (ms_b (ms_b (ms_lf (ms_putF (C := RX4) (T := TX4) (N := 19) hx hb hf hts (fun w h => hAW w (inq_4 w h)) tyX4 tyX4_ok nmX4 hown hK rfl (by decide) (hts _ (hAW _ qw_346)) rfl rfl hnm rfl rfl (by decide +kernel)))
    (ms_lf (ms_aload_n hx hb rfl (by decide +kernel))))
    (ms_b (ms_lf (ms_bipush hx hb (by decide) (by decide +kernel)))
    (ms_b (ms_lf (ms_na hx hb hf hA rfl (hts _ (hAW _ qw_233)) rfl rfl rfl (by decide) (by decide +kernel)))
    (ms_lf (ms_putF (C := RX4) (T := TX4) (N := 19) hx hb hf hts (fun w h => hAW w (inq_4 w h)) tyX4 tyX4_ok nmX4 hown hK rfl (by decide) (hts _ (hAW _ qw_347)) rfl rfl hnm rfl rfl (by decide +kernel))))))))
    (ms_b (ms_b (ms_b (ms_b (ms_lf (ms_aload_n hx hb rfl (by decide +kernel)))
    (ms_lf (ms_bipush hx hb (by decide) (by decide +kernel))))
    (ms_b (ms_lf (ms_na hx hb hf hA rfl (hts _ (hAW _ qw_233)) rfl rfl rfl (by decide) (by decide +kernel)))
    (ms_lf (ms_putF (C := RX4) (T := TX4) (N := 19) hx hb hf hts (fun w h => hAW w (inq_4 w h)) tyX4 tyX4_ok nmX4 hown hK rfl (by decide) (hts _ (hAW _ qw_348)) rfl rfl hnm rfl rfl (by decide +kernel)))))
    (ms_b (ms_b (ms_lf (ms_aload_n hx hb rfl (by decide +kernel)))
    (ms_lf (ms_bipush hx hb (by decide) (by decide +kernel))))
    (ms_b (ms_lf (ms_na hx hb hf hA rfl (hts _ (hAW _ qw_233)) rfl rfl rfl (by decide) (by decide +kernel)))
    (ms_b (ms_lf (ms_putF (C := RX4) (T := TX4) (N := 19) hx hb hf hts (fun w h => hAW w (inq_4 w h)) tyX4 tyX4_ok nmX4 hown hK rfl (by decide) (hts _ (hAW _ qw_349)) rfl rfl hnm rfl rfl (by decide +kernel)))
    (ms_lf (ms_aload_n hx hb rfl (by decide +kernel)))))))
    (ms_b (ms_b (ms_b (ms_lf (ms_iconst hx hb (by decide) (by decide +kernel)))
    (ms_lf (ms_na hx hb hf hA rfl (hts _ (hAW _ qw_234)) rfl rfl rfl (by decide) (by decide +kernel))))
    (ms_b (ms_lf (ms_putF (C := RX4) (T := TX4) (N := 19) hx hb hf hts (fun w h => hAW w (inq_4 w h)) tyX4 tyX4_ok nmX4 hown hK rfl (by decide) (hts _ (hAW _ qw_350)) rfl rfl hnm rfl rfl (by decide +kernel)))
    (ms_b (ms_lf (ms_aload_n hx hb rfl (by decide +kernel)))
    (ms_lf (ms_aload_n hx hb rfl (by decide +kernel))))))
    (ms_b (ms_b (ms_lf (ms_putF (C := RX4) (T := TX4) (N := 19) hx hb hf hts (fun w h => hAW w (inq_4 w h)) tyX4 tyX4_ok nmX4 hown hK rfl (by decide) (hts _ (hAW _ qw_333)) rfl rfl hnm rfl rfl (by decide +kernel)))
    (ms_lf (ms_aload_n hx hb rfl (by decide +kernel))))
    (ms_b (ms_lf (ms_aload_n hx hb rfl (by decide +kernel)))
    (ms_b (ms_lf (ms_putF (C := RX4) (T := TX4) (N := 19) hx hb hf hts (fun w h => hAW w (inq_4 w h)) tyX4 tyX4_ok nmX4 hown hK rfl (by decide) (hts _ (hAW _ qw_334)) rfl rfl hnm rfl rfl (by decide +kernel)))
    (ms_lf (ms_ret hx hb hr hlk (by decide +kernel)))))))))
set_option maxRecDepth 100000 in
set_option maxHeartbeats 8000000 in
/-- TippedCrates$Reader.readTape -/
theorem sd_34 (l : Launch) (f : Nat → Nat) (D : va_G) (cA : FieldType → ClassId) (d : Nat) : mm_Ok2 l f D cA d (yX4_readTape, cX4_readTape, 2, (some .int), mc_34) := by
  intro p e R s m args below meth c C hRf hRl pc
  obtain ⟨hx, hb, hml, hr, hlk, hnm, hown, hts, hEX, hgo, hf⟩ := C
  obtain ⟨hK, hA, hX, hZs, hZc, hZq, hTx, hSR0, hSR1, hAO, hN⟩ := id hEX
  have hAW : ∀ w ∈ mm_AW, w ∈ (Cond.code yX4_readTape cX4_readTape 2 (some .int) :: mm_AW) := fun w h => List.mem_cons_of_mem _ h
  have hown : s.vm.findClass "TippedCrates$Reader" = some m.cls := hown
  show mm_S p l e R s m args below meth c f D mm_cl cA 2 _ pc (mc_34 pc)
  unfold mc_34
  exact (ms_b (ms_b (ms_b (ms_b (ms_b (ms_lf (ms_aload_n hx hb rfl (by decide +kernel)))
    (ms_b (ms_lf (ms_ivV (C := RX4) (T := TX4) (N := 19) hx hb hml hown hts hgo hEX hf hK rfl (mm_GV hAW (mm_GI hAW gi_35) qw_624 qw_626 qw_1 qw_125) rfl ⟨rfl, hd_35⟩ (mm_rm hRf hRl (Nat.le_of_ble_eq_true rfl)) (by decide +kernel)))
    (ms_lf (ms_iconst hx hb (by decide) (by decide +kernel)))))
    (ms_b (ms_lf (ms_istore_n hx hb rfl (by decide : 1 < 2) (by decide +kernel)))
    (ms_b (ms_lf (ms_iload_n hx hb rfl (by decide +kernel)))
    (ms_lf (ms_sipush hx hb (by decide) (by decide +kernel))))))
    (ms_b (ms_b (ms_lf (ms_ic_gt hx hb (by decide) (by decide +kernel)))
    (ms_b (ms_lf (ms_aload_n hx hb rfl (by decide +kernel)))
    (ms_lf (ms_getf (C := RX4) (T := TX4) (N := 19) hx hb hf hts (fun w h => hAW w (inq_4 w h)) hown hK rfl (by decide) (hts _ (hAW _ qw_337)) rfl (by decide +kernel)))))
    (ms_b (ms_b (ms_lf (ms_if_ne hx hb (by decide) (by decide +kernel)))
    (ms_lf (ms_aload_n hx hb rfl (by decide +kernel))))
    (ms_b (ms_lf (ms_ivV (C := RX4) (T := TX4) (N := 19) hx hb hml hown hts hgo hEX hf hK rfl (mm_GV hAW (mm_GI hAW gi_36) qw_731 qw_733 qw_6 qw_125) rfl ⟨rfl, hd_36⟩ (mm_rm hRf hRl (Nat.le_of_ble_eq_true rfl)) (by decide +kernel)))
    (ms_lf (ms_bipush hx hb (by decide) (by decide +kernel)))))))
    (ms_b (ms_b (ms_b (ms_lf (ms_ic_eq hx hb (by decide) (by decide +kernel)))
    (ms_b (ms_lf (ms_aload_n hx hb rfl (by decide +kernel)))
    (ms_lf (ms_ivV (C := RX4) (T := TX4) (N := 19) hx hb hml hown hts hgo hEX hf hK rfl (mm_GV hAW (mm_GI hAW gi_41) qw_735 qw_737 qw_7 qw_125) rfl ⟨rfl, hd_41⟩ (mm_rm hRf hRl (Nat.le_of_ble_eq_true rfl)) (by decide +kernel)))))
    (ms_b (ms_b (ms_lf (ms_iinc hx hb (by decide) (by decide : 1 < 2) (by decide +kernel)))
    (ms_lf (ms_goto hx hb (by decide) (by decide +kernel))))
    (ms_b (ms_lf (ms_aload_n hx hb rfl (by decide +kernel)))
    (ms_lf (ms_getf (C := RX4) (T := TX4) (N := 19) hx hb hf hts (fun w h => hAW w (inq_4 w h)) hown hK rfl (by decide) (hts _ (hAW _ qw_337)) rfl (by decide +kernel))))))
    (ms_b (ms_b (ms_lf (ms_if_ne hx hb (by decide) (by decide +kernel)))
    (ms_b (ms_lf (ms_aload_n hx hb rfl (by decide +kernel)))
    (ms_lf (ms_getf (C := RX4) (T := TX4) (N := 19) hx hb hf hts (fun w h => hAW w (inq_4 w h)) hown hK rfl (by decide) (hts _ (hAW _ qw_338)) rfl (by decide +kernel)))))
    (ms_b (ms_b (ms_lf (ms_if_eq hx hb (by decide) (by decide +kernel)))
    (ms_lf (ms_aload_n hx hb rfl (by decide +kernel))))
    (ms_b (ms_lf (ms_aload_n hx hb rfl (by decide +kernel)))
    (ms_lf (ms_getf (C := RX4) (T := TX4) (N := 19) hx hb hf hts (fun w h => hAW w (inq_4 w h)) hown hK rfl (by decide) (hts _ (hAW _ qw_338)) rfl (by decide +kernel))))))))
    (ms_b (ms_b (ms_b (ms_b (ms_lf (ms_put (C := RX4) (T := TX4) (N := 19) hx hb hf hts (fun w h => hAW w (inq_4 w h)) tyX4 tyX4_ok nmX4 hown hK rfl (by decide) (hts _ (hAW _ qw_337)) rfl rfl rfl (by decide +kernel)))
    (ms_b (ms_lf (ms_aload_n hx hb rfl (by decide +kernel)))
    (ms_lf (ms_aload_n hx hb rfl (by decide +kernel)))))
    (ms_b (ms_lf (ms_getf (C := RX4) (T := TX4) (N := 19) hx hb hf hts (fun w h => hAW w (inq_4 w h)) hown hK rfl (by decide) (hts _ (hAW _ qw_339)) rfl (by decide +kernel)))
    (ms_b (ms_lf (ms_put (C := RX4) (T := TX4) (N := 19) hx hb hf hts (fun w h => hAW w (inq_4 w h)) tyX4 tyX4_ok nmX4 hown hK rfl (by decide) (hts _ (hAW _ qw_331)) rfl rfl rfl (by decide +kernel)))
    (ms_lf (ms_aload_n hx hb rfl (by decide +kernel))))))
    (ms_b (ms_b (ms_lf (ms_getf (C := RX4) (T := TX4) (N := 19) hx hb hf hts (fun w h => hAW w (inq_4 w h)) hown hK rfl (by decide) (hts _ (hAW _ qw_337)) rfl (by decide +kernel)))
    (ms_b (ms_lf (ms_if_ne hx hb (by decide) (by decide +kernel)))
    (ms_lf (ms_aload_n hx hb rfl (by decide +kernel)))))
    (ms_b (ms_b (ms_lf (ms_ivV (C := RX4) (T := TX4) (N := 19) hx hb hml hown hts hgo hEX hf hK rfl (mm_GV hAW (mm_GI hAW gi_51) qw_800 qw_802 qw_21 qw_125) rfl ⟨rfl, hd_51⟩ (mm_rm hRf hRl (Nat.le_of_ble_eq_true rfl)) (by decide +kernel)))
    (ms_lf (ms_if_ne hx hb (by decide) (by decide +kernel))))
    (ms_b (ms_lf (ms_aload_n hx hb rfl (by decide +kernel)))
    (ms_lf (ms_bipush hx hb (by decide) (by decide +kernel)))))))
    (ms_b (ms_b (ms_b (ms_lf (ms_put (C := RX4) (T := TX4) (N := 19) hx hb hf hts (fun w h => hAW w (inq_4 w h)) tyX4 tyX4_ok nmX4 hown hK rfl (by decide) (hts _ (hAW _ qw_337)) rfl rfl rfl (by decide +kernel)))
    (ms_b (ms_lf (ms_aload_n hx hb rfl (by decide +kernel)))
    (ms_lf (ms_aload_n hx hb rfl (by decide +kernel)))))
    (ms_b (ms_b (ms_lf (ms_getf (C := RX4) (T := TX4) (N := 19) hx hb hf hts (fun w h => hAW w (inq_4 w h)) hown hK rfl (by decide) (hts _ (hAW _ qw_333)) rfl (by decide +kernel)))
    (ms_lf (ms_getf (C := RX8) (T := TX8) (N := 7) hx hb hf hts (fun w h => hAW w (inq_8 w h)) hown hK rfl (by decide) (hts _ (hAW _ qw_208)) rfl (by decide +kernel))))
    (ms_b (ms_lf (ms_put (C := RX4) (T := TX4) (N := 19) hx hb hf hts (fun w h => hAW w (inq_4 w h)) tyX4 tyX4_ok nmX4 hown hK rfl (by decide) (hts _ (hAW _ qw_331)) rfl rfl rfl (by decide +kernel)))
    (ms_lf (ms_aload_n hx hb rfl (by decide +kernel))))))
    (ms_b (ms_b (ms_lf (ms_getf (C := RX4) (T := TX4) (N := 19) hx hb hf hts (fun w h => hAW w (inq_4 w h)) hown hK rfl (by decide) (hts _ (hAW _ qw_337)) rfl (by decide +kernel)))
    (ms_b (ms_lf (ms_if_ne hx hb (by decide) (by decide +kernel)))
    (ms_lf (ms_aload_n hx hb rfl (by decide +kernel)))))
    (ms_b (ms_b (ms_lf (ms_ivV (C := RX4) (T := TX4) (N := 19) hx hb hml hown hts hgo hEX hf hK rfl (mm_GV hAW (mm_GI hAW gi_54) qw_812 qw_814 qw_24 qw_125) rfl ⟨rfl, hd_54⟩ (mm_rm hRf hRl (Nat.le_of_ble_eq_true rfl)) (by decide +kernel)))
    (ms_lf (ms_aload_n hx hb rfl (by decide +kernel))))
    (ms_b (ms_lf (ms_getf (C := RX4) (T := TX4) (N := 19) hx hb hf hts (fun w h => hAW w (inq_4 w h)) hown hK rfl (by decide) (hts _ (hAW _ qw_337)) rfl (by decide +kernel)))
    (ms_lf (ms_iret hx hb hr hlk (by decide +kernel)))))))))
set_option maxRecDepth 100000 in
set_option maxHeartbeats 8000000 in
/-- TippedCrates$Reader.begin -/
theorem sd_35 (l : Launch) (f : Nat → Nat) (D : va_G) (cA : FieldType → ClassId) (d : Nat) : mm_Ok2 l f D cA d (yX4_begin, cX4_begin, 1, none, mc_35) := by
  intro p e R s m args below meth c C hRf hRl pc
  obtain ⟨hx, hb, hml, hr, hlk, hnm, hown, hts, hEX, hgo, hf⟩ := C
  obtain ⟨hK, hA, hX, hZs, hZc, hZq, hTx, hSR0, hSR1, hAO, hN⟩ := id hEX
  have hAW : ∀ w ∈ mm_AW, w ∈ (Cond.code yX4_begin cX4_begin 1 none :: mm_AW) := fun w h => List.mem_cons_of_mem _ h
  have hown : s.vm.findClass "TippedCrates$Reader" = some m.cls := hown
  show mm_S p l e R s m args below meth c f D mm_cl cA 1 _ pc (mc_35 pc)
  unfold mc_35
  exact (ms_b (ms_b (ms_b (ms_b (ms_b (ms_lf (ms_aload_n hx hb rfl (by decide +kernel)))
    (ms_lf (ms_iconst hx hb (by decide) (by decide +kernel))))
    (ms_b (ms_lf (ms_put (C := RX4) (T := TX4) (N := 19) hx hb hf hts (fun w h => hAW w (inq_4 w h)) tyX4 tyX4_ok nmX4 hown hK rfl (by decide) (hts _ (hAW _ qw_337)) rfl rfl rfl (by decide +kernel)))
    (ms_b (ms_lf (ms_aload_n hx hb rfl (by decide +kernel)))
    (ms_lf (ms_iconst hx hb (by decide) (by decide +kernel))))))
    (ms_b (ms_b (ms_lf (ms_put (C := RX4) (T := TX4) (N := 19) hx hb hf hts (fun w h => hAW w (inq_4 w h)) tyX4 tyX4_ok nmX4 hown hK rfl (by decide) (hts _ (hAW _ qw_331)) rfl rfl rfl (by decide +kernel)))
    (ms_lf (ms_aload_n hx hb rfl (by decide +kernel))))
    (ms_b (ms_lf (ms_iconst hx hb (by decide) (by decide +kernel)))
    (ms_b (ms_lf (ms_put (C := RX4) (T := TX4) (N := 19) hx hb hf hts (fun w h => hAW w (inq_4 w h)) tyX4 tyX4_ok nmX4 hown hK rfl (by decide) (hts _ (hAW _ qw_338)) rfl rfl rfl (by decide +kernel)))
    (ms_lf (ms_aload_n hx hb rfl (by decide +kernel)))))))
    (ms_b (ms_b (ms_b (ms_lf (ms_iconst hx hb (by decide) (by decide +kernel)))
    (ms_lf (ms_put (C := RX4) (T := TX4) (N := 19) hx hb hf hts (fun w h => hAW w (inq_4 w h)) tyX4 tyX4_ok nmX4 hown hK rfl (by decide) (hts _ (hAW _ qw_339)) rfl rfl rfl (by decide +kernel))))
    (ms_b (ms_lf (ms_aload_n hx hb rfl (by decide +kernel)))
    (ms_b (ms_lf (ms_iconst hx hb (by decide) (by decide +kernel)))
    (ms_lf (ms_put (C := RX4) (T := TX4) (N := 19) hx hb hf hts (fun w h => hAW w (inq_4 w h)) tyX4 tyX4_ok nmX4 hown hK rfl (by decide) (hts _ (hAW _ qw_340)) rfl rfl rfl (by decide +kernel))))))
    (ms_b (ms_b (ms_lf (ms_aload_n hx hb rfl (by decide +kernel)))
    (ms_lf (ms_iconst hx hb (by decide) (by decide +kernel))))
    (ms_b (ms_lf (ms_put (C := RX4) (T := TX4) (N := 19) hx hb hf hts (fun w h => hAW w (inq_4 w h)) tyX4 tyX4_ok nmX4 hown hK rfl (by decide) (hts _ (hAW _ qw_341)) rfl rfl rfl (by decide +kernel)))
    (ms_b (ms_lf (ms_aload_n hx hb rfl (by decide +kernel)))
    (ms_lf (ms_iconst hx hb (by decide) (by decide +kernel))))))))
    (ms_b (ms_b (ms_b (ms_b (ms_lf (ms_put (C := RX4) (T := TX4) (N := 19) hx hb hf hts (fun w h => hAW w (inq_4 w h)) tyX4 tyX4_ok nmX4 hown hK rfl (by decide) (hts _ (hAW _ qw_342)) rfl rfl rfl (by decide +kernel)))
    (ms_lf (ms_aload_n hx hb rfl (by decide +kernel))))
    (ms_b (ms_lf (ms_iconst hx hb (by decide) (by decide +kernel)))
    (ms_b (ms_lf (ms_put (C := RX4) (T := TX4) (N := 19) hx hb hf hts (fun w h => hAW w (inq_4 w h)) tyX4 tyX4_ok nmX4 hown hK rfl (by decide) (hts _ (hAW _ qw_343)) rfl rfl rfl (by decide +kernel)))
    (ms_lf (ms_aload_n hx hb rfl (by decide +kernel))))))
    (ms_b (ms_b (ms_lf (ms_iconst hx hb (by decide) (by decide +kernel)))
    (ms_lf (ms_put (C := RX4) (T := TX4) (N := 19) hx hb hf hts (fun w h => hAW w (inq_4 w h)) tyX4 tyX4_ok nmX4 hown hK rfl (by decide) (hts _ (hAW _ qw_344)) rfl rfl rfl (by decide +kernel))))
    (ms_b (ms_lf (ms_aload_n hx hb rfl (by decide +kernel)))
    (ms_b (ms_lf (ms_iconst hx hb (by decide) (by decide +kernel)))
    (ms_lf (ms_put (C := RX4) (T := TX4) (N := 19) hx hb hf hts (fun w h => hAW w (inq_4 w h)) tyX4 tyX4_ok nmX4 hown hK rfl (by decide) (hts _ (hAW _ qw_345)) rfl rfl rfl (by decide +kernel)))))))
    (ms_b (ms_b (ms_b (ms_lf (ms_aload_n hx hb rfl (by decide +kernel)))
    (ms_lf (ms_getf (C := RX4) (T := TX4) (N := 19) hx hb hf hts (fun w h => hAW w (inq_4 w h)) hown hK rfl (by decide) (hts _ (hAW _ qw_335)) rfl (by decide +kernel))))
    (ms_b (ms_lf (ms_ivV (C := RX1) (T := TX1) (N := 5) hx hb hml hown hts hgo hEX hf hK rfl (mm_GV hAW (mm_GI hAW gi_13) qw_628 qw_629 qw_630 qw_124) rfl ⟨rfl, hd_13⟩ (mm_rm hRf hRl (Nat.le_of_ble_eq_true rfl)) (by decide +kernel)))
    (ms_b (ms_lf (ms_aload_n hx hb rfl (by decide +kernel)))
    (ms_lf (ms_getf (C := RX4) (T := TX4) (N := 19) hx hb hf hts (fun w h => hAW w (inq_4 w h)) hown hK rfl (by decide) (hts _ (hAW _ qw_333)) rfl (by decide +kernel))))))
    (ms_b (ms_b (ms_lf (ms_ivV (C := RX8) (T := TX8) (N := 7) hx hb hml hown hts hgo hEX hf hK rfl (mm_GV hAW (mm_GI hAW gi_87) qw_640 qw_641 qw_642 qw_118) rfl ⟨rfl, hd_87⟩ (mm_rm hRf hRl (Nat.le_of_ble_eq_true rfl)) (by decide +kernel)))
    (ms_lf (ms_aload_n hx hb rfl (by decide +kernel))))
    (ms_b (ms_lf (ms_iconst hx hb (by decide) (by decide +kernel)))
    (ms_b (ms_lf (ms_put (C := RX4) (T := TX4) (N := 19) hx hb hf hts (fun w h => hAW w (inq_4 w h)) tyX4 tyX4_ok nmX4 hown hK rfl (by decide) (hts _ (hAW _ qw_336)) rfl rfl rfl (by decide +kernel)))
    (ms_lf (ms_ret hx hb hr hlk (by decide +kernel)))))))))
