set_option maxRecDepth 100000 in
set_option maxHeartbeats 8000000 in
/-- TippedCrates$Drays.<init> -/
theorem sd_0 (l : Launch) (f : Nat → Nat) (D : va_G) (cA : FieldType → ClassId) (d : Nat) : mm_Ok2 l f D cA d (yX0_init, cX0_init, 2, none, mc_0) := by
  intro p e R s m args below meth c C hRf hRl pc
  obtain ⟨hx, hb, hml, hr, hlk, hnm, hown, hts, hEX, hgo, hf⟩ := C
  obtain ⟨hK, hA, hX, hZs, hZc, hZq, hTx, hSR0, hSR1, hAO, hN⟩ := id hEX
  have hAW : ∀ w ∈ mm_AW, w ∈ (Cond.code yX0_init cX0_init 2 none :: mm_AW) := fun w h => List.mem_cons_of_mem _ h
  have hown : s.vm.findClass "TippedCrates$Drays" = some m.cls := hown
  show mm_S p l e R s m args below meth c f D mm_cl cA 2 _ pc (mc_0 pc)
  unfold mc_0
  exact (ms_b (ms_b (ms_lf (ms_aload_n (k := 0) hx hb rfl (by decide +kernel : decode cX0_init 0 = .ok (.aload_n 0, 1))))
    (ms_b (ms_lf (ms_oi hx hb hml hown (hts _ (hAW _ qw_395)) (hts _ (hAW _ qw_144)) (hts _ (hAW _ qw_145)) (by omega) (by omega) (by decide +kernel : decode cX0_init 1 = .ok (.invokespecial 3, 3))))
    (ms_lf (ms_aload_n (k := 0) hx hb rfl (by decide +kernel : decode cX0_init 4 = .ok (.aload_n 0, 1))))))
    (ms_b (ms_lf (ms_aload_n (k := 1) hx hb rfl (by decide +kernel : decode cX0_init 5 = .ok (.aload_n 1, 1))))
    (ms_b (ms_lf (ms_putF (C := RX0) (T := TX0) (N := 1) hx hb hf hts (fun w h => hAW w (inq_0 w h)) tyX0 tyX0_ok nmX0 hown hK rfl (by decide) (hts _ (hAW _ qw_396)) rfl rfl hnm rfl rfl (by decide +kernel : decode cX0_init 6 = .ok (.putfield 9, 3))))
    (ms_lf (ms_ret hx hb hr hlk (by decide +kernel : decode cX0_init 9 = .ok (.return_, 1)))))))
set_option maxRecDepth 100000 in
set_option maxHeartbeats 8000000 in
/-- TippedCrates$Drays.canTip -/
theorem sd_1 (l : Launch) (f : Nat → Nat) (D : va_G) (cA : FieldType → ClassId) (d : Nat) : mm_Ok2 l f D cA d (yX0_canTip, cX0_canTip, 5, (some .boolean), mc_1) := by
  intro p e R s m args below meth c C hRf hRl pc
  obtain ⟨hx, hb, hml, hr, hlk, hnm, hown, hts, hEX, hgo, hf⟩ := C
  obtain ⟨hK, hA, hX, hZs, hZc, hZq, hTx, hSR0, hSR1, hAO, hN⟩ := id hEX
  have hAW : ∀ w ∈ mm_AW, w ∈ (Cond.code yX0_canTip cX0_canTip 5 (some .boolean) :: mm_AW) := fun w h => List.mem_cons_of_mem _ h
  have hown : s.vm.findClass "TippedCrates$Drays" = some m.cls := hown
  show mm_S p l e R s m args below meth c f D mm_cl cA 5 _ pc (mc_1 pc)
  unfold mc_1
  exact (ms_b (ms_b (ms_b (ms_b (ms_lf (ms_aload_n (k := 0) hx hb rfl (by decide +kernel : decode cX0_canTip 0 = .ok (.aload_n 0, 1))))
    (ms_b (ms_lf (ms_getf (C := RX0) (T := TX0) (N := 1) hx hb hf hts (fun w h => hAW w (inq_0 w h)) hown hK rfl (by decide) (hts _ (hAW _ qw_396)) rfl (by decide +kernel : decode cX0_canTip 1 = .ok (.getfield 9, 3))))
    (ms_lf (ms_aload_n (k := 1) hx hb rfl (by decide +kernel : decode cX0_canTip 4 = .ok (.aload_n 1, 1))))))
    (ms_b (ms_lf (ms_getf (C := RX7) (T := TX7) (N := 7) hx hb hf hts (fun w h => hAW w (inq_7 w h)) hown hK rfl (by decide) (hts _ (hAW _ qw_569)) rfl (by decide +kernel : decode cX0_canTip 5 = .ok (.getfield 15, 3))))
    (ms_b (ms_lf (ms_iload_n (k := 2) hx hb rfl (by decide +kernel : decode cX0_canTip 8 = .ok (.iload_n 2, 1))))
    (ms_lf (ms_iald hx hb hf hA hX (by decide +kernel : decode cX0_canTip 9 = .ok (.iaload, 1)))))))
    (ms_b (ms_b (ms_lf (ms_iload_n (k := 3) hx hb rfl (by decide +kernel : decode cX0_canTip 10 = .ok (.iload_n 3, 1))))
    (ms_b (ms_lf (ms_ivV (C := RX3) (T := TX3) (N := 12) hx hb hml hown hts hgo hEX hf hK rfl (mm_GV hAW (mm_GI hAW gi_30) qw_953 qw_954 qw_955 qw_123) rfl ⟨rfl, hd_30⟩ (mm_rm hRf hRl (Nat.le_of_ble_eq_true rfl)) (by decide +kernel : decode cX0_canTip 11 = .ok (.invokevirtual 21, 3))))
    (ms_lf (ms_istore hx hb (by decide : 4 < 5) (by decide +kernel : decode cX0_canTip 14 = .ok (.istore 4, 2))))))
    (ms_b (ms_b (ms_lf (ms_iload hx hb (by decide +kernel : decode cX0_canTip 16 = .ok (.iload 4, 2))))
    (ms_lf (ms_iconst hx hb (by decide) (by decide +kernel : decode cX0_canTip 18 = .ok (.iconst (-1), 1)))))
    (ms_b (ms_lf (ms_ic_eq hx hb (by decide) (by decide +kernel : decode cX0_canTip 19 = .ok (.if_icmp .eq 29, 3))))
    (ms_lf (ms_aload_n (k := 0) hx hb rfl (by decide +kernel : decode cX0_canTip 22 = .ok (.aload_n 0, 1))))))))
    (ms_b (ms_b (ms_b (ms_lf (ms_getf (C := RX0) (T := TX0) (N := 1) hx hb hf hts (fun w h => hAW w (inq_0 w h)) hown hK rfl (by decide) (hts _ (hAW _ qw_396)) rfl (by decide +kernel : decode cX0_canTip 23 = .ok (.getfield 9, 3))))
    (ms_b (ms_lf (ms_iload hx hb (by decide +kernel : decode cX0_canTip 26 = .ok (.iload 4, 2))))
    (ms_lf (ms_ivV (C := RX3) (T := TX3) (N := 12) hx hb hml hown hts hgo hEX hf hK rfl (mm_GV hAW (mm_GI hAW gi_31) qw_963 qw_921 qw_922 qw_123) rfl ⟨rfl, hd_31⟩ (mm_rm hRf hRl (Nat.le_of_ble_eq_true rfl)) (by decide +kernel : decode cX0_canTip 28 = .ok (.invokevirtual 27, 3))))))
    (ms_b (ms_lf (ms_if_ne hx hb (by decide) (by decide +kernel : decode cX0_canTip 31 = .ok (.ifCond .ne 17, 3))))
    (ms_b (ms_lf (ms_aload_n (k := 1) hx hb rfl (by decide +kernel : decode cX0_canTip 34 = .ok (.aload_n 1, 1))))
    (ms_lf (ms_iload hx hb (by decide +kernel : decode cX0_canTip 35 = .ok (.iload 4, 2)))))))
    (ms_b (ms_b (ms_lf (ms_ivV (C := RX7) (T := TX7) (N := 7) hx hb hml hown hts hgo hEX hf hK rfl (mm_GV hAW (mm_GI hAW gi_77) qw_964 qw_925 qw_926 qw_133) rfl ⟨rfl, hd_77⟩ (mm_rm hRf hRl (Nat.le_of_ble_eq_true rfl)) (by decide +kernel : decode cX0_canTip 37 = .ok (.invokevirtual 31, 3))))
    (ms_b (ms_lf (ms_iconst hx hb (by decide) (by decide +kernel : decode cX0_canTip 40 = .ok (.iconst (-1), 1))))
    (ms_lf (ms_ic_ne hx hb (by decide) (by decide +kernel : decode cX0_canTip 41 = .ok (.if_icmp .ne 7, 3))))))
    (ms_b (ms_b (ms_lf (ms_iconst hx hb (by decide) (by decide +kernel : decode cX0_canTip 44 = .ok (.iconst 1, 1))))
    (ms_lf (ms_goto hx hb (by decide) (by decide +kernel : decode cX0_canTip 45 = .ok (.goto 4, 3)))))
    (ms_b (ms_lf (ms_iconst hx hb (by decide) (by decide +kernel : decode cX0_canTip 48 = .ok (.iconst 0, 1))))
    (ms_lf (ms_iret hx hb hr hlk (by decide +kernel : decode cX0_canTip 49 = .ok (.ireturn, 1)))))))))
set_option maxRecDepth 100000 in
set_option maxHeartbeats 8000000 in
/-- TippedCrates$Drays.lookAt -/
theorem sd_2 (l : Launch) (f : Nat → Nat) (D : va_G) (cA : FieldType → ClassId) (d : Nat) : mm_Ok2 l f D cA d (yX0_lookAt, cX0_lookAt, 6, none, mc_2) := by
  intro p e R s m args below meth c C hRf hRl pc
  obtain ⟨hx, hb, hml, hr, hlk, hnm, hown, hts, hEX, hgo, hf⟩ := C
  obtain ⟨hK, hA, hX, hZs, hZc, hZq, hTx, hSR0, hSR1, hAO, hN⟩ := id hEX
  have hAW : ∀ w ∈ mm_AW, w ∈ (Cond.code yX0_lookAt cX0_lookAt 6 none :: mm_AW) := fun w h => List.mem_cons_of_mem _ h
  have hown : s.vm.findClass "TippedCrates$Drays" = some m.cls := hown
  show mm_S p l e R s m args below meth c f D mm_cl cA 6 _ pc (mc_2 pc)
  unfold mc_2
  exact (ms_b (ms_b (ms_b (ms_b (ms_b (ms_lf (ms_aload_n (k := 1) hx hb rfl (by decide +kernel : decode cX0_lookAt 0 = .ok (.aload_n 1, 1))))
    (ms_lf (ms_getf (C := RX7) (T := TX7) (N := 7) hx hb hf hts (fun w h => hAW w (inq_7 w h)) hown hK rfl (by decide) (hts _ (hAW _ qw_573)) rfl (by decide +kernel : decode cX0_lookAt 1 = .ok (.getfield 35, 3)))))
    (ms_b (ms_lf (ms_iload_n (k := 2) hx hb rfl (by decide +kernel : decode cX0_lookAt 4 = .ok (.iload_n 2, 1))))
    (ms_lf (ms_bipush hx hb (by decide) (by decide +kernel : decode cX0_lookAt 5 = .ok (.bipush 6, 2))))))
    (ms_b (ms_b (ms_lf (ms_imul hx hb (by decide +kernel : decode cX0_lookAt 7 = .ok (.imul, 1))))
    (ms_lf (ms_gsN hx hb hown (hZs 1 _ rfl) (va_Nw.use rfl (hN.1)) rfl (by decide +kernel : decode cX0_lookAt 8 = .ok (.getstatic 38, 3)))))
    (ms_b (ms_lf (ms_iload_n (k := 3) hx hb rfl (by decide +kernel : decode cX0_lookAt 11 = .ok (.iload_n 3, 1))))
    (ms_lf (ms_iald hx hb hf hA hX (by decide +kernel : decode cX0_lookAt 12 = .ok (.iaload, 1)))))))
    (ms_b (ms_b (ms_b (ms_lf (ms_iadd hx hb (by decide +kernel : decode cX0_lookAt 13 = .ok (.iadd, 1))))
    (ms_lf (ms_iald hx hb hf hA hX (by decide +kernel : decode cX0_lookAt 14 = .ok (.iaload, 1)))))
    (ms_b (ms_lf (ms_istore hx hb (by decide : 4 < 6) (by decide +kernel : decode cX0_lookAt 15 = .ok (.istore 4, 2))))
    (ms_lf (ms_aload_n (k := 1) hx hb rfl (by decide +kernel : decode cX0_lookAt 17 = .ok (.aload_n 1, 1))))))
    (ms_b (ms_b (ms_lf (ms_getf (C := RX7) (T := TX7) (N := 7) hx hb hf hts (fun w h => hAW w (inq_7 w h)) hown hK rfl (by decide) (hts _ (hAW _ qw_573)) rfl (by decide +kernel : decode cX0_lookAt 18 = .ok (.getfield 35, 3))))
    (ms_lf (ms_iload_n (k := 2) hx hb rfl (by decide +kernel : decode cX0_lookAt 21 = .ok (.iload_n 2, 1)))))
    (ms_b (ms_lf (ms_bipush hx hb (by decide) (by decide +kernel : decode cX0_lookAt 22 = .ok (.bipush 6, 2))))
    (ms_b (ms_lf (ms_imul hx hb (by decide +kernel : decode cX0_lookAt 24 = .ok (.imul, 1))))
    (ms_lf (ms_gsN hx hb hown (hZs 0 _ rfl) (va_Nw.use rfl (hN.2.1)) rfl (by decide +kernel : decode cX0_lookAt 25 = .ok (.getstatic 41, 3)))))))))
    (ms_b (ms_b (ms_b (ms_b (ms_lf (ms_iload_n (k := 3) hx hb rfl (by decide +kernel : decode cX0_lookAt 28 = .ok (.iload_n 3, 1))))
    (ms_lf (ms_iald hx hb hf hA hX (by decide +kernel : decode cX0_lookAt 29 = .ok (.iaload, 1)))))
    (ms_b (ms_lf (ms_iadd hx hb (by decide +kernel : decode cX0_lookAt 30 = .ok (.iadd, 1))))
    (ms_lf (ms_iald hx hb hf hA hX (by decide +kernel : decode cX0_lookAt 31 = .ok (.iaload, 1))))))
    (ms_b (ms_b (ms_lf (ms_istore hx hb (by decide : 5 < 6) (by decide +kernel : decode cX0_lookAt 32 = .ok (.istore 5, 2))))
    (ms_lf (ms_aload_n (k := 0) hx hb rfl (by decide +kernel : decode cX0_lookAt 34 = .ok (.aload_n 0, 1)))))
    (ms_b (ms_lf (ms_aload_n (k := 1) hx hb rfl (by decide +kernel : decode cX0_lookAt 35 = .ok (.aload_n 1, 1))))
    (ms_lf (ms_iload_n (k := 2) hx hb rfl (by decide +kernel : decode cX0_lookAt 36 = .ok (.iload_n 2, 1)))))))
    (ms_b (ms_b (ms_b (ms_lf (ms_aload_n (k := 1) hx hb rfl (by decide +kernel : decode cX0_lookAt 37 = .ok (.aload_n 1, 1))))
    (ms_lf (ms_getf (C := RX7) (T := TX7) (N := 7) hx hb hf hts (fun w h => hAW w (inq_7 w h)) hown hK rfl (by decide) (hts _ (hAW _ qw_569)) rfl (by decide +kernel : decode cX0_lookAt 38 = .ok (.getfield 15, 3)))))
    (ms_b (ms_lf (ms_iload_n (k := 2) hx hb rfl (by decide +kernel : decode cX0_lookAt 41 = .ok (.iload_n 2, 1))))
    (ms_lf (ms_iald hx hb hf hA hX (by decide +kernel : decode cX0_lookAt 42 = .ok (.iaload, 1))))))
    (ms_b (ms_b (ms_lf (ms_iload_n (k := 3) hx hb rfl (by decide +kernel : decode cX0_lookAt 43 = .ok (.iload_n 3, 1))))
    (ms_lf (ms_iload hx hb (by decide +kernel : decode cX0_lookAt 44 = .ok (.iload 4, 2)))))
    (ms_b (ms_lf (ms_iload hx hb (by decide +kernel : decode cX0_lookAt 46 = .ok (.iload 5, 2))))
    (ms_b (ms_lf (ms_ivV (C := RX0) (T := TX0) (N := 1) hx hb hml hown hts hgo hEX hf hK rfl (mm_GV hAW (mm_GI hAW gi_3) qw_949 qw_950 qw_951 qw_126) rfl ⟨rfl, hd_3⟩ (mm_rm hRf hRl (Nat.le_of_ble_eq_true rfl)) (by decide +kernel : decode cX0_lookAt 48 = .ok (.invokevirtual 44, 3))))
    (ms_lf (ms_ret hx hb hr hlk (by decide +kernel : decode cX0_lookAt 51 = .ok (.return_, 1))))))))))
set_option maxRecDepth 100000 in
set_option maxHeartbeats 8000000 in
/-- TippedCrates$Drays.lookFrom -/
theorem sd_3 (l : Launch) (f : Nat → Nat) (D : va_G) (cA : FieldType → ClassId) (d : Nat) : mm_Ok2 l f D cA d (yX0_lookFrom, cX0_lookFrom, 9, none, mc_3) := by
  intro p e R s m args below meth c C hRf hRl pc
  obtain ⟨hx, hb, hml, hr, hlk, hnm, hown, hts, hEX, hgo, hf⟩ := C
  obtain ⟨hK, hA, hX, hZs, hZc, hZq, hTx, hSR0, hSR1, hAO, hN⟩ := id hEX
  have hAW : ∀ w ∈ mm_AW, w ∈ (Cond.code yX0_lookFrom cX0_lookFrom 9 none :: mm_AW) := fun w h => List.mem_cons_of_mem _ h
  have hown : s.vm.findClass "TippedCrates$Drays" = some m.cls := hown
  show mm_S p l e R s m args below meth c f D mm_cl cA 9 _ pc (mc_3 pc)
  unfold mc_3
  exact (ms_b (ms_b (ms_b (ms_b (ms_b (ms_b (ms_lf (ms_aload_n (k := 0) hx hb rfl (by decide +kernel : decode cX0_lookFrom 0 = .ok (.aload_n 0, 1))))
    (ms_lf (ms_getf (C := RX0) (T := TX0) (N := 1) hx hb hf hts (fun w h => hAW w (inq_0 w h)) hown hK rfl (by decide) (hts _ (hAW _ qw_396)) rfl (by decide +kernel : decode cX0_lookFrom 1 = .ok (.getfield 9, 3)))))
    (ms_b (ms_lf (ms_iload_n (k := 3) hx hb rfl (by decide +kernel : decode cX0_lookFrom 4 = .ok (.iload_n 3, 1))))
    (ms_lf (ms_iload hx hb (by decide +kernel : decode cX0_lookFrom 5 = .ok (.iload 4, 2))))))
    (ms_b (ms_b (ms_lf (ms_ivV (C := RX3) (T := TX3) (N := 12) hx hb hml hown hts hgo hEX hf hK rfl (mm_GV hAW (mm_GI hAW gi_30) qw_953 qw_954 qw_955 qw_123) rfl ⟨rfl, hd_30⟩ (mm_rm hRf hRl (Nat.le_of_ble_eq_true rfl)) (by decide +kernel : decode cX0_lookFrom 7 = .ok (.invokevirtual 21, 3))))
    (ms_lf (ms_istore hx hb (by decide : 7 < 9) (by decide +kernel : decode cX0_lookFrom 10 = .ok (.istore 7, 2)))))
    (ms_b (ms_lf (ms_aload_n (k := 0) hx hb rfl (by decide +kernel : decode cX0_lookFrom 12 = .ok (.aload_n 0, 1))))
    (ms_b (ms_lf (ms_getf (C := RX0) (T := TX0) (N := 1) hx hb hf hts (fun w h => hAW w (inq_0 w h)) hown hK rfl (by decide) (hts _ (hAW _ qw_396)) rfl (by decide +kernel : decode cX0_lookFrom 13 = .ok (.getfield 9, 3))))
    (ms_lf (ms_getf (C := RX3) (T := TX3) (N := 12) hx hb hf hts (fun w h => hAW w (inq_3 w h)) hown hK rfl (by decide) (hts _ (hAW _ qw_291)) rfl (by decide +kernel : decode cX0_lookFrom 16 = .ok (.getfield 48, 3))))))))
    (ms_b (ms_b (ms_b (ms_lf (ms_getf (C := RX1) (T := TX1) (N := 5) hx hb hf hts (fun w h => hAW w (inq_1 w h)) hown hK rfl (by decide) (hts _ (hAW _ qw_249)) rfl (by decide +kernel : decode cX0_lookFrom 19 = .ok (.getfield 52, 3))))
    (ms_lf (ms_astore hx hb (by decide : 8 < 9) (by decide +kernel : decode cX0_lookFrom 22 = .ok (.astore 8, 2)))))
    (ms_b (ms_lf (ms_aload hx hb (by decide +kernel : decode cX0_lookFrom 24 = .ok (.aload 8, 2))))
    (ms_b (ms_lf (ms_iconst hx hb (by decide) (by decide +kernel : decode cX0_lookFrom 26 = .ok (.iconst 0, 1))))
    (ms_lf (ms_aload_n (k := 0) hx hb rfl (by decide +kernel : decode cX0_lookFrom 27 = .ok (.aload_n 0, 1)))))))
    (ms_b (ms_b (ms_lf (ms_getf (C := RX0) (T := TX0) (N := 1) hx hb hf hts (fun w h => hAW w (inq_0 w h)) hown hK rfl (by decide) (hts _ (hAW _ qw_396)) rfl (by decide +kernel : decode cX0_lookFrom 28 = .ok (.getfield 9, 3))))
    (ms_lf (ms_getf (C := RX3) (T := TX3) (N := 12) hx hb hf hts (fun w h => hAW w (inq_3 w h)) hown hK rfl (by decide) (hts _ (hAW _ qw_294)) rfl (by decide +kernel : decode cX0_lookFrom 31 = .ok (.getfield 57, 3)))))
    (ms_b (ms_lf (ms_iload_n (k := 3) hx hb rfl (by decide +kernel : decode cX0_lookFrom 34 = .ok (.iload_n 3, 1))))
    (ms_b (ms_lf (ms_iald hx hb hf hA hX (by decide +kernel : decode cX0_lookFrom 35 = .ok (.iaload, 1))))
    (ms_lf (ms_gsN hx hb hown (hZs 2 _ rfl) (va_Nw.use rfl (hN.2.2.1)) rfl (by decide +kernel : decode cX0_lookFrom 36 = .ok (.getstatic 60, 3)))))))))
    (ms_b (ms_b (ms_b (ms_b (ms_lf (ms_iload hx hb (by decide +kernel : decode cX0_lookFrom 39 = .ok (.iload 4, 2))))
    (ms_lf (ms_iald hx hb hf hA hX (by decide +kernel : decode cX0_lookFrom 41 = .ok (.iaload, 1)))))
    (ms_b (ms_lf (ms_iadd hx hb (by decide +kernel : decode cX0_lookFrom 42 = .ok (.iadd, 1))))
    (ms_lf (ms_iast hx hb hf hA (by decide +kernel : decode cX0_lookFrom 43 = .ok (.iastore, 1))))))
    (ms_b (ms_b (ms_lf (ms_aload hx hb (by decide +kernel : decode cX0_lookFrom 44 = .ok (.aload 8, 2))))
    (ms_lf (ms_iconst hx hb (by decide) (by decide +kernel : decode cX0_lookFrom 46 = .ok (.iconst 1, 1)))))
    (ms_b (ms_lf (ms_aload_n (k := 0) hx hb rfl (by decide +kernel : decode cX0_lookFrom 47 = .ok (.aload_n 0, 1))))
    (ms_b (ms_lf (ms_getf (C := RX0) (T := TX0) (N := 1) hx hb hf hts (fun w h => hAW w (inq_0 w h)) hown hK rfl (by decide) (hts _ (hAW _ qw_396)) rfl (by decide +kernel : decode cX0_lookFrom 48 = .ok (.getfield 9, 3))))
    (ms_lf (ms_getf (C := RX3) (T := TX3) (N := 12) hx hb hf hts (fun w h => hAW w (inq_3 w h)) hown hK rfl (by decide) (hts _ (hAW _ qw_296)) rfl (by decide +kernel : decode cX0_lookFrom 51 = .ok (.getfield 63, 3))))))))
    (ms_b (ms_b (ms_b (ms_lf (ms_iload_n (k := 3) hx hb rfl (by decide +kernel : decode cX0_lookFrom 54 = .ok (.iload_n 3, 1))))
    (ms_lf (ms_iald hx hb hf hA hX (by decide +kernel : decode cX0_lookFrom 55 = .ok (.iaload, 1)))))
    (ms_b (ms_lf (ms_gsN hx hb hown (hZs 3 _ rfl) (va_Nw.use rfl (hN.2.2.2.1)) rfl (by decide +kernel : decode cX0_lookFrom 56 = .ok (.getstatic 66, 3))))
    (ms_b (ms_lf (ms_iload hx hb (by decide +kernel : decode cX0_lookFrom 59 = .ok (.iload 4, 2))))
    (ms_lf (ms_iald hx hb hf hA hX (by decide +kernel : decode cX0_lookFrom 61 = .ok (.iaload, 1)))))))
    (ms_b (ms_b (ms_lf (ms_iadd hx hb (by decide +kernel : decode cX0_lookFrom 62 = .ok (.iadd, 1))))
    (ms_lf (ms_iast hx hb hf hA (by decide +kernel : decode cX0_lookFrom 63 = .ok (.iastore, 1)))))
    (ms_b (ms_lf (ms_aload hx hb (by decide +kernel : decode cX0_lookFrom 64 = .ok (.aload 8, 2))))
    (ms_b (ms_lf (ms_iconst hx hb (by decide) (by decide +kernel : decode cX0_lookFrom 66 = .ok (.iconst 2, 1))))
    (ms_lf (ms_iload hx hb (by decide +kernel : decode cX0_lookFrom 67 = .ok (.iload 7, 2))))))))))
    (ms_b (ms_b (ms_b (ms_b (ms_b (ms_lf (ms_iconst hx hb (by decide) (by decide +kernel : decode cX0_lookFrom 69 = .ok (.iconst (-1), 1))))
    (ms_lf (ms_ic_ne hx hb (by decide) (by decide +kernel : decode cX0_lookFrom 70 = .ok (.if_icmp .ne 7, 3)))))
    (ms_b (ms_lf (ms_iconst hx hb (by decide) (by decide +kernel : decode cX0_lookFrom 73 = .ok (.iconst 0, 1))))
    (ms_lf (ms_goto hx hb (by decide) (by decide +kernel : decode cX0_lookFrom 74 = .ok (.goto 10, 3))))))
    (ms_b (ms_b (ms_lf (ms_aload_n (k := 1) hx hb rfl (by decide +kernel : decode cX0_lookFrom 77 = .ok (.aload_n 1, 1))))
    (ms_lf (ms_getf (C := RX7) (T := TX7) (N := 7) hx hb hf hts (fun w h => hAW w (inq_7 w h)) hown hK rfl (by decide) (hts _ (hAW _ qw_565)) rfl (by decide +kernel : decode cX0_lookFrom 78 = .ok (.getfield 69, 3)))))
    (ms_b (ms_lf (ms_iload hx hb (by decide +kernel : decode cX0_lookFrom 81 = .ok (.iload 7, 2))))
    (ms_b (ms_lf (ms_iald hx hb hf hA hX (by decide +kernel : decode cX0_lookFrom 83 = .ok (.iaload, 1))))
    (ms_lf (ms_iast hx hb hf hA (by decide +kernel : decode cX0_lookFrom 84 = .ok (.iastore, 1))))))))
    (ms_b (ms_b (ms_b (ms_lf (ms_aload hx hb (by decide +kernel : decode cX0_lookFrom 85 = .ok (.aload 8, 2))))
    (ms_lf (ms_iconst hx hb (by decide) (by decide +kernel : decode cX0_lookFrom 87 = .ok (.iconst 3, 1)))))
    (ms_b (ms_lf (ms_iload hx hb (by decide +kernel : decode cX0_lookFrom 88 = .ok (.iload 5, 2))))
    (ms_b (ms_lf (ms_iast hx hb hf hA (by decide +kernel : decode cX0_lookFrom 90 = .ok (.iastore, 1))))
    (ms_lf (ms_aload hx hb (by decide +kernel : decode cX0_lookFrom 91 = .ok (.aload 8, 2)))))))
    (ms_b (ms_b (ms_lf (ms_iconst hx hb (by decide) (by decide +kernel : decode cX0_lookFrom 93 = .ok (.iconst 4, 1))))
    (ms_lf (ms_iload hx hb (by decide +kernel : decode cX0_lookFrom 94 = .ok (.iload 6, 2)))))
    (ms_b (ms_lf (ms_iast hx hb hf hA (by decide +kernel : decode cX0_lookFrom 96 = .ok (.iastore, 1))))
    (ms_b (ms_lf (ms_aload hx hb (by decide +kernel : decode cX0_lookFrom 97 = .ok (.aload 8, 2))))
    (ms_lf (ms_iconst hx hb (by decide) (by decide +kernel : decode cX0_lookFrom 99 = .ok (.iconst 5, 1)))))))))
    (ms_b (ms_b (ms_b (ms_b (ms_lf (ms_aload_n (k := 1) hx hb rfl (by decide +kernel : decode cX0_lookFrom 100 = .ok (.aload_n 1, 1))))
    (ms_lf (ms_getf (C := RX7) (T := TX7) (N := 7) hx hb hf hts (fun w h => hAW w (inq_7 w h)) hown hK rfl (by decide) (hts _ (hAW _ qw_576)) rfl (by decide +kernel : decode cX0_lookFrom 101 = .ok (.getfield 72, 3)))))
    (ms_b (ms_lf (ms_iload_n (k := 2) hx hb rfl (by decide +kernel : decode cX0_lookFrom 104 = .ok (.iload_n 2, 1))))
    (ms_lf (ms_iald hx hb hf hA hX (by decide +kernel : decode cX0_lookFrom 105 = .ok (.iaload, 1))))))
    (ms_b (ms_b (ms_lf (ms_iast hx hb hf hA (by decide +kernel : decode cX0_lookFrom 106 = .ok (.iastore, 1))))
    (ms_lf (ms_aload hx hb (by decide +kernel : decode cX0_lookFrom 107 = .ok (.aload 8, 2)))))
    (ms_b (ms_lf (ms_bipush hx hb (by decide) (by decide +kernel : decode cX0_lookFrom 109 = .ok (.bipush 6, 2))))
    (ms_b (ms_lf (ms_aload_n (k := 1) hx hb rfl (by decide +kernel : decode cX0_lookFrom 111 = .ok (.aload_n 1, 1))))
    (ms_lf (ms_getf (C := RX7) (T := TX7) (N := 7) hx hb hf hts (fun w h => hAW w (inq_7 w h)) hown hK rfl (by decide) (hts _ (hAW _ qw_581)) rfl (by decide +kernel : decode cX0_lookFrom 112 = .ok (.getfield 75, 3))))))))
    (ms_b (ms_b (ms_b (ms_lf (ms_iast hx hb hf hA (by decide +kernel : decode cX0_lookFrom 115 = .ok (.iastore, 1))))
    (ms_lf (ms_aload hx hb (by decide +kernel : decode cX0_lookFrom 116 = .ok (.aload 8, 2)))))
    (ms_b (ms_lf (ms_bipush hx hb (by decide) (by decide +kernel : decode cX0_lookFrom 118 = .ok (.bipush 7, 2))))
    (ms_b (ms_lf (ms_iload_n (k := 2) hx hb rfl (by decide +kernel : decode cX0_lookFrom 120 = .ok (.iload_n 2, 1))))
    (ms_lf (ms_iast hx hb hf hA (by decide +kernel : decode cX0_lookFrom 121 = .ok (.iastore, 1)))))))
    (ms_b (ms_b (ms_lf (ms_aload hx hb (by decide +kernel : decode cX0_lookFrom 122 = .ok (.aload 8, 2))))
    (ms_lf (ms_bipush hx hb (by decide) (by decide +kernel : decode cX0_lookFrom 124 = .ok (.bipush 8, 2)))))
    (ms_b (ms_lf (ms_iload hx hb (by decide +kernel : decode cX0_lookFrom 126 = .ok (.iload 4, 2))))
    (ms_b (ms_lf (ms_iast hx hb hf hA (by decide +kernel : decode cX0_lookFrom 128 = .ok (.iastore, 1))))
    (ms_lf (ms_ret hx hb hr hlk (by decide +kernel : decode cX0_lookFrom 129 = .ok (.return_, 1)))))))))))
set_option maxRecDepth 100000 in
set_option maxHeartbeats 8000000 in
/-- TippedCrates$Drays.costNow -/
theorem sd_4 (l : Launch) (f : Nat → Nat) (D : va_G) (cA : FieldType → ClassId) (d : Nat) : mm_Ok2 l f D cA d (yX0_costNow, cX0_costNow, 1, (some .int), mc_4) := by
  intro p e R s m args below meth c C hRf hRl pc
  obtain ⟨hx, hb, hml, hr, hlk, hnm, hown, hts, hEX, hgo, hf⟩ := C
  obtain ⟨hK, hA, hX, hZs, hZc, hZq, hTx, hSR0, hSR1, hAO, hN⟩ := id hEX
  have hAW : ∀ w ∈ mm_AW, w ∈ (Cond.code yX0_costNow cX0_costNow 1 (some .int) :: mm_AW) := fun w h => List.mem_cons_of_mem _ h
  have hown : s.vm.findClass "TippedCrates$Drays" = some m.cls := hown
  show mm_S p l e R s m args below meth c f D mm_cl cA 1 _ pc (mc_4 pc)
  unfold mc_4
  exact (ms_b (ms_b (ms_b (ms_lf (ms_iconst hx hb (by decide) (by decide +kernel : decode cX0_costNow 0 = .ok (.iconst 0, 1))))
    (ms_lf (ms_bipush hx hb (by decide) (by decide +kernel : decode cX0_costNow 1 = .ok (.bipush 99, 2)))))
    (ms_b (ms_lf (ms_aload_n (k := 0) hx hb rfl (by decide +kernel : decode cX0_costNow 3 = .ok (.aload_n 0, 1))))
    (ms_b (ms_lf (ms_getf (C := RX0) (T := TX0) (N := 1) hx hb hf hts (fun w h => hAW w (inq_0 w h)) hown hK rfl (by decide) (hts _ (hAW _ qw_396)) rfl (by decide +kernel : decode cX0_costNow 4 = .ok (.getfield 9, 3))))
    (ms_lf (ms_getf (C := RX3) (T := TX3) (N := 12) hx hb hf hts (fun w h => hAW w (inq_3 w h)) hown hK rfl (by decide) (hts _ (hAW _ qw_291)) rfl (by decide +kernel : decode cX0_costNow 7 = .ok (.getfield 48, 3)))))))
    (ms_b (ms_b (ms_lf (ms_iconst hx hb (by decide) (by decide +kernel : decode cX0_costNow 10 = .ok (.iconst 2, 1))))
    (ms_lf (ms_ivV (C := RX1) (T := TX1) (N := 5) hx hb hml hown hts hgo hEX hf hK rfl (mm_GV hAW (mm_GI hAW gi_18) qw_969 qw_970 qw_971 qw_124) rfl ⟨rfl, hd_18⟩ (mm_rm hRf hRl (Nat.le_of_ble_eq_true rfl)) (by decide +kernel : decode cX0_costNow 11 = .ok (.invokevirtual 79, 3)))))
    (ms_b (ms_lf (ms_mmin hx hb hml hown (hts _ (hAW _ qw_973)) (hts _ (hAW _ qw_691)) (hts _ (hAW _ qw_134)) (hts _ (hAW _ qw_692)) (by omega) (by omega) (by decide +kernel : decode cX0_costNow 14 = .ok (.invokestatic 82, 3))))
    (ms_b (ms_lf (ms_mmax hx hb hml hown (hts _ (hAW _ qw_974)) (hts _ (hAW _ qw_688)) (hts _ (hAW _ qw_134)) (hts _ (hAW _ qw_689)) (by omega) (by omega) (by decide +kernel : decode cX0_costNow 17 = .ok (.invokestatic 87, 3))))
    (ms_lf (ms_iret hx hb hr hlk (by decide +kernel : decode cX0_costNow 20 = .ok (.ireturn, 1))))))))
set_option maxRecDepth 100000 in
set_option maxHeartbeats 8000000 in
/-- TippedCrates$Drays.slipNow -/
theorem sd_5 (l : Launch) (f : Nat → Nat) (D : va_G) (cA : FieldType → ClassId) (d : Nat) : mm_Ok2 l f D cA d (yX0_slipNow, cX0_slipNow, 1, (some .int), mc_5) := by
  intro p e R s m args below meth c C hRf hRl pc
  obtain ⟨hx, hb, hml, hr, hlk, hnm, hown, hts, hEX, hgo, hf⟩ := C
  obtain ⟨hK, hA, hX, hZs, hZc, hZq, hTx, hSR0, hSR1, hAO, hN⟩ := id hEX
  have hAW : ∀ w ∈ mm_AW, w ∈ (Cond.code yX0_slipNow cX0_slipNow 1 (some .int) :: mm_AW) := fun w h => List.mem_cons_of_mem _ h
  have hown : s.vm.findClass "TippedCrates$Drays" = some m.cls := hown
  show mm_S p l e R s m args below meth c f D mm_cl cA 1 _ pc (mc_5 pc)
  unfold mc_5
  exact (ms_b (ms_b (ms_b (ms_lf (ms_iconst hx hb (by decide) (by decide +kernel : decode cX0_slipNow 0 = .ok (.iconst 0, 1))))
    (ms_lf (ms_bipush hx hb (by decide) (by decide +kernel : decode cX0_slipNow 1 = .ok (.bipush 100, 2)))))
    (ms_b (ms_lf (ms_aload_n (k := 0) hx hb rfl (by decide +kernel : decode cX0_slipNow 3 = .ok (.aload_n 0, 1))))
    (ms_b (ms_lf (ms_getf (C := RX0) (T := TX0) (N := 1) hx hb hf hts (fun w h => hAW w (inq_0 w h)) hown hK rfl (by decide) (hts _ (hAW _ qw_396)) rfl (by decide +kernel : decode cX0_slipNow 4 = .ok (.getfield 9, 3))))
    (ms_lf (ms_getf (C := RX3) (T := TX3) (N := 12) hx hb hf hts (fun w h => hAW w (inq_3 w h)) hown hK rfl (by decide) (hts _ (hAW _ qw_291)) rfl (by decide +kernel : decode cX0_slipNow 7 = .ok (.getfield 48, 3)))))))
    (ms_b (ms_b (ms_lf (ms_iconst hx hb (by decide) (by decide +kernel : decode cX0_slipNow 10 = .ok (.iconst 3, 1))))
    (ms_lf (ms_ivV (C := RX1) (T := TX1) (N := 5) hx hb hml hown hts hgo hEX hf hK rfl (mm_GV hAW (mm_GI hAW gi_18) qw_969 qw_970 qw_971 qw_124) rfl ⟨rfl, hd_18⟩ (mm_rm hRf hRl (Nat.le_of_ble_eq_true rfl)) (by decide +kernel : decode cX0_slipNow 11 = .ok (.invokevirtual 79, 3)))))
    (ms_b (ms_lf (ms_mmin hx hb hml hown (hts _ (hAW _ qw_973)) (hts _ (hAW _ qw_691)) (hts _ (hAW _ qw_134)) (hts _ (hAW _ qw_692)) (by omega) (by omega) (by decide +kernel : decode cX0_slipNow 14 = .ok (.invokestatic 82, 3))))
    (ms_b (ms_lf (ms_mmax hx hb hml hown (hts _ (hAW _ qw_974)) (hts _ (hAW _ qw_688)) (hts _ (hAW _ qw_134)) (hts _ (hAW _ qw_689)) (by omega) (by omega) (by decide +kernel : decode cX0_slipNow 17 = .ok (.invokestatic 87, 3))))
    (ms_lf (ms_iret hx hb hr hlk (by decide +kernel : decode cX0_slipNow 20 = .ok (.ireturn, 1))))))))
set_option maxRecDepth 100000 in
set_option maxHeartbeats 8000000 in
/-- TippedCrates$Drays.holdsNow -/
theorem sd_6 (l : Launch) (f : Nat → Nat) (D : va_G) (cA : FieldType → ClassId) (d : Nat) : mm_Ok2 l f D cA d (yX0_holdsNow, cX0_holdsNow, 2, (some .boolean), mc_6) := by
  intro p e R s m args below meth c C hRf hRl pc
  obtain ⟨hx, hb, hml, hr, hlk, hnm, hown, hts, hEX, hgo, hf⟩ := C
  obtain ⟨hK, hA, hX, hZs, hZc, hZq, hTx, hSR0, hSR1, hAO, hN⟩ := id hEX
  have hAW : ∀ w ∈ mm_AW, w ∈ (Cond.code yX0_holdsNow cX0_holdsNow 2 (some .boolean) :: mm_AW) := fun w h => List.mem_cons_of_mem _ h
  have hown : s.vm.findClass "TippedCrates$Drays" = some m.cls := hown
  show mm_S p l e R s m args below meth c f D mm_cl cA 2 _ pc (mc_6 pc)
  unfold mc_6
  exact (ms_b (ms_b (ms_b (ms_lf (ms_aload_n (k := 0) hx hb rfl (by decide +kernel : decode cX0_holdsNow 0 = .ok (.aload_n 0, 1))))
    (ms_lf (ms_getf (C := RX0) (T := TX0) (N := 1) hx hb hf hts (fun w h => hAW w (inq_0 w h)) hown hK rfl (by decide) (hts _ (hAW _ qw_396)) rfl (by decide +kernel : decode cX0_holdsNow 1 = .ok (.getfield 9, 3)))))
    (ms_b (ms_lf (ms_getf (C := RX3) (T := TX3) (N := 12) hx hb hf hts (fun w h => hAW w (inq_3 w h)) hown hK rfl (by decide) (hts _ (hAW _ qw_291)) rfl (by decide +kernel : decode cX0_holdsNow 4 = .ok (.getfield 48, 3))))
    (ms_b (ms_lf (ms_iload_n (k := 1) hx hb rfl (by decide +kernel : decode cX0_holdsNow 7 = .ok (.iload_n 1, 1))))
    (ms_lf (ms_ivV (C := RX1) (T := TX1) (N := 5) hx hb hml hown hts hgo hEX hf hK rfl (mm_GV hAW (mm_GI hAW gi_18) qw_969 qw_970 qw_971 qw_124) rfl ⟨rfl, hd_18⟩ (mm_rm hRf hRl (Nat.le_of_ble_eq_true rfl)) (by decide +kernel : decode cX0_holdsNow 8 = .ok (.invokevirtual 79, 3)))))))
    (ms_b (ms_b (ms_lf (ms_if_le hx hb (by decide) (by decide +kernel : decode cX0_holdsNow 11 = .ok (.ifCond .le 7, 3))))
    (ms_lf (ms_iconst hx hb (by decide) (by decide +kernel : decode cX0_holdsNow 14 = .ok (.iconst 1, 1)))))
    (ms_b (ms_lf (ms_goto hx hb (by decide) (by decide +kernel : decode cX0_holdsNow 15 = .ok (.goto 4, 3))))
    (ms_b (ms_lf (ms_iconst hx hb (by decide) (by decide +kernel : decode cX0_holdsNow 18 = .ok (.iconst 0, 1))))
    (ms_lf (ms_iret hx hb hr hlk (by decide +kernel : decode cX0_holdsNow 19 = .ok (.ireturn, 1))))))))
set_option maxRecDepth 100000 in
set_option maxHeartbeats 8000000 in
/-- TippedCrates$Drays.tipOver -/
theorem sd_7 (l : Launch) (f : Nat → Nat) (D : va_G) (cA : FieldType → ClassId) (d : Nat) : mm_Ok2 l f D cA d (yX0_tipOver, cX0_tipOver, 8, none, mc_7) := by
  intro p e R s m args below meth c C hRf hRl pc
  obtain ⟨hx, hb, hml, hr, hlk, hnm, hown, hts, hEX, hgo, hf⟩ := C
  obtain ⟨hK, hA, hX, hZs, hZc, hZq, hTx, hSR0, hSR1, hAO, hN⟩ := id hEX
  have hAW : ∀ w ∈ mm_AW, w ∈ (Cond.code yX0_tipOver cX0_tipOver 8 none :: mm_AW) := fun w h => List.mem_cons_of_mem _ h
  have hown : s.vm.findClass "TippedCrates$Drays" = some m.cls := hown
  show mm_S p l e R s m args below meth c f D mm_cl cA 8 _ pc (mc_7 pc)
  unfold mc_7
  exact (ms_b (ms_b (ms_b (ms_b (ms_b (ms_b (ms_lf (ms_aload_n (k := 0) hx hb rfl (by decide +kernel : decode cX0_tipOver 0 = .ok (.aload_n 0, 1))))
    (ms_lf (ms_getf (C := RX0) (T := TX0) (N := 1) hx hb hf hts (fun w h => hAW w (inq_0 w h)) hown hK rfl (by decide) (hts _ (hAW _ qw_396)) rfl (by decide +kernel : decode cX0_tipOver 1 = .ok (.getfield 9, 3)))))
    (ms_b (ms_lf (ms_aload_n (k := 1) hx hb rfl (by decide +kernel : decode cX0_tipOver 4 = .ok (.aload_n 1, 1))))
    (ms_b (ms_lf (ms_getf (C := RX7) (T := TX7) (N := 7) hx hb hf hts (fun w h => hAW w (inq_7 w h)) hown hK rfl (by decide) (hts _ (hAW _ qw_569)) rfl (by decide +kernel : decode cX0_tipOver 5 = .ok (.getfield 15, 3))))
    (ms_lf (ms_iload_n (k := 2) hx hb rfl (by decide +kernel : decode cX0_tipOver 8 = .ok (.iload_n 2, 1)))))))
    (ms_b (ms_b (ms_lf (ms_iald hx hb hf hA hX (by decide +kernel : decode cX0_tipOver 9 = .ok (.iaload, 1))))
    (ms_lf (ms_iload_n (k := 3) hx hb rfl (by decide +kernel : decode cX0_tipOver 10 = .ok (.iload_n 3, 1)))))
    (ms_b (ms_lf (ms_ivV (C := RX3) (T := TX3) (N := 12) hx hb hml hown hts hgo hEX hf hK rfl (mm_GV hAW (mm_GI hAW gi_30) qw_953 qw_954 qw_955 qw_123) rfl ⟨rfl, hd_30⟩ (mm_rm hRf hRl (Nat.le_of_ble_eq_true rfl)) (by decide +kernel : decode cX0_tipOver 11 = .ok (.invokevirtual 21, 3))))
    (ms_b (ms_lf (ms_istore hx hb (by decide : 4 < 8) (by decide +kernel : decode cX0_tipOver 14 = .ok (.istore 4, 2))))
    (ms_lf (ms_iload hx hb (by decide +kernel : decode cX0_tipOver 16 = .ok (.iload 4, 2))))))))
    (ms_b (ms_b (ms_b (ms_lf (ms_iconst hx hb (by decide) (by decide +kernel : decode cX0_tipOver 18 = .ok (.iconst (-1), 1))))
    (ms_lf (ms_ic_ne hx hb (by decide) (by decide +kernel : decode cX0_tipOver 19 = .ok (.if_icmp .ne 4, 3)))))
    (ms_b (ms_lf (ms_ret hx hb hr hlk (by decide +kernel : decode cX0_tipOver 22 = .ok (.return_, 1))))
    (ms_b (ms_lf (ms_aload_n (k := 0) hx hb rfl (by decide +kernel : decode cX0_tipOver 23 = .ok (.aload_n 0, 1))))
    (ms_lf (ms_aload_n (k := 1) hx hb rfl (by decide +kernel : decode cX0_tipOver 24 = .ok (.aload_n 1, 1)))))))
    (ms_b (ms_b (ms_lf (ms_iload_n (k := 2) hx hb rfl (by decide +kernel : decode cX0_tipOver 25 = .ok (.iload_n 2, 1))))
    (ms_b (ms_lf (ms_iload_n (k := 3) hx hb rfl (by decide +kernel : decode cX0_tipOver 26 = .ok (.iload_n 3, 1))))
    (ms_lf (ms_ivV (C := RX0) (T := TX0) (N := 1) hx hb hml hown hts hgo hEX hf hK rfl (mm_GV hAW (mm_GI hAW gi_2) qw_1000 qw_944 qw_945 qw_126) rfl ⟨rfl, hd_2⟩ (mm_rm hRf hRl (Nat.le_of_ble_eq_true rfl)) (by decide +kernel : decode cX0_tipOver 27 = .ok (.invokevirtual 90, 3))))))
    (ms_b (ms_lf (ms_aload_n (k := 0) hx hb rfl (by decide +kernel : decode cX0_tipOver 30 = .ok (.aload_n 0, 1))))
    (ms_b (ms_lf (ms_iconst hx hb (by decide) (by decide +kernel : decode cX0_tipOver 31 = .ok (.iconst 0, 1))))
    (ms_lf (ms_ivV (C := RX0) (T := TX0) (N := 1) hx hb hml hown hts hgo hEX hf hK rfl (mm_GV hAW (mm_GI hAW gi_6) qw_1001 qw_976 qw_977 qw_126) rfl ⟨rfl, hd_6⟩ (mm_rm hRf hRl (Nat.le_of_ble_eq_true rfl)) (by decide +kernel : decode cX0_tipOver 32 = .ok (.invokevirtual 94, 3)))))))))
    (ms_b (ms_b (ms_b (ms_b (ms_lf (ms_istore hx hb (by decide : 5 < 8) (by decide +kernel : decode cX0_tipOver 35 = .ok (.istore 5, 2))))
    (ms_lf (ms_iload hx hb (by decide +kernel : decode cX0_tipOver 37 = .ok (.iload 5, 2)))))
    (ms_b (ms_lf (ms_if_ne hx hb (by decide) (by decide +kernel : decode cX0_tipOver 39 = .ok (.ifCond .ne 15, 3))))
    (ms_b (ms_lf (ms_aload_n (k := 0) hx hb rfl (by decide +kernel : decode cX0_tipOver 42 = .ok (.aload_n 0, 1))))
    (ms_lf (ms_iconst hx hb (by decide) (by decide +kernel : decode cX0_tipOver 43 = .ok (.iconst 1, 1)))))))
    (ms_b (ms_b (ms_lf (ms_ivV (C := RX0) (T := TX0) (N := 1) hx hb hml hown hts hgo hEX hf hK rfl (mm_GV hAW (mm_GI hAW gi_6) qw_1001 qw_976 qw_977 qw_126) rfl ⟨rfl, hd_6⟩ (mm_rm hRf hRl (Nat.le_of_ble_eq_true rfl)) (by decide +kernel : decode cX0_tipOver 44 = .ok (.invokevirtual 94, 3))))
    (ms_b (ms_lf (ms_if_eq hx hb (by decide) (by decide +kernel : decode cX0_tipOver 47 = .ok (.ifCond .eq 7, 3))))
    (ms_lf (ms_iconst hx hb (by decide) (by decide +kernel : decode cX0_tipOver 50 = .ok (.iconst 1, 1))))))
    (ms_b (ms_lf (ms_goto hx hb (by decide) (by decide +kernel : decode cX0_tipOver 51 = .ok (.goto 4, 3))))
    (ms_b (ms_lf (ms_iconst hx hb (by decide) (by decide +kernel : decode cX0_tipOver 54 = .ok (.iconst 0, 1))))
    (ms_lf (ms_istore hx hb (by decide : 6 < 8) (by decide +kernel : decode cX0_tipOver 55 = .ok (.istore 6, 2))))))))
    (ms_b (ms_b (ms_b (ms_lf (ms_aload_n (k := 1) hx hb rfl (by decide +kernel : decode cX0_tipOver 57 = .ok (.aload_n 1, 1))))
    (ms_lf (ms_dup hx hb (by decide +kernel : decode cX0_tipOver 58 = .ok (.dup, 1)))))
    (ms_b (ms_lf (ms_getf (C := RX7) (T := TX7) (N := 7) hx hb hf hts (fun w h => hAW w (inq_7 w h)) hown hK rfl (by decide) (hts _ (hAW _ qw_584)) rfl (by decide +kernel : decode cX0_tipOver 59 = .ok (.getfield 97, 3))))
    (ms_b (ms_lf (ms_aload_n (k := 0) hx hb rfl (by decide +kernel : decode cX0_tipOver 62 = .ok (.aload_n 0, 1))))
    (ms_lf (ms_ivV (C := RX0) (T := TX0) (N := 1) hx hb hml hown hts hgo hEX hf hK rfl (mm_GV hAW (mm_GI hAW gi_4) qw_1002 qw_966 qw_967 qw_126) rfl ⟨rfl, hd_4⟩ (mm_rm hRf hRl (Nat.le_of_ble_eq_true rfl)) (by decide +kernel : decode cX0_tipOver 63 = .ok (.invokevirtual 100, 3)))))))
    (ms_b (ms_b (ms_lf (ms_iadd hx hb (by decide +kernel : decode cX0_tipOver 66 = .ok (.iadd, 1))))
    (ms_b (ms_lf (ms_put (C := RX7) (T := TX7) (N := 7) hx hb hf hts (fun w h => hAW w (inq_7 w h)) tyX7 tyX7_ok nmX7 hown hK rfl (by decide) (hts _ (hAW _ qw_584)) rfl rfl rfl (by decide +kernel : decode cX0_tipOver 67 = .ok (.putfield 97, 3))))
    (ms_lf (ms_aload_n (k := 1) hx hb rfl (by decide +kernel : decode cX0_tipOver 70 = .ok (.aload_n 1, 1))))))
    (ms_b (ms_lf (ms_getf (C := RX7) (T := TX7) (N := 7) hx hb hf hts (fun w h => hAW w (inq_7 w h)) hown hK rfl (by decide) (hts _ (hAW _ qw_569)) rfl (by decide +kernel : decode cX0_tipOver 71 = .ok (.getfield 15, 3))))
    (ms_b (ms_lf (ms_iload_n (k := 2) hx hb rfl (by decide +kernel : decode cX0_tipOver 74 = .ok (.iload_n 2, 1))))
    (ms_lf (ms_iload hx hb (by decide +kernel : decode cX0_tipOver 75 = .ok (.iload 4, 2))))))))))
    (ms_b (ms_b (ms_b (ms_b (ms_b (ms_lf (ms_iast hx hb hf hA (by decide +kernel : decode cX0_tipOver 77 = .ok (.iastore, 1))))
    (ms_lf (ms_aload_n (k := 1) hx hb rfl (by decide +kernel : decode cX0_tipOver 78 = .ok (.aload_n 1, 1)))))
    (ms_b (ms_lf (ms_getf (C := RX7) (T := TX7) (N := 7) hx hb hf hts (fun w h => hAW w (inq_7 w h)) hown hK rfl (by decide) (hts _ (hAW _ qw_576)) rfl (by decide +kernel : decode cX0_tipOver 79 = .ok (.getfield 72, 3))))
    (ms_b (ms_lf (ms_iload_n (k := 2) hx hb rfl (by decide +kernel : decode cX0_tipOver 82 = .ok (.iload_n 2, 1))))
    (ms_lf (ms_dup2 hx hb (by decide +kernel : decode cX0_tipOver 83 = .ok (.dup2, 1)))))))
    (ms_b (ms_b (ms_lf (ms_iald hx hb hf hA hX (by decide +kernel : decode cX0_tipOver 84 = .ok (.iaload, 1))))
    (ms_b (ms_lf (ms_iconst hx hb (by decide) (by decide +kernel : decode cX0_tipOver 85 = .ok (.iconst 1, 1))))
    (ms_lf (ms_iadd hx hb (by decide +kernel : decode cX0_tipOver 86 = .ok (.iadd, 1))))))
    (ms_b (ms_lf (ms_iast hx hb hf hA (by decide +kernel : decode cX0_tipOver 87 = .ok (.iastore, 1))))
    (ms_b (ms_lf (ms_aload_n (k := 1) hx hb rfl (by decide +kernel : decode cX0_tipOver 88 = .ok (.aload_n 1, 1))))
    (ms_lf (ms_getf (C := RX7) (T := TX7) (N := 7) hx hb hf hts (fun w h => hAW w (inq_7 w h)) hown hK rfl (by decide) (hts _ (hAW _ qw_573)) rfl (by decide +kernel : decode cX0_tipOver 89 = .ok (.getfield 35, 3))))))))
    (ms_b (ms_b (ms_b (ms_lf (ms_iload_n (k := 2) hx hb rfl (by decide +kernel : decode cX0_tipOver 92 = .ok (.iload_n 2, 1))))
    (ms_lf (ms_bipush hx hb (by decide) (by decide +kernel : decode cX0_tipOver 93 = .ok (.bipush 6, 2)))))
    (ms_b (ms_lf (ms_imul hx hb (by decide +kernel : decode cX0_tipOver 95 = .ok (.imul, 1))))
    (ms_b (ms_lf (ms_iload_n (k := 3) hx hb rfl (by decide +kernel : decode cX0_tipOver 96 = .ok (.iload_n 3, 1))))
    (ms_lf (ms_ivSN hx hb hml hown hts hgo hEX (mm_GI hAW gi_167) rfl (hN.2.2.2.2.1) (hts _ (hAW _ qw_410)) (hts _ (hAW _ qw_117)) hd_167 (mm_rm hRf hRl (Nat.le_of_ble_eq_true rfl)) (by decide +kernel : decode cX0_tipOver 97 = .ok (.invokestatic 104, 3)))))))
    (ms_b (ms_b (ms_lf (ms_iload_n (k := 2) hx hb rfl (by decide +kernel : decode cX0_tipOver 100 = .ok (.iload_n 2, 1))))
    (ms_b (ms_lf (ms_bipush hx hb (by decide) (by decide +kernel : decode cX0_tipOver 101 = .ok (.bipush 6, 2))))
    (ms_lf (ms_imul hx hb (by decide +kernel : decode cX0_tipOver 103 = .ok (.imul, 1))))))
    (ms_b (ms_lf (ms_iconst hx hb (by decide) (by decide +kernel : decode cX0_tipOver 104 = .ok (.iconst 1, 1))))
    (ms_b (ms_lf (ms_iadd hx hb (by decide +kernel : decode cX0_tipOver 105 = .ok (.iadd, 1))))
    (ms_lf (ms_istore hx hb (by decide : 7 < 8) (by decide +kernel : decode cX0_tipOver 106 = .ok (.istore 7, 2)))))))))
    (ms_b (ms_b (ms_b (ms_b (ms_lf (ms_iload hx hb (by decide +kernel : decode cX0_tipOver 108 = .ok (.iload 5, 2))))
    (ms_lf (ms_if_eq hx hb (by decide) (by decide +kernel : decode cX0_tipOver 110 = .ok (.ifCond .eq 20, 3)))))
    (ms_b (ms_lf (ms_aload_n (k := 1) hx hb rfl (by decide +kernel : decode cX0_tipOver 113 = .ok (.aload_n 1, 1))))
    (ms_b (ms_lf (ms_getf (C := RX7) (T := TX7) (N := 7) hx hb hf hts (fun w h => hAW w (inq_7 w h)) hown hK rfl (by decide) (hts _ (hAW _ qw_565)) rfl (by decide +kernel : decode cX0_tipOver 114 = .ok (.getfield 69, 3))))
    (ms_lf (ms_iload hx hb (by decide +kernel : decode cX0_tipOver 117 = .ok (.iload 4, 2)))))))
    (ms_b (ms_b (ms_lf (ms_aload_n (k := 1) hx hb rfl (by decide +kernel : decode cX0_tipOver 119 = .ok (.aload_n 1, 1))))
    (ms_b (ms_lf (ms_getf (C := RX7) (T := TX7) (N := 7) hx hb hf hts (fun w h => hAW w (inq_7 w h)) hown hK rfl (by decide) (hts _ (hAW _ qw_573)) rfl (by decide +kernel : decode cX0_tipOver 120 = .ok (.getfield 35, 3))))
    (ms_lf (ms_iload hx hb (by decide +kernel : decode cX0_tipOver 123 = .ok (.iload 7, 2))))))
    (ms_b (ms_lf (ms_iald hx hb hf hA hX (by decide +kernel : decode cX0_tipOver 125 = .ok (.iaload, 1))))
    (ms_b (ms_lf (ms_iast hx hb hf hA (by decide +kernel : decode cX0_tipOver 126 = .ok (.iastore, 1))))
    (ms_lf (ms_goto hx hb (by decide) (by decide +kernel : decode cX0_tipOver 127 = .ok (.goto 22, 3))))))))
    (ms_b (ms_b (ms_b (ms_lf (ms_iload hx hb (by decide +kernel : decode cX0_tipOver 130 = .ok (.iload 6, 2))))
    (ms_lf (ms_if_eq hx hb (by decide) (by decide +kernel : decode cX0_tipOver 132 = .ok (.ifCond .eq 17, 3)))))
    (ms_b (ms_lf (ms_aload_n (k := 1) hx hb rfl (by decide +kernel : decode cX0_tipOver 135 = .ok (.aload_n 1, 1))))
    (ms_b (ms_lf (ms_getf (C := RX7) (T := TX7) (N := 7) hx hb hf hts (fun w h => hAW w (inq_7 w h)) hown hK rfl (by decide) (hts _ (hAW _ qw_573)) rfl (by decide +kernel : decode cX0_tipOver 136 = .ok (.getfield 35, 3))))
    (ms_lf (ms_iload hx hb (by decide +kernel : decode cX0_tipOver 139 = .ok (.iload 7, 2)))))))
    (ms_b (ms_b (ms_lf (ms_aload_n (k := 1) hx hb rfl (by decide +kernel : decode cX0_tipOver 141 = .ok (.aload_n 1, 1))))
    (ms_b (ms_lf (ms_getf (C := RX7) (T := TX7) (N := 7) hx hb hf hts (fun w h => hAW w (inq_7 w h)) hown hK rfl (by decide) (hts _ (hAW _ qw_565)) rfl (by decide +kernel : decode cX0_tipOver 142 = .ok (.getfield 69, 3))))
    (ms_lf (ms_iload hx hb (by decide +kernel : decode cX0_tipOver 145 = .ok (.iload 4, 2))))))
    (ms_b (ms_lf (ms_iald hx hb hf hA hX (by decide +kernel : decode cX0_tipOver 147 = .ok (.iaload, 1))))
    (ms_b (ms_lf (ms_iast hx hb hf hA (by decide +kernel : decode cX0_tipOver 148 = .ok (.iastore, 1))))
    (ms_lf (ms_ret hx hb hr hlk (by decide +kernel : decode cX0_tipOver 149 = .ok (.return_, 1)))))))))))
set_option maxRecDepth 100000 in
set_option maxHeartbeats 8000000 in
/-- TippedCrates$Drays.passMinutes -/
theorem sd_8 (l : Launch) (f : Nat → Nat) (D : va_G) (cA : FieldType → ClassId) (d : Nat) : mm_Ok2 l f D cA d (yX0_passMinutes, cX0_passMinutes, 6, none, mc_8) := by
  intro p e R s m args below meth c C hRf hRl pc
  obtain ⟨hx, hb, hml, hr, hlk, hnm, hown, hts, hEX, hgo, hf⟩ := C
  obtain ⟨hK, hA, hX, hZs, hZc, hZq, hTx, hSR0, hSR1, hAO, hN⟩ := id hEX
  have hAW : ∀ w ∈ mm_AW, w ∈ (Cond.code yX0_passMinutes cX0_passMinutes 6 none :: mm_AW) := fun w h => List.mem_cons_of_mem _ h
  have hown : s.vm.findClass "TippedCrates$Drays" = some m.cls := hown
  show mm_S p l e R s m args below meth c f D mm_cl cA 6 _ pc (mc_8 pc)
  unfold mc_8
  exact (ms_b (ms_b (ms_b (ms_b (ms_lf (ms_iconst hx hb (by decide) (by decide +kernel : decode cX0_passMinutes 0 = .ok (.iconst 0, 1))))
    (ms_b (ms_lf (ms_istore hx hb (by decide : 4 < 6) (by decide +kernel : decode cX0_passMinutes 1 = .ok (.istore 4, 2))))
    (ms_lf (ms_iload hx hb (by decide +kernel : decode cX0_passMinutes 3 = .ok (.iload 4, 2))))))
    (ms_b (ms_lf (ms_iload_n (k := 2) hx hb rfl (by decide +kernel : decode cX0_passMinutes 5 = .ok (.iload_n 2, 1))))
    (ms_b (ms_lf (ms_ic_ge hx hb (by decide) (by decide +kernel : decode cX0_passMinutes 6 = .ok (.if_icmp .ge 45, 3))))
    (ms_lf (ms_iconst hx hb (by decide) (by decide +kernel : decode cX0_passMinutes 9 = .ok (.iconst 0, 1)))))))
    (ms_b (ms_b (ms_lf (ms_istore hx hb (by decide : 5 < 6) (by decide +kernel : decode cX0_passMinutes 10 = .ok (.istore 5, 2))))
    (ms_b (ms_lf (ms_iload hx hb (by decide +kernel : decode cX0_passMinutes 12 = .ok (.iload 5, 2))))
    (ms_lf (ms_aload_n (k := 1) hx hb rfl (by decide +kernel : decode cX0_passMinutes 14 = .ok (.aload_n 1, 1))))))
    (ms_b (ms_b (ms_lf (ms_getf (C := RX7) (T := TX7) (N := 7) hx hb hf hts (fun w h => hAW w (inq_7 w h)) hown hK rfl (by decide) (hts _ (hAW _ qw_579)) rfl (by decide +kernel : decode cX0_passMinutes 15 = .ok (.getfield 108, 3))))
    (ms_lf (ms_ic_ge hx hb (by decide) (by decide +kernel : decode cX0_passMinutes 18 = .ok (.if_icmp .ge 17, 3)))))
    (ms_b (ms_lf (ms_aload_n (k := 0) hx hb rfl (by decide +kernel : decode cX0_passMinutes 21 = .ok (.aload_n 0, 1))))
    (ms_lf (ms_aload_n (k := 1) hx hb rfl (by decide +kernel : decode cX0_passMinutes 22 = .ok (.aload_n 1, 1))))))))
    (ms_b (ms_b (ms_b (ms_lf (ms_iload hx hb (by decide +kernel : decode cX0_passMinutes 23 = .ok (.iload 5, 2))))
    (ms_b (ms_lf (ms_iload_n (k := 3) hx hb rfl (by decide +kernel : decode cX0_passMinutes 25 = .ok (.iload_n 3, 1))))
    (ms_lf (ms_ivV (C := RX0) (T := TX0) (N := 1) hx hb hml hown hts hgo hEX hf hK rfl (mm_GV hAW (mm_GI hAW gi_9) qw_1019 qw_1021 qw_28 qw_126) rfl ⟨rfl, hd_9⟩ (mm_rm hRf hRl (Nat.le_of_ble_eq_true rfl)) (by decide +kernel : decode cX0_passMinutes 26 = .ok (.invokevirtual 111, 3))))))
    (ms_b (ms_b (ms_lf (ms_iinc hx hb (by decide) (by decide : 5 < 6) (by decide +kernel : decode cX0_passMinutes 29 = .ok (.iinc 5 1, 3))))
    (ms_lf (ms_goto hx hb (by decide) (by decide +kernel : decode cX0_passMinutes 32 = .ok (.goto (-20), 3)))))
    (ms_b (ms_lf (ms_aload_n (k := 1) hx hb rfl (by decide +kernel : decode cX0_passMinutes 35 = .ok (.aload_n 1, 1))))
    (ms_lf (ms_dup hx hb (by decide +kernel : decode cX0_passMinutes 36 = .ok (.dup, 1)))))))
    (ms_b (ms_b (ms_lf (ms_getf (C := RX7) (T := TX7) (N := 7) hx hb hf hts (fun w h => hAW w (inq_7 w h)) hown hK rfl (by decide) (hts _ (hAW _ qw_581)) rfl (by decide +kernel : decode cX0_passMinutes 37 = .ok (.getfield 75, 3))))
    (ms_b (ms_lf (ms_iconst hx hb (by decide) (by decide +kernel : decode cX0_passMinutes 40 = .ok (.iconst 1, 1))))
    (ms_lf (ms_iadd hx hb (by decide +kernel : decode cX0_passMinutes 41 = .ok (.iadd, 1))))))
    (ms_b (ms_b (ms_lf (ms_put (C := RX7) (T := TX7) (N := 7) hx hb hf hts (fun w h => hAW w (inq_7 w h)) tyX7 tyX7_ok nmX7 hown hK rfl (by decide) (hts _ (hAW _ qw_581)) rfl rfl rfl (by decide +kernel : decode cX0_passMinutes 42 = .ok (.putfield 75, 3))))
    (ms_lf (ms_iinc hx hb (by decide) (by decide : 4 < 6) (by decide +kernel : decode cX0_passMinutes 45 = .ok (.iinc 4 1, 3)))))
    (ms_b (ms_lf (ms_goto hx hb (by decide) (by decide +kernel : decode cX0_passMinutes 48 = .ok (.goto (-45), 3))))
    (ms_lf (ms_ret hx hb hr hlk (by decide +kernel : decode cX0_passMinutes 51 = .ok (.return_, 1)))))))))
set_option maxRecDepth 100000 in
set_option maxHeartbeats 8000000 in
/-- TippedCrates$Drays.passFor -/
theorem sd_9 (l : Launch) (f : Nat → Nat) (D : va_G) (cA : FieldType → ClassId) (d : Nat) : mm_Ok2 l f D cA d (yX0_passFor, cX0_passFor, 6, none, mc_9) := by
  intro p e R s m args below meth c C hRf hRl pc
  obtain ⟨hx, hb, hml, hr, hlk, hnm, hown, hts, hEX, hgo, hf⟩ := C
  obtain ⟨hK, hA, hX, hZs, hZc, hZq, hTx, hSR0, hSR1, hAO, hN⟩ := id hEX
  have hAW : ∀ w ∈ mm_AW, w ∈ (Cond.code yX0_passFor cX0_passFor 6 none :: mm_AW) := fun w h => List.mem_cons_of_mem _ h
  have hown : s.vm.findClass "TippedCrates$Drays" = some m.cls := hown
  show mm_S p l e R s m args below meth c f D mm_cl cA 6 _ pc (mc_9 pc)
  unfold mc_9
  exact (ms_b (ms_b (ms_b (ms_b (ms_b (ms_lf (ms_bipush hx hb (by decide) (by decide +kernel : decode cX0_passFor 0 = .ok (.bipush 8, 2))))
    (ms_b (ms_lf (ms_aload_n (k := 1) hx hb rfl (by decide +kernel : decode cX0_passFor 2 = .ok (.aload_n 1, 1))))
    (ms_lf (ms_getf (C := RX7) (T := TX7) (N := 7) hx hb hf hts (fun w h => hAW w (inq_7 w h)) hown hK rfl (by decide) (hts _ (hAW _ qw_581)) rfl (by decide +kernel : decode cX0_passFor 3 = .ok (.getfield 75, 3))))))
    (ms_b (ms_lf (ms_imul hx hb (by decide +kernel : decode cX0_passFor 6 = .ok (.imul, 1))))
    (ms_b (ms_lf (ms_iload_n (k := 2) hx hb rfl (by decide +kernel : decode cX0_passFor 7 = .ok (.iload_n 2, 1))))
    (ms_lf (ms_iadd hx hb (by decide +kernel : decode cX0_passFor 8 = .ok (.iadd, 1)))))))
    (ms_b (ms_b (ms_lf (ms_istore hx hb (by decide : 4 < 6) (by decide +kernel : decode cX0_passFor 9 = .ok (.istore 4, 2))))
    (ms_b (ms_lf (ms_iconst hx hb (by decide) (by decide +kernel : decode cX0_passFor 11 = .ok (.iconst 4, 1))))
    (ms_lf (ms_iload_n (k := 3) hx hb rfl (by decide +kernel : decode cX0_passFor 12 = .ok (.iload_n 3, 1))))))
    (ms_b (ms_lf (ms_iload hx hb (by decide +kernel : decode cX0_passFor 13 = .ok (.iload 4, 2))))
    (ms_b (ms_lf (ms_ivS hx hb hml hown hts hgo hEX (mm_GS hAW (mm_GI hAW gi_10) qw_1023 qw_1024 qw_126) rfl hd_10 (mm_rm hRf hRl (Nat.le_of_ble_eq_true rfl)) (by decide +kernel : decode cX0_passFor 15 = .ok (.invokestatic 114, 3))))
    (ms_lf (ms_istore hx hb (by decide : 5 < 6) (by decide +kernel : decode cX0_passFor 18 = .ok (.istore 5, 2))))))))
    (ms_b (ms_b (ms_b (ms_lf (ms_aload_n (k := 0) hx hb rfl (by decide +kernel : decode cX0_passFor 20 = .ok (.aload_n 0, 1))))
    (ms_b (ms_lf (ms_aload_n (k := 1) hx hb rfl (by decide +kernel : decode cX0_passFor 21 = .ok (.aload_n 1, 1))))
    (ms_lf (ms_iload_n (k := 2) hx hb rfl (by decide +kernel : decode cX0_passFor 22 = .ok (.iload_n 2, 1))))))
    (ms_b (ms_lf (ms_iload hx hb (by decide +kernel : decode cX0_passFor 23 = .ok (.iload 5, 2))))
    (ms_b (ms_lf (ms_ivV (C := RX0) (T := TX0) (N := 1) hx hb hml hown hts hgo hEX hf hK rfl (mm_GV hAW (mm_GI hAW gi_1) qw_1030 qw_960 qw_961 qw_126) rfl ⟨rfl, hd_1⟩ (mm_rm hRf hRl (Nat.le_of_ble_eq_true rfl)) (by decide +kernel : decode cX0_passFor 25 = .ok (.invokevirtual 118, 3))))
    (ms_lf (ms_if_ne hx hb (by decide) (by decide +kernel : decode cX0_passFor 28 = .ok (.ifCond .ne 4, 3)))))))
    (ms_b (ms_b (ms_lf (ms_ret hx hb hr hlk (by decide +kernel : decode cX0_passFor 31 = .ok (.return_, 1))))
    (ms_b (ms_lf (ms_aload_n (k := 0) hx hb rfl (by decide +kernel : decode cX0_passFor 32 = .ok (.aload_n 0, 1))))
    (ms_lf (ms_aload_n (k := 1) hx hb rfl (by decide +kernel : decode cX0_passFor 33 = .ok (.aload_n 1, 1))))))
    (ms_b (ms_b (ms_lf (ms_iload_n (k := 2) hx hb rfl (by decide +kernel : decode cX0_passFor 34 = .ok (.iload_n 2, 1))))
    (ms_lf (ms_iload hx hb (by decide +kernel : decode cX0_passFor 35 = .ok (.iload 5, 2)))))
    (ms_b (ms_lf (ms_ivV (C := RX0) (T := TX0) (N := 1) hx hb hml hown hts hgo hEX hf hK rfl (mm_GV hAW (mm_GI hAW gi_7) qw_1031 qw_997 qw_998 qw_126) rfl ⟨rfl, hd_7⟩ (mm_rm hRf hRl (Nat.le_of_ble_eq_true rfl)) (by decide +kernel : decode cX0_passFor 37 = .ok (.invokevirtual 122, 3))))
    (ms_lf (ms_aload_n (k := 0) hx hb rfl (by decide +kernel : decode cX0_passFor 40 = .ok (.aload_n 0, 1)))))))))
    (ms_b (ms_b (ms_b (ms_b (ms_lf (ms_aload_n (k := 1) hx hb rfl (by decide +kernel : decode cX0_passFor 41 = .ok (.aload_n 1, 1))))
    (ms_b (ms_lf (ms_iload_n (k := 2) hx hb rfl (by decide +kernel : decode cX0_passFor 42 = .ok (.iload_n 2, 1))))
    (ms_lf (ms_iload hx hb (by decide +kernel : decode cX0_passFor 43 = .ok (.iload 5, 2))))))
    (ms_b (ms_lf (ms_ivV (C := RX0) (T := TX0) (N := 1) hx hb hml hown hts hgo hEX hf hK rfl (mm_GV hAW (mm_GI hAW gi_1) qw_1030 qw_960 qw_961 qw_126) rfl ⟨rfl, hd_1⟩ (mm_rm hRf hRl (Nat.le_of_ble_eq_true rfl)) (by decide +kernel : decode cX0_passFor 45 = .ok (.invokevirtual 118, 3))))
    (ms_b (ms_lf (ms_if_ne hx hb (by decide) (by decide +kernel : decode cX0_passFor 48 = .ok (.ifCond .ne 4, 3))))
    (ms_lf (ms_ret hx hb hr hlk (by decide +kernel : decode cX0_passFor 51 = .ok (.return_, 1)))))))
    (ms_b (ms_b (ms_lf (ms_aload_n (k := 0) hx hb rfl (by decide +kernel : decode cX0_passFor 52 = .ok (.aload_n 0, 1))))
    (ms_b (ms_lf (ms_aload_n (k := 1) hx hb rfl (by decide +kernel : decode cX0_passFor 53 = .ok (.aload_n 1, 1))))
    (ms_lf (ms_iload_n (k := 2) hx hb rfl (by decide +kernel : decode cX0_passFor 54 = .ok (.iload_n 2, 1))))))
    (ms_b (ms_b (ms_lf (ms_iload hx hb (by decide +kernel : decode cX0_passFor 55 = .ok (.iload 5, 2))))
    (ms_lf (ms_ivV (C := RX0) (T := TX0) (N := 1) hx hb hml hown hts hgo hEX hf hK rfl (mm_GV hAW (mm_GI hAW gi_2) qw_1000 qw_944 qw_945 qw_126) rfl ⟨rfl, hd_2⟩ (mm_rm hRf hRl (Nat.le_of_ble_eq_true rfl)) (by decide +kernel : decode cX0_passFor 57 = .ok (.invokevirtual 90, 3)))))
    (ms_b (ms_lf (ms_bipush hx hb (by decide) (by decide +kernel : decode cX0_passFor 60 = .ok (.bipush 100, 2))))
    (ms_lf (ms_iload_n (k := 3) hx hb rfl (by decide +kernel : decode cX0_passFor 62 = .ok (.iload_n 3, 1))))))))
    (ms_b (ms_b (ms_b (ms_lf (ms_ldc hx hb hown (hts _ (hAW _ qw_1032)) (by decide +kernel : decode cX0_passFor 63 = .ok (.ldc 125, 2))))
    (ms_b (ms_lf (ms_iload hx hb (by decide +kernel : decode cX0_passFor 65 = .ok (.iload 4, 2))))
    (ms_lf (ms_iadd hx hb (by decide +kernel : decode cX0_passFor 67 = .ok (.iadd, 1))))))
    (ms_b (ms_lf (ms_ivS hx hb hml hown hts hgo hEX (mm_GS hAW (mm_GI hAW gi_10) qw_1023 qw_1024 qw_126) rfl hd_10 (mm_rm hRf hRl (Nat.le_of_ble_eq_true rfl)) (by decide +kernel : decode cX0_passFor 68 = .ok (.invokestatic 114, 3))))
    (ms_b (ms_lf (ms_aload_n (k := 0) hx hb rfl (by decide +kernel : decode cX0_passFor 71 = .ok (.aload_n 0, 1))))
    (ms_lf (ms_ivV (C := RX0) (T := TX0) (N := 1) hx hb hml hown hts hgo hEX hf hK rfl (mm_GV hAW (mm_GI hAW gi_5) qw_1033 qw_980 qw_981 qw_126) rfl ⟨rfl, hd_5⟩ (mm_rm hRf hRl (Nat.le_of_ble_eq_true rfl)) (by decide +kernel : decode cX0_passFor 72 = .ok (.invokevirtual 126, 3)))))))
    (ms_b (ms_b (ms_lf (ms_ic_ge hx hb (by decide) (by decide +kernel : decode cX0_passFor 75 = .ok (.if_icmp .ge 11, 3))))
    (ms_b (ms_lf (ms_aload_n (k := 0) hx hb rfl (by decide +kernel : decode cX0_passFor 78 = .ok (.aload_n 0, 1))))
    (ms_lf (ms_aload_n (k := 1) hx hb rfl (by decide +kernel : decode cX0_passFor 79 = .ok (.aload_n 1, 1))))))
    (ms_b (ms_b (ms_lf (ms_iload_n (k := 2) hx hb rfl (by decide +kernel : decode cX0_passFor 80 = .ok (.iload_n 2, 1))))
    (ms_lf (ms_iload hx hb (by decide +kernel : decode cX0_passFor 81 = .ok (.iload 5, 2)))))
    (ms_b (ms_lf (ms_ivV (C := RX0) (T := TX0) (N := 1) hx hb hml hown hts hgo hEX hf hK rfl (mm_GV hAW (mm_GI hAW gi_7) qw_1031 qw_997 qw_998 qw_126) rfl ⟨rfl, hd_7⟩ (mm_rm hRf hRl (Nat.le_of_ble_eq_true rfl)) (by decide +kernel : decode cX0_passFor 83 = .ok (.invokevirtual 122, 3))))
    (ms_lf (ms_ret hx hb hr hlk (by decide +kernel : decode cX0_passFor 86 = .ok (.return_, 1))))))))))
set_option maxRecDepth 100000 in
set_option maxHeartbeats 8000000 in
/-- TippedCrates$Drays.lot -/
theorem sd_10 (l : Launch) (f : Nat → Nat) (D : va_G) (cA : FieldType → ClassId) (d : Nat) : mm_Ok2 l f D cA d (yX0_lot, cX0_lot, 4, (some .int), mc_10) := by
  intro p e R s m args below meth c C hRf hRl pc
  obtain ⟨hx, hb, hml, hr, hlk, hnm, hown, hts, hEX, hgo, hf⟩ := C
  obtain ⟨hK, hA, hX, hZs, hZc, hZq, hTx, hSR0, hSR1, hAO, hN⟩ := id hEX
  have hAW : ∀ w ∈ mm_AW, w ∈ (Cond.code yX0_lot cX0_lot 4 (some .int) :: mm_AW) := fun w h => List.mem_cons_of_mem _ h
  have hown : s.vm.findClass "TippedCrates$Drays" = some m.cls := hown
  show mm_S p l e R s m args below meth c f D mm_cl cA 4 _ pc (mc_10 pc)
  unfold mc_10
  exact (ms_b (ms_b (ms_b (ms_b (ms_lf (ms_iload_n (k := 1) hx hb rfl (by decide +kernel : decode cX0_lot 0 = .ok (.iload_n 1, 1))))
    (ms_lf (ms_sipush hx hb (by decide) (by decide +kernel : decode cX0_lot 1 = .ok (.sipush 215, 3)))))
    (ms_b (ms_lf (ms_ivS hx hb hml hown hts hgo hEX (mm_GS hAW (mm_GI hAW gi_11) qw_1026 qw_1027 qw_126) rfl hd_11 (mm_rm hRf hRl (Nat.le_of_ble_eq_true rfl)) (by decide +kernel : decode cX0_lot 4 = .ok (.invokestatic 129, 3))))
    (ms_lf (ms_iload_n (k := 2) hx hb rfl (by decide +kernel : decode cX0_lot 7 = .ok (.iload_n 2, 1))))))
    (ms_b (ms_b (ms_lf (ms_ivS hx hb hml hown hts hgo hEX (mm_GS hAW (mm_GI hAW gi_11) qw_1026 qw_1027 qw_126) rfl hd_11 (mm_rm hRf hRl (Nat.le_of_ble_eq_true rfl)) (by decide +kernel : decode cX0_lot 8 = .ok (.invokestatic 129, 3))))
    (ms_lf (ms_istore_n (k := 3) hx hb rfl (by decide : 3 < 4) (by decide +kernel : decode cX0_lot 11 = .ok (.istore_n 3, 1)))))
    (ms_b (ms_lf (ms_iload_n (k := 0) hx hb rfl (by decide +kernel : decode cX0_lot 12 = .ok (.iload_n 0, 1))))
    (ms_lf (ms_iconst hx hb (by decide) (by decide +kernel : decode cX0_lot 13 = .ok (.iconst 1, 1)))))))
    (ms_b (ms_b (ms_b (ms_lf (ms_ic_ge hx hb (by decide) (by decide +kernel : decode cX0_lot 14 = .ok (.if_icmp .ge 7, 3))))
    (ms_lf (ms_iconst hx hb (by decide) (by decide +kernel : decode cX0_lot 17 = .ok (.iconst 0, 1)))))
    (ms_b (ms_lf (ms_goto hx hb (by decide) (by decide +kernel : decode cX0_lot 18 = .ok (.goto 8, 3))))
    (ms_lf (ms_iload_n (k := 3) hx hb rfl (by decide +kernel : decode cX0_lot 21 = .ok (.iload_n 3, 1))))))
    (ms_b (ms_b (ms_lf (ms_iconst hx hb (by decide) (by decide +kernel : decode cX0_lot 22 = .ok (.iconst 1, 1))))
    (ms_lf (ms_iushr hx hb (by decide +kernel : decode cX0_lot 23 = .ok (.iushr, 1)))))
    (ms_b (ms_lf (ms_iload_n (k := 0) hx hb rfl (by decide +kernel : decode cX0_lot 24 = .ok (.iload_n 0, 1))))
    (ms_b (ms_lf (ms_irem hx hb (by decide +kernel : decode cX0_lot 25 = .ok (.irem, 1))))
    (ms_lf (ms_iret hx hb hr hlk (by decide +kernel : decode cX0_lot 26 = .ok (.ireturn, 1)))))))))
set_option maxRecDepth 100000 in
set_option maxHeartbeats 8000000 in
/-- TippedCrates$Drays.mix -/
theorem sd_11 (l : Launch) (f : Nat → Nat) (D : va_G) (cA : FieldType → ClassId) (d : Nat) : mm_Ok2 l f D cA d (yX0_mix, cX0_mix, 3, (some .int), mc_11) := by
  intro p e R s m args below meth c C hRf hRl pc
  obtain ⟨hx, hb, hml, hr, hlk, hnm, hown, hts, hEX, hgo, hf⟩ := C
  obtain ⟨hK, hA, hX, hZs, hZc, hZq, hTx, hSR0, hSR1, hAO, hN⟩ := id hEX
  have hAW : ∀ w ∈ mm_AW, w ∈ (Cond.code yX0_mix cX0_mix 3 (some .int) :: mm_AW) := fun w h => List.mem_cons_of_mem _ h
  have hown : s.vm.findClass "TippedCrates$Drays" = some m.cls := hown
  show mm_S p l e R s m args below meth c f D mm_cl cA 3 _ pc (mc_11 pc)
  unfold mc_11
  exact (ms_b (ms_b (ms_b (ms_lf (ms_iload_n (k := 0) hx hb rfl (by decide +kernel : decode cX0_mix 0 = .ok (.iload_n 0, 1))))
    (ms_b (ms_lf (ms_iload_n (k := 1) hx hb rfl (by decide +kernel : decode cX0_mix 1 = .ok (.iload_n 1, 1))))
    (ms_lf (ms_ixor hx hb (by decide +kernel : decode cX0_mix 2 = .ok (.ixor, 1))))))
    (ms_b (ms_b (ms_lf (ms_ldc hx hb hown (hts _ (hAW _ qw_1029)) (by decide +kernel : decode cX0_mix 3 = .ok (.ldc 132, 2))))
    (ms_lf (ms_imul hx hb (by decide +kernel : decode cX0_mix 5 = .ok (.imul, 1)))))
    (ms_b (ms_lf (ms_sipush hx hb (by decide) (by decide +kernel : decode cX0_mix 6 = .ok (.sipush 12345, 3))))
    (ms_lf (ms_iadd hx hb (by decide +kernel : decode cX0_mix 9 = .ok (.iadd, 1)))))))
    (ms_b (ms_b (ms_lf (ms_istore_n (k := 2) hx hb rfl (by decide : 2 < 3) (by decide +kernel : decode cX0_mix 10 = .ok (.istore_n 2, 1))))
    (ms_b (ms_lf (ms_iload_n (k := 2) hx hb rfl (by decide +kernel : decode cX0_mix 11 = .ok (.iload_n 2, 1))))
    (ms_lf (ms_iload_n (k := 2) hx hb rfl (by decide +kernel : decode cX0_mix 12 = .ok (.iload_n 2, 1))))))
    (ms_b (ms_b (ms_lf (ms_bipush hx hb (by decide) (by decide +kernel : decode cX0_mix 13 = .ok (.bipush 15, 2))))
    (ms_lf (ms_iushr hx hb (by decide +kernel : decode cX0_mix 15 = .ok (.iushr, 1)))))
    (ms_b (ms_lf (ms_ixor hx hb (by decide +kernel : decode cX0_mix 16 = .ok (.ixor, 1))))
    (ms_lf (ms_iret hx hb hr hlk (by decide +kernel : decode cX0_mix 17 = .ok (.ireturn, 1))))))))
set_option maxRecDepth 100000 in
set_option maxHeartbeats 8000000 in
/-- TippedCrates$Laws.<init> -/
theorem sd_12 (l : Launch) (f : Nat → Nat) (D : va_G) (cA : FieldType → ClassId) (d : Nat) : mm_Ok2 l f D cA d (yX1_init, cX1_init, 1, none, mc_12) := by
  intro p e R s m args below meth c C hRf hRl pc
  obtain ⟨hx, hb, hml, hr, hlk, hnm, hown, hts, hEX, hgo, hf⟩ := C
  obtain ⟨hK, hA, hX, hZs, hZc, hZq, hTx, hSR0, hSR1, hAO, hN⟩ := id hEX
  have hAW : ∀ w ∈ mm_AW, w ∈ (Cond.code yX1_init cX1_init 1 none :: mm_AW) := fun w h => List.mem_cons_of_mem _ h
  have hown : s.vm.findClass "TippedCrates$Laws" = some m.cls := hown
  show mm_S p l e R s m args below meth c f D mm_cl cA 1 _ pc (mc_12 pc)
  unfold mc_12
  exact (ms_b (ms_b (ms_b (ms_b (ms_lf (ms_aload_n (k := 0) hx hb rfl (by decide +kernel : decode cX1_init 0 = .ok (.aload_n 0, 1))))
    (ms_lf (ms_oi hx hb hml hown (hts _ (hAW _ qw_247)) (hts _ (hAW _ qw_144)) (hts _ (hAW _ qw_145)) (by omega) (by omega) (by decide +kernel : decode cX1_init 1 = .ok (.invokespecial 3, 3)))))
    (ms_b (ms_lf (ms_aload_n (k := 0) hx hb rfl (by decide +kernel : decode cX1_init 4 = .ok (.aload_n 0, 1))))
    (ms_lf (ms_bipush hx hb (by decide) (by decide +kernel : decode cX1_init 5 = .ok (.bipush 9, 2))))))
    (ms_b (ms_b (ms_lf (ms_na (aty := .int) hx hb hf hA rfl (hts _ (hAW _ qw_233)) rfl rfl rfl (by decide) (by decide +kernel : decode cX1_init 7 = .ok (.newarray .int, 2))))
    (ms_lf (ms_putF (C := RX1) (T := TX1) (N := 5) hx hb hf hts (fun w h => hAW w (inq_1 w h)) tyX1 tyX1_ok nmX1 hown hK rfl (by decide) (hts _ (hAW _ qw_248)) rfl rfl hnm rfl rfl (by decide +kernel : decode cX1_init 9 = .ok (.putfield 11, 3)))))
    (ms_b (ms_lf (ms_aload_n (k := 0) hx hb rfl (by decide +kernel : decode cX1_init 12 = .ok (.aload_n 0, 1))))
    (ms_b (ms_lf (ms_sipush hx hb (by decide) (by decide +kernel : decode cX1_init 13 = .ok (.sipush 420, 3))))
    (ms_lf (ms_na (aty := .int) hx hb hf hA rfl (hts _ (hAW _ qw_233)) rfl rfl rfl (by decide) (by decide +kernel : decode cX1_init 16 = .ok (.newarray .int, 2))))))))
    (ms_b (ms_b (ms_b (ms_lf (ms_putF (C := RX1) (T := TX1) (N := 5) hx hb hf hts (fun w h => hAW w (inq_1 w h)) tyX1 tyX1_ok nmX1 hown hK rfl (by decide) (hts _ (hAW _ qw_250)) rfl rfl hnm rfl rfl (by decide +kernel : decode cX1_init 18 = .ok (.putfield 15, 3))))
    (ms_lf (ms_aload_n (k := 0) hx hb rfl (by decide +kernel : decode cX1_init 21 = .ok (.aload_n 0, 1)))))
    (ms_b (ms_lf (ms_iconst hx hb (by decide) (by decide +kernel : decode cX1_init 22 = .ok (.iconst 4, 1))))
    (ms_b (ms_lf (ms_na (aty := .int) hx hb hf hA rfl (hts _ (hAW _ qw_233)) rfl rfl rfl (by decide) (by decide +kernel : decode cX1_init 23 = .ok (.newarray .int, 2))))
    (ms_lf (ms_putF (C := RX1) (T := TX1) (N := 5) hx hb hf hts (fun w h => hAW w (inq_1 w h)) tyX1 tyX1_ok nmX1 hown hK rfl (by decide) (hts _ (hAW _ qw_251)) rfl rfl hnm rfl rfl (by decide +kernel : decode cX1_init 25 = .ok (.putfield 18, 3)))))))
    (ms_b (ms_b (ms_lf (ms_aload_n (k := 0) hx hb rfl (by decide +kernel : decode cX1_init 28 = .ok (.aload_n 0, 1))))
    (ms_lf (ms_bipush hx hb (by decide) (by decide +kernel : decode cX1_init 29 = .ok (.bipush 24, 2)))))
    (ms_b (ms_lf (ms_na (aty := .int) hx hb hf hA rfl (hts _ (hAW _ qw_233)) rfl rfl rfl (by decide) (by decide +kernel : decode cX1_init 31 = .ok (.newarray .int, 2))))
    (ms_b (ms_lf (ms_putF (C := RX1) (T := TX1) (N := 5) hx hb hf hts (fun w h => hAW w (inq_1 w h)) tyX1 tyX1_ok nmX1 hown hK rfl (by decide) (hts _ (hAW _ qw_252)) rfl rfl hnm rfl rfl (by decide +kernel : decode cX1_init 33 = .ok (.putfield 21, 3))))
    (ms_lf (ms_ret hx hb hr hlk (by decide +kernel : decode cX1_init 36 = .ok (.return_, 1)))))))))
set_option maxRecDepth 100000 in
set_option maxHeartbeats 8000000 in
/-- TippedCrates$Laws.clear -/
theorem sd_13 (l : Launch) (f : Nat → Nat) (D : va_G) (cA : FieldType → ClassId) (d : Nat) : mm_Ok2 l f D cA d (yX1_clear, cX1_clear, 2, none, mc_13) := by
  intro p e R s m args below meth c C hRf hRl pc
  obtain ⟨hx, hb, hml, hr, hlk, hnm, hown, hts, hEX, hgo, hf⟩ := C
  obtain ⟨hK, hA, hX, hZs, hZc, hZq, hTx, hSR0, hSR1, hAO, hN⟩ := id hEX
  have hAW : ∀ w ∈ mm_AW, w ∈ (Cond.code yX1_clear cX1_clear 2 none :: mm_AW) := fun w h => List.mem_cons_of_mem _ h
  have hown : s.vm.findClass "TippedCrates$Laws" = some m.cls := hown
  show mm_S p l e R s m args below meth c f D mm_cl cA 2 _ pc (mc_13 pc)
  unfold mc_13
  exact (ms_b (ms_b (ms_b (ms_b (ms_lf (ms_aload_n (k := 0) hx hb rfl (by decide +kernel : decode cX1_clear 0 = .ok (.aload_n 0, 1))))
    (ms_b (ms_lf (ms_iconst hx hb (by decide) (by decide +kernel : decode cX1_clear 1 = .ok (.iconst 0, 1))))
    (ms_lf (ms_put (C := RX1) (T := TX1) (N := 5) hx hb hf hts (fun w h => hAW w (inq_1 w h)) tyX1 tyX1_ok nmX1 hown hK rfl (by decide) (hts _ (hAW _ qw_253)) rfl rfl rfl (by decide +kernel : decode cX1_clear 2 = .ok (.putfield 24, 3))))))
    (ms_b (ms_b (ms_lf (ms_iconst hx hb (by decide) (by decide +kernel : decode cX1_clear 5 = .ok (.iconst 0, 1))))
    (ms_lf (ms_istore_n (k := 1) hx hb rfl (by decide : 1 < 2) (by decide +kernel : decode cX1_clear 6 = .ok (.istore_n 1, 1)))))
    (ms_b (ms_lf (ms_iload_n (k := 1) hx hb rfl (by decide +kernel : decode cX1_clear 7 = .ok (.iload_n 1, 1))))
    (ms_lf (ms_iconst hx hb (by decide) (by decide +kernel : decode cX1_clear 8 = .ok (.iconst 4, 1)))))))
    (ms_b (ms_b (ms_b (ms_lf (ms_ic_ge hx hb (by decide) (by decide +kernel : decode cX1_clear 9 = .ok (.if_icmp .ge 41, 3))))
    (ms_lf (ms_aload_n (k := 0) hx hb rfl (by decide +kernel : decode cX1_clear 12 = .ok (.aload_n 0, 1)))))
    (ms_b (ms_lf (ms_iload_n (k := 1) hx hb rfl (by decide +kernel : decode cX1_clear 13 = .ok (.iload_n 1, 1))))
    (ms_lf (ms_ivV (C := RX1) (T := TX1) (N := 5) hx hb hml hown hts hgo hEX hf hK rfl (mm_GV hAW (mm_GI hAW gi_14) qw_632 qw_633 qw_634 qw_124) rfl ⟨rfl, hd_14⟩ (mm_rm hRf hRl (Nat.le_of_ble_eq_true rfl)) (by decide +kernel : decode cX1_clear 14 = .ok (.invokevirtual 28, 3))))))
    (ms_b (ms_b (ms_lf (ms_aload_n (k := 0) hx hb rfl (by decide +kernel : decode cX1_clear 17 = .ok (.aload_n 0, 1))))
    (ms_lf (ms_iconst hx hb (by decide) (by decide +kernel : decode cX1_clear 18 = .ok (.iconst 0, 1)))))
    (ms_b (ms_lf (ms_iload_n (k := 1) hx hb rfl (by decide +kernel : decode cX1_clear 19 = .ok (.iload_n 1, 1))))
    (ms_lf (ms_if_eq hx hb (by decide) (by decide +kernel : decode cX1_clear 20 = .ok (.ifCond .eq 8, 3))))))))
    (ms_b (ms_b (ms_b (ms_b (ms_lf (ms_iload_n (k := 1) hx hb rfl (by decide +kernel : decode cX1_clear 23 = .ok (.iload_n 1, 1))))
    (ms_lf (ms_iconst hx hb (by decide) (by decide +kernel : decode cX1_clear 24 = .ok (.iconst 2, 1)))))
    (ms_b (ms_lf (ms_ic_ne hx hb (by decide) (by decide +kernel : decode cX1_clear 25 = .ok (.if_icmp .ne 7, 3))))
    (ms_lf (ms_iconst hx hb (by decide) (by decide +kernel : decode cX1_clear 28 = .ok (.iconst 1, 1))))))
    (ms_b (ms_b (ms_lf (ms_goto hx hb (by decide) (by decide +kernel : decode cX1_clear 29 = .ok (.goto 4, 3))))
    (ms_lf (ms_iconst hx hb (by decide) (by decide +kernel : decode cX1_clear 32 = .ok (.iconst 0, 1)))))
    (ms_b (ms_lf (ms_ivV (C := RX1) (T := TX1) (N := 5) hx hb hml hown hts hgo hEX hf hK rfl (mm_GV hAW (mm_GI hAW gi_15) qw_636 qw_637 qw_638 qw_124) rfl ⟨rfl, hd_15⟩ (mm_rm hRf hRl (Nat.le_of_ble_eq_true rfl)) (by decide +kernel : decode cX1_clear 33 = .ok (.invokevirtual 32, 3))))
    (ms_lf (ms_pop hx hb (by decide +kernel : decode cX1_clear 36 = .ok (.pop, 1)))))))
    (ms_b (ms_b (ms_b (ms_lf (ms_aload_n (k := 0) hx hb rfl (by decide +kernel : decode cX1_clear 37 = .ok (.aload_n 0, 1))))
    (ms_lf (ms_iconst hx hb (by decide) (by decide +kernel : decode cX1_clear 38 = .ok (.iconst 2, 1)))))
    (ms_b (ms_lf (ms_iconst hx hb (by decide) (by decide +kernel : decode cX1_clear 39 = .ok (.iconst 0, 1))))
    (ms_lf (ms_ivV (C := RX1) (T := TX1) (N := 5) hx hb hml hown hts hgo hEX hf hK rfl (mm_GV hAW (mm_GI hAW gi_15) qw_636 qw_637 qw_638 qw_124) rfl ⟨rfl, hd_15⟩ (mm_rm hRf hRl (Nat.le_of_ble_eq_true rfl)) (by decide +kernel : decode cX1_clear 40 = .ok (.invokevirtual 32, 3))))))
    (ms_b (ms_b (ms_lf (ms_pop hx hb (by decide +kernel : decode cX1_clear 43 = .ok (.pop, 1))))
    (ms_lf (ms_iinc hx hb (by decide) (by decide : 1 < 2) (by decide +kernel : decode cX1_clear 44 = .ok (.iinc 1 1, 3)))))
    (ms_b (ms_lf (ms_goto hx hb (by decide) (by decide +kernel : decode cX1_clear 47 = .ok (.goto (-40), 3))))
    (ms_lf (ms_ret hx hb hr hlk (by decide +kernel : decode cX1_clear 50 = .ok (.return_, 1)))))))))
set_option maxRecDepth 100000 in
set_option maxHeartbeats 8000000 in
/-- TippedCrates$Laws.begin -/
theorem sd_14 (l : Launch) (f : Nat → Nat) (D : va_G) (cA : FieldType → ClassId) (d : Nat) : mm_Ok2 l f D cA d (yX1_begin, cX1_begin, 2, none, mc_14) := by
  intro p e R s m args below meth c C hRf hRl pc
  obtain ⟨hx, hb, hml, hr, hlk, hnm, hown, hts, hEX, hgo, hf⟩ := C
  obtain ⟨hK, hA, hX, hZs, hZc, hZq, hTx, hSR0, hSR1, hAO, hN⟩ := id hEX
  have hAW : ∀ w ∈ mm_AW, w ∈ (Cond.code yX1_begin cX1_begin 2 none :: mm_AW) := fun w h => List.mem_cons_of_mem _ h
  have hown : s.vm.findClass "TippedCrates$Laws" = some m.cls := hown
  show mm_S p l e R s m args below meth c f D mm_cl cA 2 _ pc (mc_14 pc)
  unfold mc_14
  exact (ms_b (ms_b (ms_lf (ms_aload_n (k := 0) hx hb rfl (by decide +kernel : decode cX1_begin 0 = .ok (.aload_n 0, 1))))
    (ms_b (ms_lf (ms_getf (C := RX1) (T := TX1) (N := 5) hx hb hf hts (fun w h => hAW w (inq_1 w h)) hown hK rfl (by decide) (hts _ (hAW _ qw_251)) rfl (by decide +kernel : decode cX1_begin 1 = .ok (.getfield 18, 3))))
    (ms_lf (ms_iload_n (k := 1) hx hb rfl (by decide +kernel : decode cX1_begin 4 = .ok (.iload_n 1, 1))))))
    (ms_b (ms_b (ms_lf (ms_aload_n (k := 0) hx hb rfl (by decide +kernel : decode cX1_begin 5 = .ok (.aload_n 0, 1))))
    (ms_lf (ms_getf (C := RX1) (T := TX1) (N := 5) hx hb hf hts (fun w h => hAW w (inq_1 w h)) hown hK rfl (by decide) (hts _ (hAW _ qw_253)) rfl (by decide +kernel : decode cX1_begin 6 = .ok (.getfield 24, 3)))))
    (ms_b (ms_lf (ms_iast hx hb hf hA (by decide +kernel : decode cX1_begin 9 = .ok (.iastore, 1))))
    (ms_lf (ms_ret hx hb hr hlk (by decide +kernel : decode cX1_begin 10 = .ok (.return_, 1)))))))
set_option maxRecDepth 100000 in
set_option maxHeartbeats 8000000 in
/-- TippedCrates$Laws.write -/
theorem sd_15 (l : Launch) (f : Nat → Nat) (D : va_G) (cA : FieldType → ClassId) (d : Nat) : mm_Ok2 l f D cA d (yX1_write, cX1_write, 3, (some .int), mc_15) := by
  intro p e R s m args below meth c C hRf hRl pc
  obtain ⟨hx, hb, hml, hr, hlk, hnm, hown, hts, hEX, hgo, hf⟩ := C
  obtain ⟨hK, hA, hX, hZs, hZc, hZq, hTx, hSR0, hSR1, hAO, hN⟩ := id hEX
  have hAW : ∀ w ∈ mm_AW, w ∈ (Cond.code yX1_write cX1_write 3 (some .int) :: mm_AW) := fun w h => List.mem_cons_of_mem _ h
  have hown : s.vm.findClass "TippedCrates$Laws" = some m.cls := hown
  show mm_S p l e R s m args below meth c f D mm_cl cA 3 _ pc (mc_15 pc)
  unfold mc_15
  exact (ms_b (ms_b (ms_b (ms_b (ms_lf (ms_aload_n (k := 0) hx hb rfl (by decide +kernel : decode cX1_write 0 = .ok (.aload_n 0, 1))))
    (ms_b (ms_lf (ms_getf (C := RX1) (T := TX1) (N := 5) hx hb hf hts (fun w h => hAW w (inq_1 w h)) hown hK rfl (by decide) (hts _ (hAW _ qw_253)) rfl (by decide +kernel : decode cX1_write 1 = .ok (.getfield 24, 3))))
    (ms_lf (ms_sipush hx hb (by decide) (by decide +kernel : decode cX1_write 4 = .ok (.sipush 420, 3))))))
    (ms_b (ms_lf (ms_ic_lt hx hb (by decide) (by decide +kernel : decode cX1_write 7 = .ok (.if_icmp .lt 5, 3))))
    (ms_b (ms_lf (ms_iconst hx hb (by decide) (by decide +kernel : decode cX1_write 10 = .ok (.iconst (-1), 1))))
    (ms_lf (ms_iret hx hb hr hlk (by decide +kernel : decode cX1_write 11 = .ok (.ireturn, 1)))))))
    (ms_b (ms_b (ms_lf (ms_aload_n (k := 0) hx hb rfl (by decide +kernel : decode cX1_write 12 = .ok (.aload_n 0, 1))))
    (ms_b (ms_lf (ms_getf (C := RX1) (T := TX1) (N := 5) hx hb hf hts (fun w h => hAW w (inq_1 w h)) hown hK rfl (by decide) (hts _ (hAW _ qw_250)) rfl (by decide +kernel : decode cX1_write 13 = .ok (.getfield 15, 3))))
    (ms_lf (ms_aload_n (k := 0) hx hb rfl (by decide +kernel : decode cX1_write 16 = .ok (.aload_n 0, 1))))))
    (ms_b (ms_b (ms_lf (ms_getf (C := RX1) (T := TX1) (N := 5) hx hb hf hts (fun w h => hAW w (inq_1 w h)) hown hK rfl (by decide) (hts _ (hAW _ qw_253)) rfl (by decide +kernel : decode cX1_write 17 = .ok (.getfield 24, 3))))
    (ms_lf (ms_iload_n (k := 2) hx hb rfl (by decide +kernel : decode cX1_write 20 = .ok (.iload_n 2, 1)))))
    (ms_b (ms_lf (ms_bipush hx hb (by decide) (by decide +kernel : decode cX1_write 21 = .ok (.bipush 8, 2))))
    (ms_lf (ms_imul hx hb (by decide +kernel : decode cX1_write 23 = .ok (.imul, 1))))))))
    (ms_b (ms_b (ms_b (ms_lf (ms_iload_n (k := 1) hx hb rfl (by decide +kernel : decode cX1_write 24 = .ok (.iload_n 1, 1))))
    (ms_b (ms_lf (ms_iadd hx hb (by decide +kernel : decode cX1_write 25 = .ok (.iadd, 1))))
    (ms_lf (ms_iast hx hb hf hA (by decide +kernel : decode cX1_write 26 = .ok (.iastore, 1))))))
    (ms_b (ms_b (ms_lf (ms_aload_n (k := 0) hx hb rfl (by decide +kernel : decode cX1_write 27 = .ok (.aload_n 0, 1))))
    (ms_lf (ms_dup hx hb (by decide +kernel : decode cX1_write 28 = .ok (.dup, 1)))))
    (ms_b (ms_lf (ms_getf (C := RX1) (T := TX1) (N := 5) hx hb hf hts (fun w h => hAW w (inq_1 w h)) hown hK rfl (by decide) (hts _ (hAW _ qw_253)) rfl (by decide +kernel : decode cX1_write 29 = .ok (.getfield 24, 3))))
    (ms_lf (ms_iconst hx hb (by decide) (by decide +kernel : decode cX1_write 32 = .ok (.iconst 1, 1)))))))
    (ms_b (ms_b (ms_lf (ms_iadd hx hb (by decide +kernel : decode cX1_write 33 = .ok (.iadd, 1))))
    (ms_b (ms_lf (ms_put (C := RX1) (T := TX1) (N := 5) hx hb hf hts (fun w h => hAW w (inq_1 w h)) tyX1 tyX1_ok nmX1 hown hK rfl (by decide) (hts _ (hAW _ qw_253)) rfl rfl rfl (by decide +kernel : decode cX1_write 34 = .ok (.putfield 24, 3))))
    (ms_lf (ms_aload_n (k := 0) hx hb rfl (by decide +kernel : decode cX1_write 37 = .ok (.aload_n 0, 1))))))
    (ms_b (ms_b (ms_lf (ms_getf (C := RX1) (T := TX1) (N := 5) hx hb hf hts (fun w h => hAW w (inq_1 w h)) hown hK rfl (by decide) (hts _ (hAW _ qw_253)) rfl (by decide +kernel : decode cX1_write 38 = .ok (.getfield 24, 3))))
    (ms_lf (ms_iconst hx hb (by decide) (by decide +kernel : decode cX1_write 41 = .ok (.iconst 1, 1)))))
    (ms_b (ms_lf (ms_isub hx hb (by decide +kernel : decode cX1_write 42 = .ok (.isub, 1))))
    (ms_lf (ms_iret hx hb hr hlk (by decide +kernel : decode cX1_write 43 = .ok (.ireturn, 1)))))))))
set_option maxRecDepth 100000 in
set_option maxHeartbeats 8000000 in
/-- TippedCrates$Laws.leadHere -/
theorem sd_16 (l : Launch) (f : Nat → Nat) (D : va_G) (cA : FieldType → ClassId) (d : Nat) : mm_Ok2 l f D cA d (yX1_leadHere, cX1_leadHere, 2, none, mc_16) := by
  intro p e R s m args below meth c C hRf hRl pc
  obtain ⟨hx, hb, hml, hr, hlk, hnm, hown, hts, hEX, hgo, hf⟩ := C
  obtain ⟨hK, hA, hX, hZs, hZc, hZq, hTx, hSR0, hSR1, hAO, hN⟩ := id hEX
  have hAW : ∀ w ∈ mm_AW, w ∈ (Cond.code yX1_leadHere cX1_leadHere 2 none :: mm_AW) := fun w h => List.mem_cons_of_mem _ h
  have hown : s.vm.findClass "TippedCrates$Laws" = some m.cls := hown
  show mm_S p l e R s m args below meth c f D mm_cl cA 2 _ pc (mc_16 pc)
  unfold mc_16
  exact (ms_b (ms_b (ms_b (ms_lf (ms_iload_n (k := 1) hx hb rfl (by decide +kernel : decode cX1_leadHere 0 = .ok (.iload_n 1, 1))))
    (ms_b (ms_lf (ms_iconst hx hb (by decide) (by decide +kernel : decode cX1_leadHere 1 = .ok (.iconst (-1), 1))))
    (ms_lf (ms_ic_eq hx hb (by decide) (by decide +kernel : decode cX1_leadHere 2 = .ok (.if_icmp .eq 18, 3))))))
    (ms_b (ms_b (ms_lf (ms_aload_n (k := 0) hx hb rfl (by decide +kernel : decode cX1_leadHere 5 = .ok (.aload_n 0, 1))))
    (ms_lf (ms_getf (C := RX1) (T := TX1) (N := 5) hx hb hf hts (fun w h => hAW w (inq_1 w h)) hown hK rfl (by decide) (hts _ (hAW _ qw_250)) rfl (by decide +kernel : decode cX1_leadHere 6 = .ok (.getfield 15, 3)))))
    (ms_b (ms_lf (ms_iload_n (k := 1) hx hb rfl (by decide +kernel : decode cX1_leadHere 9 = .ok (.iload_n 1, 1))))
    (ms_lf (ms_aload_n (k := 0) hx hb rfl (by decide +kernel : decode cX1_leadHere 10 = .ok (.aload_n 0, 1)))))))
    (ms_b (ms_b (ms_lf (ms_getf (C := RX1) (T := TX1) (N := 5) hx hb hf hts (fun w h => hAW w (inq_1 w h)) hown hK rfl (by decide) (hts _ (hAW _ qw_253)) rfl (by decide +kernel : decode cX1_leadHere 11 = .ok (.getfield 24, 3))))
    (ms_b (ms_lf (ms_bipush hx hb (by decide) (by decide +kernel : decode cX1_leadHere 14 = .ok (.bipush 8, 2))))
    (ms_lf (ms_imul hx hb (by decide +kernel : decode cX1_leadHere 16 = .ok (.imul, 1))))))
    (ms_b (ms_b (ms_lf (ms_iconst hx hb (by decide) (by decide +kernel : decode cX1_leadHere 17 = .ok (.iconst 3, 1))))
    (ms_lf (ms_iadd hx hb (by decide +kernel : decode cX1_leadHere 18 = .ok (.iadd, 1)))))
    (ms_b (ms_lf (ms_iast hx hb hf hA (by decide +kernel : decode cX1_leadHere 19 = .ok (.iastore, 1))))
    (ms_lf (ms_ret hx hb hr hlk (by decide +kernel : decode cX1_leadHere 20 = .ok (.return_, 1))))))))
set_option maxRecDepth 100000 in
set_option maxHeartbeats 8000000 in
/-- TippedCrates$Laws.copyOf -/
theorem sd_17 (l : Launch) (f : Nat → Nat) (D : va_G) (cA : FieldType → ClassId) (d : Nat) : mm_Ok2 l f D cA d (yX1_copyOf, cX1_copyOf, 2, none, mc_17) := by
  intro p e R s m args below meth c C hRf hRl pc
  obtain ⟨hx, hb, hml, hr, hlk, hnm, hown, hts, hEX, hgo, hf⟩ := C
  obtain ⟨hK, hA, hX, hZs, hZc, hZq, hTx, hSR0, hSR1, hAO, hN⟩ := id hEX
  have hAW : ∀ w ∈ mm_AW, w ∈ (Cond.code yX1_copyOf cX1_copyOf 2 none :: mm_AW) := fun w h => List.mem_cons_of_mem _ h
  have hown : s.vm.findClass "TippedCrates$Laws" = some m.cls := hown
  show mm_S p l e R s m args below meth c f D mm_cl cA 2 _ pc (mc_17 pc)
  unfold mc_17
  exact (ms_b (ms_b (ms_b (ms_b (ms_lf (ms_aload_n (k := 1) hx hb rfl (by decide +kernel : decode cX1_copyOf 0 = .ok (.aload_n 1, 1))))
    (ms_lf (ms_getf (C := RX1) (T := TX1) (N := 5) hx hb hf hts (fun w h => hAW w (inq_1 w h)) hown hK rfl (by decide) (hts _ (hAW _ qw_250)) rfl (by decide +kernel : decode cX1_copyOf 1 = .ok (.getfield 15, 3)))))
    (ms_b (ms_lf (ms_iconst hx hb (by decide) (by decide +kernel : decode cX1_copyOf 4 = .ok (.iconst 0, 1))))
    (ms_b (ms_lf (ms_aload_n (k := 0) hx hb rfl (by decide +kernel : decode cX1_copyOf 5 = .ok (.aload_n 0, 1))))
    (ms_lf (ms_getf (C := RX1) (T := TX1) (N := 5) hx hb hf hts (fun w h => hAW w (inq_1 w h)) hown hK rfl (by decide) (hts _ (hAW _ qw_250)) rfl (by decide +kernel : decode cX1_copyOf 6 = .ok (.getfield 15, 3)))))))
    (ms_b (ms_b (ms_lf (ms_iconst hx hb (by decide) (by decide +kernel : decode cX1_copyOf 9 = .ok (.iconst 0, 1))))
    (ms_b (ms_lf (ms_aload_n (k := 1) hx hb rfl (by decide +kernel : decode cX1_copyOf 10 = .ok (.aload_n 1, 1))))
    (ms_lf (ms_getf (C := RX1) (T := TX1) (N := 5) hx hb hf hts (fun w h => hAW w (inq_1 w h)) hown hK rfl (by decide) (hts _ (hAW _ qw_253)) rfl (by decide +kernel : decode cX1_copyOf 11 = .ok (.getfield 24, 3))))))
    (ms_b (ms_lf (ms_ac hx hb hml hf hA hown (hts _ (hAW _ qw_840)) (hts _ (hAW _ qw_408)) (hts _ (hAW _ qw_407)) (hts _ (hAW _ qw_128)) (by omega) (by rw [hRl]; simp [nativeFrameWords]; omega) (by decide +kernel : decode cX1_copyOf 14 = .ok (.invokestatic 36, 3))))
    (ms_b (ms_lf (ms_aload_n (k := 1) hx hb rfl (by decide +kernel : decode cX1_copyOf 17 = .ok (.aload_n 1, 1))))
    (ms_lf (ms_getf (C := RX1) (T := TX1) (N := 5) hx hb hf hts (fun w h => hAW w (inq_1 w h)) hown hK rfl (by decide) (hts _ (hAW _ qw_251)) rfl (by decide +kernel : decode cX1_copyOf 18 = .ok (.getfield 18, 3))))))))
    (ms_b (ms_b (ms_b (ms_lf (ms_iconst hx hb (by decide) (by decide +kernel : decode cX1_copyOf 21 = .ok (.iconst 0, 1))))
    (ms_lf (ms_aload_n (k := 0) hx hb rfl (by decide +kernel : decode cX1_copyOf 22 = .ok (.aload_n 0, 1)))))
    (ms_b (ms_lf (ms_getf (C := RX1) (T := TX1) (N := 5) hx hb hf hts (fun w h => hAW w (inq_1 w h)) hown hK rfl (by decide) (hts _ (hAW _ qw_251)) rfl (by decide +kernel : decode cX1_copyOf 23 = .ok (.getfield 18, 3))))
    (ms_b (ms_lf (ms_iconst hx hb (by decide) (by decide +kernel : decode cX1_copyOf 26 = .ok (.iconst 0, 1))))
    (ms_lf (ms_iconst hx hb (by decide) (by decide +kernel : decode cX1_copyOf 27 = .ok (.iconst 4, 1)))))))
    (ms_b (ms_b (ms_lf (ms_ac hx hb hml hf hA hown (hts _ (hAW _ qw_840)) (hts _ (hAW _ qw_408)) (hts _ (hAW _ qw_407)) (hts _ (hAW _ qw_128)) (by omega) (by rw [hRl]; simp [nativeFrameWords]; omega) (by decide +kernel : decode cX1_copyOf 28 = .ok (.invokestatic 36, 3))))
    (ms_b (ms_lf (ms_aload_n (k := 0) hx hb rfl (by decide +kernel : decode cX1_copyOf 31 = .ok (.aload_n 0, 1))))
    (ms_lf (ms_aload_n (k := 1) hx hb rfl (by decide +kernel : decode cX1_copyOf 32 = .ok (.aload_n 1, 1))))))
    (ms_b (ms_lf (ms_getf (C := RX1) (T := TX1) (N := 5) hx hb hf hts (fun w h => hAW w (inq_1 w h)) hown hK rfl (by decide) (hts _ (hAW _ qw_253)) rfl (by decide +kernel : decode cX1_copyOf 33 = .ok (.getfield 24, 3))))
    (ms_b (ms_lf (ms_put (C := RX1) (T := TX1) (N := 5) hx hb hf hts (fun w h => hAW w (inq_1 w h)) tyX1 tyX1_ok nmX1 hown hK rfl (by decide) (hts _ (hAW _ qw_253)) rfl rfl rfl (by decide +kernel : decode cX1_copyOf 36 = .ok (.putfield 24, 3))))
    (ms_lf (ms_ret hx hb hr hlk (by decide +kernel : decode cX1_copyOf 39 = .ok (.return_, 1)))))))))
set_option maxRecDepth 100000 in
set_option maxHeartbeats 8000000 in
/-- TippedCrates$Laws.answer -/
theorem sd_18 (l : Launch) (f : Nat → Nat) (D : va_G) (cA : FieldType → ClassId) (d : Nat) : mm_Ok2 l f D cA d (yX1_answer, cX1_answer, 9, (some .int), mc_18) := by
  intro p e R s m args below meth c C hRf hRl pc
  obtain ⟨hx, hb, hml, hr, hlk, hnm, hown, hts, hEX, hgo, hf⟩ := C
  obtain ⟨hK, hA, hX, hZs, hZc, hZq, hTx, hSR0, hSR1, hAO, hN⟩ := id hEX
  have hAW : ∀ w ∈ mm_AW, w ∈ (Cond.code yX1_answer cX1_answer 9 (some .int) :: mm_AW) := fun w h => List.mem_cons_of_mem _ h
  have hown : s.vm.findClass "TippedCrates$Laws" = some m.cls := hown
  show mm_S p l e R s m args below meth c f D mm_cl cA 9 _ pc (mc_18 pc)
  unfold mc_18
  exact (ms_b (ms_b (ms_b (ms_b (ms_b (ms_b (ms_b (ms_lf (ms_aload_n (k := 0) hx hb rfl (by decide +kernel : decode cX1_answer 0 = .ok (.aload_n 0, 1))))
    (ms_lf (ms_getf (C := RX1) (T := TX1) (N := 5) hx hb hf hts (fun w h => hAW w (inq_1 w h)) hown hK rfl (by decide) (hts _ (hAW _ qw_251)) rfl (by decide +kernel : decode cX1_answer 1 = .ok (.getfield 18, 3)))))
    (ms_b (ms_lf (ms_iload_n (k := 1) hx hb rfl (by decide +kernel : decode cX1_answer 4 = .ok (.iload_n 1, 1))))
    (ms_lf (ms_iald hx hb hf hA hX (by decide +kernel : decode cX1_answer 5 = .ok (.iaload, 1))))))
    (ms_b (ms_b (ms_lf (ms_istore_n (k := 2) hx hb rfl (by decide : 2 < 9) (by decide +kernel : decode cX1_answer 6 = .ok (.istore_n 2, 1))))
    (ms_lf (ms_iconst hx hb (by decide) (by decide +kernel : decode cX1_answer 7 = .ok (.iconst 0, 1)))))
    (ms_b (ms_lf (ms_istore_n (k := 3) hx hb rfl (by decide : 3 < 9) (by decide +kernel : decode cX1_answer 8 = .ok (.istore_n 3, 1))))
    (ms_lf (ms_iconst hx hb (by decide) (by decide +kernel : decode cX1_answer 9 = .ok (.iconst 0, 1)))))))
    (ms_b (ms_b (ms_b (ms_lf (ms_istore hx hb (by decide : 4 < 9) (by decide +kernel : decode cX1_answer 10 = .ok (.istore 4, 2))))
    (ms_lf (ms_iload hx hb (by decide +kernel : decode cX1_answer 12 = .ok (.iload 4, 2)))))
    (ms_b (ms_lf (ms_aload_n (k := 0) hx hb rfl (by decide +kernel : decode cX1_answer 14 = .ok (.aload_n 0, 1))))
    (ms_lf (ms_getf (C := RX1) (T := TX1) (N := 5) hx hb hf hts (fun w h => hAW w (inq_1 w h)) hown hK rfl (by decide) (hts _ (hAW _ qw_253)) rfl (by decide +kernel : decode cX1_answer 15 = .ok (.getfield 24, 3))))))
    (ms_b (ms_b (ms_lf (ms_ic_ge hx hb (by decide) (by decide +kernel : decode cX1_answer 18 = .ok (.if_icmp .ge 232, 3))))
    (ms_lf (ms_iload_n (k := 2) hx hb rfl (by decide +kernel : decode cX1_answer 21 = .ok (.iload_n 2, 1)))))
    (ms_b (ms_lf (ms_aload_n (k := 0) hx hb rfl (by decide +kernel : decode cX1_answer 22 = .ok (.aload_n 0, 1))))
    (ms_b (ms_lf (ms_getf (C := RX1) (T := TX1) (N := 5) hx hb hf hts (fun w h => hAW w (inq_1 w h)) hown hK rfl (by decide) (hts _ (hAW _ qw_253)) rfl (by decide +kernel : decode cX1_answer 23 = .ok (.getfield 24, 3))))
    (ms_lf (ms_ic_ge hx hb (by decide) (by decide +kernel : decode cX1_answer 26 = .ok (.if_icmp .ge 224, 3)))))))))
    (ms_b (ms_b (ms_b (ms_b (ms_lf (ms_aload_n (k := 0) hx hb rfl (by decide +kernel : decode cX1_answer 29 = .ok (.aload_n 0, 1))))
    (ms_lf (ms_getf (C := RX1) (T := TX1) (N := 5) hx hb hf hts (fun w h => hAW w (inq_1 w h)) hown hK rfl (by decide) (hts _ (hAW _ qw_250)) rfl (by decide +kernel : decode cX1_answer 30 = .ok (.getfield 15, 3)))))
    (ms_b (ms_lf (ms_iload_n (k := 2) hx hb rfl (by decide +kernel : decode cX1_answer 33 = .ok (.iload_n 2, 1))))
    (ms_lf (ms_iald hx hb hf hA hX (by decide +kernel : decode cX1_answer 34 = .ok (.iaload, 1))))))
    (ms_b (ms_b (ms_lf (ms_bipush hx hb (by decide) (by decide +kernel : decode cX1_answer 35 = .ok (.bipush 8, 2))))
    (ms_lf (ms_irem hx hb (by decide +kernel : decode cX1_answer 37 = .ok (.irem, 1)))))
    (ms_b (ms_lf (ms_istore hx hb (by decide : 5 < 9) (by decide +kernel : decode cX1_answer 38 = .ok (.istore 5, 2))))
    (ms_lf (ms_aload_n (k := 0) hx hb rfl (by decide +kernel : decode cX1_answer 40 = .ok (.aload_n 0, 1)))))))
    (ms_b (ms_b (ms_b (ms_lf (ms_getf (C := RX1) (T := TX1) (N := 5) hx hb hf hts (fun w h => hAW w (inq_1 w h)) hown hK rfl (by decide) (hts _ (hAW _ qw_250)) rfl (by decide +kernel : decode cX1_answer 41 = .ok (.getfield 15, 3))))
    (ms_lf (ms_iload_n (k := 2) hx hb rfl (by decide +kernel : decode cX1_answer 44 = .ok (.iload_n 2, 1)))))
    (ms_b (ms_lf (ms_iald hx hb hf hA hX (by decide +kernel : decode cX1_answer 45 = .ok (.iaload, 1))))
    (ms_lf (ms_bipush hx hb (by decide) (by decide +kernel : decode cX1_answer 46 = .ok (.bipush 8, 2))))))
    (ms_b (ms_b (ms_lf (ms_idiv hx hb (by decide +kernel : decode cX1_answer 48 = .ok (.idiv, 1))))
    (ms_lf (ms_istore hx hb (by decide : 6 < 9) (by decide +kernel : decode cX1_answer 49 = .ok (.istore 6, 2)))))
    (ms_b (ms_lf (ms_iinc hx hb (by decide) (by decide : 2 < 9) (by decide +kernel : decode cX1_answer 51 = .ok (.iinc 2 1, 3))))
    (ms_b (ms_lf (ms_iload hx hb (by decide +kernel : decode cX1_answer 54 = .ok (.iload 5, 2))))
    (ms_lf (ms_iconst hx hb (by decide) (by decide +kernel : decode cX1_answer 56 = .ok (.iconst 2, 1))))))))))
    (ms_b (ms_b (ms_b (ms_b (ms_b (ms_lf (ms_ic_ne hx hb (by decide) (by decide +kernel : decode cX1_answer 57 = .ok (.if_icmp .ne 20, 3))))
    (ms_lf (ms_iload_n (k := 3) hx hb rfl (by decide +kernel : decode cX1_answer 60 = .ok (.iload_n 3, 1)))))
    (ms_b (ms_lf (ms_if_le hx hb (by decide) (by decide +kernel : decode cX1_answer 61 = .ok (.ifCond .le 14, 3))))
    (ms_lf (ms_aload_n (k := 0) hx hb rfl (by decide +kernel : decode cX1_answer 64 = .ok (.aload_n 0, 1))))))
    (ms_b (ms_b (ms_lf (ms_getf (C := RX1) (T := TX1) (N := 5) hx hb hf hts (fun w h => hAW w (inq_1 w h)) hown hK rfl (by decide) (hts _ (hAW _ qw_252)) rfl (by decide +kernel : decode cX1_answer 65 = .ok (.getfield 21, 3))))
    (ms_lf (ms_iload_n (k := 3) hx hb rfl (by decide +kernel : decode cX1_answer 68 = .ok (.iload_n 3, 1)))))
    (ms_b (ms_lf (ms_iconst hx hb (by decide) (by decide +kernel : decode cX1_answer 69 = .ok (.iconst 1, 1))))
    (ms_lf (ms_isub hx hb (by decide +kernel : decode cX1_answer 70 = .ok (.isub, 1)))))))
    (ms_b (ms_b (ms_b (ms_lf (ms_iald hx hb hf hA hX (by decide +kernel : decode cX1_answer 71 = .ok (.iaload, 1))))
    (ms_lf (ms_goto hx hb (by decide) (by decide +kernel : decode cX1_answer 72 = .ok (.goto 4, 3)))))
    (ms_b (ms_lf (ms_iconst hx hb (by decide) (by decide +kernel : decode cX1_answer 75 = .ok (.iconst 0, 1))))
    (ms_lf (ms_iret hx hb hr hlk (by decide +kernel : decode cX1_answer 76 = .ok (.ireturn, 1))))))
    (ms_b (ms_b (ms_lf (ms_iload hx hb (by decide +kernel : decode cX1_answer 77 = .ok (.iload 5, 2))))
    (ms_lf (ms_iconst hx hb (by decide) (by decide +kernel : decode cX1_answer 79 = .ok (.iconst 1, 1)))))
    (ms_b (ms_lf (ms_ic_gt hx hb (by decide) (by decide +kernel : decode cX1_answer 80 = .ok (.if_icmp .gt 40, 3))))
    (ms_b (ms_lf (ms_iload_n (k := 3) hx hb rfl (by decide +kernel : decode cX1_answer 83 = .ok (.iload_n 3, 1))))
    (ms_lf (ms_bipush hx hb (by decide) (by decide +kernel : decode cX1_answer 84 = .ok (.bipush 24, 2)))))))))
    (ms_b (ms_b (ms_b (ms_b (ms_lf (ms_ic_lt hx hb (by decide) (by decide +kernel : decode cX1_answer 86 = .ok (.if_icmp .lt 5, 3))))
    (ms_lf (ms_iconst hx hb (by decide) (by decide +kernel : decode cX1_answer 89 = .ok (.iconst 0, 1)))))
    (ms_b (ms_lf (ms_iret hx hb hr hlk (by decide +kernel : decode cX1_answer 90 = .ok (.ireturn, 1))))
    (ms_lf (ms_aload_n (k := 0) hx hb rfl (by decide +kernel : decode cX1_answer 91 = .ok (.aload_n 0, 1))))))
    (ms_b (ms_b (ms_lf (ms_getf (C := RX1) (T := TX1) (N := 5) hx hb hf hts (fun w h => hAW w (inq_1 w h)) hown hK rfl (by decide) (hts _ (hAW _ qw_252)) rfl (by decide +kernel : decode cX1_answer 92 = .ok (.getfield 21, 3))))
    (ms_lf (ms_iload_n (k := 3) hx hb rfl (by decide +kernel : decode cX1_answer 95 = .ok (.iload_n 3, 1)))))
    (ms_b (ms_lf (ms_iload hx hb (by decide +kernel : decode cX1_answer 96 = .ok (.iload 5, 2))))
    (ms_b (ms_lf (ms_if_ne hx hb (by decide) (by decide +kernel : decode cX1_answer 98 = .ok (.ifCond .ne 8, 3))))
    (ms_lf (ms_iload hx hb (by decide +kernel : decode cX1_answer 101 = .ok (.iload 6, 2))))))))
    (ms_b (ms_b (ms_b (ms_lf (ms_goto hx hb (by decide) (by decide +kernel : decode cX1_answer 103 = .ok (.goto 10, 3))))
    (ms_lf (ms_aload_n (k := 0) hx hb rfl (by decide +kernel : decode cX1_answer 106 = .ok (.aload_n 0, 1)))))
    (ms_b (ms_lf (ms_getf (C := RX1) (T := TX1) (N := 5) hx hb hf hts (fun w h => hAW w (inq_1 w h)) hown hK rfl (by decide) (hts _ (hAW _ qw_248)) rfl (by decide +kernel : decode cX1_answer 107 = .ok (.getfield 11, 3))))
    (ms_lf (ms_iload hx hb (by decide +kernel : decode cX1_answer 110 = .ok (.iload 6, 2))))))
    (ms_b (ms_b (ms_lf (ms_iald hx hb hf hA hX (by decide +kernel : decode cX1_answer 112 = .ok (.iaload, 1))))
    (ms_lf (ms_iast hx hb hf hA (by decide +kernel : decode cX1_answer 113 = .ok (.iastore, 1)))))
    (ms_b (ms_lf (ms_iinc hx hb (by decide) (by decide : 3 < 9) (by decide +kernel : decode cX1_answer 114 = .ok (.iinc 3 1, 3))))
    (ms_b (ms_lf (ms_goto hx hb (by decide) (by decide +kernel : decode cX1_answer 117 = .ok (.goto 127, 3))))
    (ms_lf (ms_iload_n (k := 3) hx hb rfl (by decide +kernel : decode cX1_answer 120 = .ok (.iload_n 3, 1)))))))))))
    (ms_b (ms_b (ms_b (ms_b (ms_b (ms_b (ms_lf (ms_iconst hx hb (by decide) (by decide +kernel : decode cX1_answer 121 = .ok (.iconst 2, 1))))
    (ms_lf (ms_ic_ge hx hb (by decide) (by decide +kernel : decode cX1_answer 122 = .ok (.if_icmp .ge 5, 3)))))
    (ms_b (ms_lf (ms_iconst hx hb (by decide) (by decide +kernel : decode cX1_answer 125 = .ok (.iconst 0, 1))))
    (ms_lf (ms_iret hx hb hr hlk (by decide +kernel : decode cX1_answer 126 = .ok (.ireturn, 1))))))
    (ms_b (ms_b (ms_lf (ms_iinc hx hb (by decide) (by decide : 3 < 9) (by decide +kernel : decode cX1_answer 127 = .ok (.iinc 3 (-1), 3))))
    (ms_lf (ms_aload_n (k := 0) hx hb rfl (by decide +kernel : decode cX1_answer 130 = .ok (.aload_n 0, 1)))))
    (ms_b (ms_lf (ms_getf (C := RX1) (T := TX1) (N := 5) hx hb hf hts (fun w h => hAW w (inq_1 w h)) hown hK rfl (by decide) (hts _ (hAW _ qw_252)) rfl (by decide +kernel : decode cX1_answer 131 = .ok (.getfield 21, 3))))
    (ms_lf (ms_iload_n (k := 3) hx hb rfl (by decide +kernel : decode cX1_answer 134 = .ok (.iload_n 3, 1)))))))
    (ms_b (ms_b (ms_b (ms_lf (ms_iconst hx hb (by decide) (by decide +kernel : decode cX1_answer 135 = .ok (.iconst 1, 1))))
    (ms_lf (ms_isub hx hb (by decide +kernel : decode cX1_answer 136 = .ok (.isub, 1)))))
    (ms_b (ms_lf (ms_iald hx hb hf hA hX (by decide +kernel : decode cX1_answer 137 = .ok (.iaload, 1))))
    (ms_lf (ms_istore hx hb (by decide : 7 < 9) (by decide +kernel : decode cX1_answer 138 = .ok (.istore 7, 2))))))
    (ms_b (ms_b (ms_lf (ms_aload_n (k := 0) hx hb rfl (by decide +kernel : decode cX1_answer 140 = .ok (.aload_n 0, 1))))
    (ms_lf (ms_getf (C := RX1) (T := TX1) (N := 5) hx hb hf hts (fun w h => hAW w (inq_1 w h)) hown hK rfl (by decide) (hts _ (hAW _ qw_252)) rfl (by decide +kernel : decode cX1_answer 141 = .ok (.getfield 21, 3)))))
    (ms_b (ms_lf (ms_iload_n (k := 3) hx hb rfl (by decide +kernel : decode cX1_answer 144 = .ok (.iload_n 3, 1))))
    (ms_b (ms_lf (ms_iald hx hb hf hA hX (by decide +kernel : decode cX1_answer 145 = .ok (.iaload, 1))))
    (ms_lf (ms_istore hx hb (by decide : 8 < 9) (by decide +kernel : decode cX1_answer 146 = .ok (.istore 8, 2)))))))))
    (ms_b (ms_b (ms_b (ms_b (ms_lf (ms_iload hx hb (by decide +kernel : decode cX1_answer 148 = .ok (.iload 5, 2))))
    (ms_lf (ms_iconst hx hb (by decide) (by decide +kernel : decode cX1_answer 150 = .ok (.iconst 3, 1)))))
    (ms_b (ms_lf (ms_ic_ne hx hb (by decide) (by decide +kernel : decode cX1_answer 151 = .ok (.if_icmp .ne 23, 3))))
    (ms_lf (ms_iinc hx hb (by decide) (by decide : 3 < 9) (by decide +kernel : decode cX1_answer 154 = .ok (.iinc 3 (-1), 3))))))
    (ms_b (ms_b (ms_lf (ms_iload hx hb (by decide +kernel : decode cX1_answer 157 = .ok (.iload 7, 2))))
    (ms_lf (ms_iload hx hb (by decide +kernel : decode cX1_answer 159 = .ok (.iload 8, 2)))))
    (ms_b (ms_lf (ms_ic_ge hx hb (by decide) (by decide +kernel : decode cX1_answer 161 = .ok (.if_icmp .ge 7, 3))))
    (ms_b (ms_lf (ms_iload_n (k := 2) hx hb rfl (by decide +kernel : decode cX1_answer 164 = .ok (.iload_n 2, 1))))
    (ms_lf (ms_goto hx hb (by decide) (by decide +kernel : decode cX1_answer 165 = .ok (.goto 5, 3))))))))
    (ms_b (ms_b (ms_b (ms_lf (ms_iload hx hb (by decide +kernel : decode cX1_answer 168 = .ok (.iload 6, 2))))
    (ms_lf (ms_istore_n (k := 2) hx hb rfl (by decide : 2 < 9) (by decide +kernel : decode cX1_answer 170 = .ok (.istore_n 2, 1)))))
    (ms_b (ms_lf (ms_goto hx hb (by decide) (by decide +kernel : decode cX1_answer 171 = .ok (.goto 73, 3))))
    (ms_lf (ms_iload hx hb (by decide +kernel : decode cX1_answer 174 = .ok (.iload 5, 2))))))
    (ms_b (ms_b (ms_lf (ms_bipush hx hb (by decide) (by decide +kernel : decode cX1_answer 176 = .ok (.bipush 7, 2))))
    (ms_lf (ms_ic_ne hx hb (by decide) (by decide +kernel : decode cX1_answer 178 = .ok (.if_icmp .ne 10, 3)))))
    (ms_b (ms_lf (ms_iload hx hb (by decide +kernel : decode cX1_answer 181 = .ok (.iload 8, 2))))
    (ms_b (ms_lf (ms_if_ne hx hb (by decide) (by decide +kernel : decode cX1_answer 183 = .ok (.ifCond .ne 5, 3))))
    (ms_lf (ms_iconst hx hb (by decide) (by decide +kernel : decode cX1_answer 186 = .ok (.iconst 0, 1))))))))))
    (ms_b (ms_b (ms_b (ms_b (ms_b (ms_lf (ms_iret hx hb hr hlk (by decide +kernel : decode cX1_answer 187 = .ok (.ireturn, 1))))
    (ms_lf (ms_aload_n (k := 0) hx hb rfl (by decide +kernel : decode cX1_answer 188 = .ok (.aload_n 0, 1)))))
    (ms_b (ms_lf (ms_getf (C := RX1) (T := TX1) (N := 5) hx hb hf hts (fun w h => hAW w (inq_1 w h)) hown hK rfl (by decide) (hts _ (hAW _ qw_252)) rfl (by decide +kernel : decode cX1_answer 189 = .ok (.getfield 21, 3))))
    (ms_lf (ms_iload_n (k := 3) hx hb rfl (by decide +kernel : decode cX1_answer 192 = .ok (.iload_n 3, 1))))))
    (ms_b (ms_b (ms_lf (ms_iconst hx hb (by decide) (by decide +kernel : decode cX1_answer 193 = .ok (.iconst 1, 1))))
    (ms_lf (ms_isub hx hb (by decide +kernel : decode cX1_answer 194 = .ok (.isub, 1)))))
    (ms_b (ms_lf (ms_iload hx hb (by decide +kernel : decode cX1_answer 195 = .ok (.iload 5, 2))))
    (ms_lf (ms_iconst hx hb (by decide) (by decide +kernel : decode cX1_answer 197 = .ok (.iconst 4, 1)))))))
    (ms_b (ms_b (ms_b (ms_lf (ms_ic_ne hx hb (by decide) (by decide +kernel : decode cX1_answer 198 = .ok (.if_icmp .ne 11, 3))))
    (ms_lf (ms_iload hx hb (by decide +kernel : decode cX1_answer 201 = .ok (.iload 7, 2)))))
    (ms_b (ms_lf (ms_iload hx hb (by decide +kernel : decode cX1_answer 203 = .ok (.iload 8, 2))))
    (ms_lf (ms_iadd hx hb (by decide +kernel : decode cX1_answer 205 = .ok (.iadd, 1))))))
    (ms_b (ms_b (ms_lf (ms_goto hx hb (by decide) (by decide +kernel : decode cX1_answer 206 = .ok (.goto 37, 3))))
    (ms_lf (ms_iload hx hb (by decide +kernel : decode cX1_answer 209 = .ok (.iload 5, 2)))))
    (ms_b (ms_lf (ms_iconst hx hb (by decide) (by decide +kernel : decode cX1_answer 211 = .ok (.iconst 5, 1))))
    (ms_b (ms_lf (ms_ic_ne hx hb (by decide) (by decide +kernel : decode cX1_answer 212 = .ok (.if_icmp .ne 11, 3))))
    (ms_lf (ms_iload hx hb (by decide +kernel : decode cX1_answer 215 = .ok (.iload 7, 2)))))))))
    (ms_b (ms_b (ms_b (ms_b (ms_lf (ms_iload hx hb (by decide +kernel : decode cX1_answer 217 = .ok (.iload 8, 2))))
    (ms_lf (ms_isub hx hb (by decide +kernel : decode cX1_answer 219 = .ok (.isub, 1)))))
    (ms_b (ms_lf (ms_goto hx hb (by decide) (by decide +kernel : decode cX1_answer 220 = .ok (.goto 23, 3))))
    (ms_lf (ms_iload hx hb (by decide +kernel : decode cX1_answer 223 = .ok (.iload 5, 2))))))
    (ms_b (ms_b (ms_lf (ms_bipush hx hb (by decide) (by decide +kernel : decode cX1_answer 225 = .ok (.bipush 6, 2))))
    (ms_lf (ms_ic_ne hx hb (by decide) (by decide +kernel : decode cX1_answer 227 = .ok (.if_icmp .ne 11, 3)))))
    (ms_b (ms_lf (ms_iload hx hb (by decide +kernel : decode cX1_answer 230 = .ok (.iload 7, 2))))
    (ms_b (ms_lf (ms_iload hx hb (by decide +kernel : decode cX1_answer 232 = .ok (.iload 8, 2))))
    (ms_lf (ms_imul hx hb (by decide +kernel : decode cX1_answer 234 = .ok (.imul, 1))))))))
    (ms_b (ms_b (ms_b (ms_lf (ms_goto hx hb (by decide) (by decide +kernel : decode cX1_answer 235 = .ok (.goto 8, 3))))
    (ms_lf (ms_iload hx hb (by decide +kernel : decode cX1_answer 238 = .ok (.iload 7, 2)))))
    (ms_b (ms_lf (ms_iload hx hb (by decide +kernel : decode cX1_answer 240 = .ok (.iload 8, 2))))
    (ms_lf (ms_idiv hx hb (by decide +kernel : decode cX1_answer 242 = .ok (.idiv, 1))))))
    (ms_b (ms_b (ms_lf (ms_iast hx hb hf hA (by decide +kernel : decode cX1_answer 243 = .ok (.iastore, 1))))
    (ms_lf (ms_iinc hx hb (by decide) (by decide : 4 < 9) (by decide +kernel : decode cX1_answer 244 = .ok (.iinc 4 1, 3)))))
    (ms_b (ms_lf (ms_goto hx hb (by decide) (by decide +kernel : decode cX1_answer 247 = .ok (.goto (-235), 3))))
    (ms_b (ms_lf (ms_iconst hx hb (by decide) (by decide +kernel : decode cX1_answer 250 = .ok (.iconst 0, 1))))
    (ms_lf (ms_iret hx hb hr hlk (by decide +kernel : decode cX1_answer 251 = .ok (.ireturn, 1))))))))))))
set_option maxRecDepth 100000 in
set_option maxHeartbeats 8000000 in
/-- TippedCrates$Past.<init> -/
theorem sd_19 (l : Launch) (f : Nat → Nat) (D : va_G) (cA : FieldType → ClassId) (d : Nat) : mm_Ok2 l f D cA d (yX2_init, cX2_init, 2, none, mc_19) := by
  intro p e R s m args below meth c C hRf hRl pc
  obtain ⟨hx, hb, hml, hr, hlk, hnm, hown, hts, hEX, hgo, hf⟩ := C
  obtain ⟨hK, hA, hX, hZs, hZc, hZq, hTx, hSR0, hSR1, hAO, hN⟩ := id hEX
  have hAW : ∀ w ∈ mm_AW, w ∈ (Cond.code yX2_init cX2_init 2 none :: mm_AW) := fun w h => List.mem_cons_of_mem _ h
  have hown : s.vm.findClass "TippedCrates$Past" = some m.cls := hown
  show mm_S p l e R s m args below meth c f D mm_cl cA 2 _ pc (mc_19 pc)
  unfold mc_19
  exact (ms_b (ms_b (ms_b (ms_b (ms_b (ms_lf (ms_aload_n (k := 0) hx hb rfl (by decide +kernel : decode cX2_init 0 = .ok (.aload_n 0, 1))))
    (ms_lf (ms_oi hx hb hml hown (hts _ (hAW _ qw_556)) (hts _ (hAW _ qw_144)) (hts _ (hAW _ qw_145)) (by omega) (by omega) (by decide +kernel : decode cX2_init 1 = .ok (.invokespecial 3, 3)))))
    (ms_b (ms_lf (ms_aload_n (k := 0) hx hb rfl (by decide +kernel : decode cX2_init 4 = .ok (.aload_n 0, 1))))
    (ms_b (ms_lf (ms_bipush hx hb (by decide) (by decide +kernel : decode cX2_init 5 = .ok (.bipush 40, 2))))
    (ms_lf (ms_naq hx hb hf hA hown (hts _ (hAW _ qw_557)) hAO rfl (by decide +kernel : decode cX2_init 7 = .ok (.anewarray 9, 3)))))))
    (ms_b (ms_b (ms_lf (ms_putF (C := RX2) (T := TX2) (N := 5) hx hb hf hts (fun w h => hAW w (inq_2 w h)) tyX2 tyX2_ok nmX2 hown hK rfl (by decide) (hts _ (hAW _ qw_603)) rfl rfl hnm rfl rfl (by decide +kernel : decode cX2_init 10 = .ok (.putfield 11, 3))))
    (ms_lf (ms_aload_n (k := 0) hx hb rfl (by decide +kernel : decode cX2_init 13 = .ok (.aload_n 0, 1)))))
    (ms_b (ms_lf (ms_iconst hx hb (by decide) (by decide +kernel : decode cX2_init 14 = .ok (.iconst 3, 1))))
    (ms_b (ms_lf (ms_naq hx hb hf hA hown (hts _ (hAW _ qw_557)) hAO rfl (by decide +kernel : decode cX2_init 15 = .ok (.anewarray 9, 3))))
    (ms_lf (ms_putF (C := RX2) (T := TX2) (N := 5) hx hb hf hts (fun w h => hAW w (inq_2 w h)) tyX2 tyX2_ok nmX2 hown hK rfl (by decide) (hts _ (hAW _ qw_604)) rfl rfl hnm rfl rfl (by decide +kernel : decode cX2_init 18 = .ok (.putfield 17, 3))))))))
    (ms_b (ms_b (ms_b (ms_lf (ms_aload_n (k := 0) hx hb rfl (by decide +kernel : decode cX2_init 21 = .ok (.aload_n 0, 1))))
    (ms_lf (ms_iconst hx hb (by decide) (by decide +kernel : decode cX2_init 22 = .ok (.iconst 3, 1)))))
    (ms_b (ms_lf (ms_na (aty := .boolean) hx hb hf hA rfl (hts _ (hAW _ qw_550)) rfl rfl rfl (by decide) (by decide +kernel : decode cX2_init 23 = .ok (.newarray .boolean, 2))))
    (ms_b (ms_lf (ms_putF (C := RX2) (T := TX2) (N := 5) hx hb hf hts (fun w h => hAW w (inq_2 w h)) tyX2 tyX2_ok nmX2 hown hK rfl (by decide) (hts _ (hAW _ qw_605)) rfl rfl hnm rfl rfl (by decide +kernel : decode cX2_init 25 = .ok (.putfield 20, 3))))
    (ms_lf (ms_iconst hx hb (by decide) (by decide +kernel : decode cX2_init 28 = .ok (.iconst 0, 1)))))))
    (ms_b (ms_b (ms_lf (ms_istore_n (k := 1) hx hb rfl (by decide : 1 < 2) (by decide +kernel : decode cX2_init 29 = .ok (.istore_n 1, 1))))
    (ms_b (ms_lf (ms_iload_n (k := 1) hx hb rfl (by decide +kernel : decode cX2_init 30 = .ok (.iload_n 1, 1))))
    (ms_lf (ms_bipush hx hb (by decide) (by decide +kernel : decode cX2_init 31 = .ok (.bipush 40, 2))))))
    (ms_b (ms_lf (ms_ic_ge hx hb (by decide) (by decide +kernel : decode cX2_init 33 = .ok (.if_icmp .ge 22, 3))))
    (ms_b (ms_lf (ms_aload_n (k := 0) hx hb rfl (by decide +kernel : decode cX2_init 36 = .ok (.aload_n 0, 1))))
    (ms_lf (ms_getf (C := RX2) (T := TX2) (N := 5) hx hb hf hts (fun w h => hAW w (inq_2 w h)) hown hK rfl (by decide) (hts _ (hAW _ qw_603)) rfl (by decide +kernel : decode cX2_init 37 = .ok (.getfield 11, 3)))))))))
    (ms_b (ms_b (ms_b (ms_b (ms_lf (ms_iload_n (k := 1) hx hb rfl (by decide +kernel : decode cX2_init 40 = .ok (.iload_n 1, 1))))
    (ms_lf (ms_new (C := RX7) (T := TX7) (N := 7) hx hb hf hts (fun w h => hAW w (inq_7 w h)) tyX7 tyX7_ok hown (hts _ (hAW _ qw_557)) (hts _ (hAW _ qw_559)) (hts _ (hAW _ qw_133)) hK rfl nfs_7 rfl (by decide +kernel) (by decide +kernel : decode cX2_init 41 = .ok (.new 9, 3)))))
    (ms_b (ms_lf (ms_dup hx hb (by decide +kernel : decode cX2_init 44 = .ok (.dup, 1))))
    (ms_b (ms_lf (ms_ivIN hx hb hml hown hts hgo hEX (mm_GI hAW gi_74) rfl (hN.2.2.2.2.2.1) (hts _ (hAW _ qw_133)) (hts _ (hAW _ qw_561)) rfl hd_74 (mm_rm hRf hRl (Nat.le_of_ble_eq_true rfl)) (by decide +kernel : decode cX2_init 45 = .ok (.invokespecial 24, 3))))
    (ms_lf (ms_aast (C := RX7) (T := TX7) (N := 7) hx hb hf hA hK rfl rfl (by decide +kernel : decode cX2_init 48 = .ok (.aastore, 1)))))))
    (ms_b (ms_b (ms_lf (ms_iinc hx hb (by decide) (by decide : 1 < 2) (by decide +kernel : decode cX2_init 49 = .ok (.iinc 1 1, 3))))
    (ms_b (ms_lf (ms_goto hx hb (by decide) (by decide +kernel : decode cX2_init 52 = .ok (.goto (-22), 3))))
    (ms_lf (ms_iconst hx hb (by decide) (by decide +kernel : decode cX2_init 55 = .ok (.iconst 0, 1))))))
    (ms_b (ms_lf (ms_istore_n (k := 1) hx hb rfl (by decide : 1 < 2) (by decide +kernel : decode cX2_init 56 = .ok (.istore_n 1, 1))))
    (ms_b (ms_lf (ms_iload_n (k := 1) hx hb rfl (by decide +kernel : decode cX2_init 57 = .ok (.iload_n 1, 1))))
    (ms_lf (ms_iconst hx hb (by decide) (by decide +kernel : decode cX2_init 58 = .ok (.iconst 3, 1))))))))
    (ms_b (ms_b (ms_b (ms_lf (ms_ic_ge hx hb (by decide) (by decide +kernel : decode cX2_init 59 = .ok (.if_icmp .ge 22, 3))))
    (ms_lf (ms_aload_n (k := 0) hx hb rfl (by decide +kernel : decode cX2_init 62 = .ok (.aload_n 0, 1)))))
    (ms_b (ms_lf (ms_getf (C := RX2) (T := TX2) (N := 5) hx hb hf hts (fun w h => hAW w (inq_2 w h)) hown hK rfl (by decide) (hts _ (hAW _ qw_604)) rfl (by decide +kernel : decode cX2_init 63 = .ok (.getfield 17, 3))))
    (ms_b (ms_lf (ms_iload_n (k := 1) hx hb rfl (by decide +kernel : decode cX2_init 66 = .ok (.iload_n 1, 1))))
    (ms_lf (ms_new (C := RX7) (T := TX7) (N := 7) hx hb hf hts (fun w h => hAW w (inq_7 w h)) tyX7 tyX7_ok hown (hts _ (hAW _ qw_557)) (hts _ (hAW _ qw_559)) (hts _ (hAW _ qw_133)) hK rfl nfs_7 rfl (by decide +kernel) (by decide +kernel : decode cX2_init 67 = .ok (.new 9, 3)))))))
    (ms_b (ms_b (ms_lf (ms_dup hx hb (by decide +kernel : decode cX2_init 70 = .ok (.dup, 1))))
    (ms_b (ms_lf (ms_ivIN hx hb hml hown hts hgo hEX (mm_GI hAW gi_74) rfl (hN.2.2.2.2.2.1) (hts _ (hAW _ qw_133)) (hts _ (hAW _ qw_561)) rfl hd_74 (mm_rm hRf hRl (Nat.le_of_ble_eq_true rfl)) (by decide +kernel : decode cX2_init 71 = .ok (.invokespecial 24, 3))))
    (ms_lf (ms_aast (C := RX7) (T := TX7) (N := 7) hx hb hf hA hK rfl rfl (by decide +kernel : decode cX2_init 74 = .ok (.aastore, 1))))))
    (ms_b (ms_lf (ms_iinc hx hb (by decide) (by decide : 1 < 2) (by decide +kernel : decode cX2_init 75 = .ok (.iinc 1 1, 3))))
    (ms_b (ms_lf (ms_goto hx hb (by decide) (by decide +kernel : decode cX2_init 78 = .ok (.goto (-21), 3))))
    (ms_lf (ms_ret hx hb hr hlk (by decide +kernel : decode cX2_init 81 = .ok (.return_, 1))))))))))
set_option maxRecDepth 100000 in
set_option maxHeartbeats 8000000 in
/-- TippedCrates$Past.clear -/
theorem sd_20 (l : Launch) (f : Nat → Nat) (D : va_G) (cA : FieldType → ClassId) (d : Nat) : mm_Ok2 l f D cA d (yX2_clear, cX2_clear, 2, none, mc_20) := by
  intro p e R s m args below meth c C hRf hRl pc
  obtain ⟨hx, hb, hml, hr, hlk, hnm, hown, hts, hEX, hgo, hf⟩ := C
  obtain ⟨hK, hA, hX, hZs, hZc, hZq, hTx, hSR0, hSR1, hAO, hN⟩ := id hEX
  have hAW : ∀ w ∈ mm_AW, w ∈ (Cond.code yX2_clear cX2_clear 2 none :: mm_AW) := fun w h => List.mem_cons_of_mem _ h
  have hown : s.vm.findClass "TippedCrates$Past" = some m.cls := hown
  show mm_S p l e R s m args below meth c f D mm_cl cA 2 _ pc (mc_20 pc)
  unfold mc_20
  exact (ms_b (ms_b (ms_b (ms_b (ms_lf (ms_aload_n (k := 0) hx hb rfl (by decide +kernel : decode cX2_clear 0 = .ok (.aload_n 0, 1))))
    (ms_lf (ms_iconst hx hb (by decide) (by decide +kernel : decode cX2_clear 1 = .ok (.iconst 0, 1)))))
    (ms_b (ms_lf (ms_put (C := RX2) (T := TX2) (N := 5) hx hb hf hts (fun w h => hAW w (inq_2 w h)) tyX2 tyX2_ok nmX2 hown hK rfl (by decide) (hts _ (hAW _ qw_601)) rfl rfl rfl (by decide +kernel : decode cX2_clear 2 = .ok (.putfield 25, 3))))
    (ms_lf (ms_iconst hx hb (by decide) (by decide +kernel : decode cX2_clear 5 = .ok (.iconst 0, 1))))))
    (ms_b (ms_b (ms_lf (ms_istore_n (k := 1) hx hb rfl (by decide : 1 < 2) (by decide +kernel : decode cX2_clear 6 = .ok (.istore_n 1, 1))))
    (ms_lf (ms_iload_n (k := 1) hx hb rfl (by decide +kernel : decode cX2_clear 7 = .ok (.iload_n 1, 1)))))
    (ms_b (ms_lf (ms_iconst hx hb (by decide) (by decide +kernel : decode cX2_clear 8 = .ok (.iconst 3, 1))))
    (ms_lf (ms_ic_ge hx hb (by decide) (by decide +kernel : decode cX2_clear 9 = .ok (.if_icmp .ge 16, 3)))))))
    (ms_b (ms_b (ms_b (ms_lf (ms_aload_n (k := 0) hx hb rfl (by decide +kernel : decode cX2_clear 12 = .ok (.aload_n 0, 1))))
    (ms_lf (ms_getf (C := RX2) (T := TX2) (N := 5) hx hb hf hts (fun w h => hAW w (inq_2 w h)) hown hK rfl (by decide) (hts _ (hAW _ qw_605)) rfl (by decide +kernel : decode cX2_clear 13 = .ok (.getfield 20, 3)))))
    (ms_b (ms_lf (ms_iload_n (k := 1) hx hb rfl (by decide +kernel : decode cX2_clear 16 = .ok (.iload_n 1, 1))))
    (ms_lf (ms_iconst hx hb (by decide) (by decide +kernel : decode cX2_clear 17 = .ok (.iconst 0, 1))))))
    (ms_b (ms_b (ms_lf (ms_bast hx hb hf hA (by decide +kernel : decode cX2_clear 18 = .ok (.bastore, 1))))
    (ms_lf (ms_iinc hx hb (by decide) (by decide : 1 < 2) (by decide +kernel : decode cX2_clear 19 = .ok (.iinc 1 1, 3)))))
    (ms_b (ms_lf (ms_goto hx hb (by decide) (by decide +kernel : decode cX2_clear 22 = .ok (.goto (-15), 3))))
    (ms_lf (ms_ret hx hb hr hlk (by decide +kernel : decode cX2_clear 25 = .ok (.return_, 1))))))))
set_option maxRecDepth 100000 in
set_option maxHeartbeats 8000000 in
/-- TippedCrates$Past.note -/
theorem sd_21 (l : Launch) (f : Nat → Nat) (D : va_G) (cA : FieldType → ClassId) (d : Nat) : mm_Ok2 l f D cA d (yX2_note, cX2_note, 2, none, mc_21) := by
  intro p e R s m args below meth c C hRf hRl pc
  obtain ⟨hx, hb, hml, hr, hlk, hnm, hown, hts, hEX, hgo, hf⟩ := C
  obtain ⟨hK, hA, hX, hZs, hZc, hZq, hTx, hSR0, hSR1, hAO, hN⟩ := id hEX
  have hAW : ∀ w ∈ mm_AW, w ∈ (Cond.code yX2_note cX2_note 2 none :: mm_AW) := fun w h => List.mem_cons_of_mem _ h
  have hown : s.vm.findClass "TippedCrates$Past" = some m.cls := hown
  show mm_S p l e R s m args below meth c f D mm_cl cA 2 _ pc (mc_21 pc)
  unfold mc_21
  exact (ms_b (ms_b (ms_b (ms_b (ms_lf (ms_aload_n (k := 0) hx hb rfl (by decide +kernel : decode cX2_note 0 = .ok (.aload_n 0, 1))))
    (ms_b (ms_lf (ms_getf (C := RX2) (T := TX2) (N := 5) hx hb hf hts (fun w h => hAW w (inq_2 w h)) hown hK rfl (by decide) (hts _ (hAW _ qw_603)) rfl (by decide +kernel : decode cX2_note 1 = .ok (.getfield 11, 3))))
    (ms_lf (ms_aload_n (k := 0) hx hb rfl (by decide +kernel : decode cX2_note 4 = .ok (.aload_n 0, 1))))))
    (ms_b (ms_b (ms_lf (ms_getf (C := RX2) (T := TX2) (N := 5) hx hb hf hts (fun w h => hAW w (inq_2 w h)) hown hK rfl (by decide) (hts _ (hAW _ qw_606)) rfl (by decide +kernel : decode cX2_note 5 = .ok (.getfield 29, 3))))
    (ms_lf (ms_aald hx hb hf hA (by decide +kernel : decode cX2_note 8 = .ok (.aaload, 1)))))
    (ms_b (ms_lf (ms_aload_n (k := 1) hx hb rfl (by decide +kernel : decode cX2_note 9 = .ok (.aload_n 1, 1))))
    (ms_lf (ms_ivV (C := RX7) (T := TX7) (N := 7) hx hb hml hown hts hgo hEX hf hK rfl (mm_GV hAW (mm_GI hAW gi_76) qw_991 qw_992 qw_993 qw_133) rfl ⟨rfl, hd_76⟩ (mm_rm hRf hRl (Nat.le_of_ble_eq_true rfl)) (by decide +kernel : decode cX2_note 10 = .ok (.invokevirtual 32, 3)))))))
    (ms_b (ms_b (ms_b (ms_lf (ms_aload_n (k := 0) hx hb rfl (by decide +kernel : decode cX2_note 13 = .ok (.aload_n 0, 1))))
    (ms_lf (ms_aload_n (k := 0) hx hb rfl (by decide +kernel : decode cX2_note 14 = .ok (.aload_n 0, 1)))))
    (ms_b (ms_lf (ms_getf (C := RX2) (T := TX2) (N := 5) hx hb hf hts (fun w h => hAW w (inq_2 w h)) hown hK rfl (by decide) (hts _ (hAW _ qw_606)) rfl (by decide +kernel : decode cX2_note 15 = .ok (.getfield 29, 3))))
    (ms_lf (ms_iconst hx hb (by decide) (by decide +kernel : decode cX2_note 18 = .ok (.iconst 1, 1))))))
    (ms_b (ms_b (ms_lf (ms_iadd hx hb (by decide +kernel : decode cX2_note 19 = .ok (.iadd, 1))))
    (ms_lf (ms_bipush hx hb (by decide) (by decide +kernel : decode cX2_note 20 = .ok (.bipush 40, 2)))))
    (ms_b (ms_lf (ms_ic_ge hx hb (by decide) (by decide +kernel : decode cX2_note 22 = .ok (.if_icmp .ge 12, 3))))
    (ms_lf (ms_aload_n (k := 0) hx hb rfl (by decide +kernel : decode cX2_note 25 = .ok (.aload_n 0, 1))))))))
    (ms_b (ms_b (ms_b (ms_lf (ms_getf (C := RX2) (T := TX2) (N := 5) hx hb hf hts (fun w h => hAW w (inq_2 w h)) hown hK rfl (by decide) (hts _ (hAW _ qw_606)) rfl (by decide +kernel : decode cX2_note 26 = .ok (.getfield 29, 3))))
    (ms_b (ms_lf (ms_iconst hx hb (by decide) (by decide +kernel : decode cX2_note 29 = .ok (.iconst 1, 1))))
    (ms_lf (ms_iadd hx hb (by decide +kernel : decode cX2_note 30 = .ok (.iadd, 1))))))
    (ms_b (ms_b (ms_lf (ms_goto hx hb (by decide) (by decide +kernel : decode cX2_note 31 = .ok (.goto 4, 3))))
    (ms_lf (ms_iconst hx hb (by decide) (by decide +kernel : decode cX2_note 34 = .ok (.iconst 0, 1)))))
    (ms_b (ms_lf (ms_put (C := RX2) (T := TX2) (N := 5) hx hb hf hts (fun w h => hAW w (inq_2 w h)) tyX2 tyX2_ok nmX2 hown hK rfl (by decide) (hts _ (hAW _ qw_606)) rfl rfl rfl (by decide +kernel : decode cX2_note 35 = .ok (.putfield 29, 3))))
    (ms_lf (ms_aload_n (k := 0) hx hb rfl (by decide +kernel : decode cX2_note 38 = .ok (.aload_n 0, 1)))))))
    (ms_b (ms_b (ms_b (ms_lf (ms_aload_n (k := 0) hx hb rfl (by decide +kernel : decode cX2_note 39 = .ok (.aload_n 0, 1))))
    (ms_lf (ms_getf (C := RX2) (T := TX2) (N := 5) hx hb hf hts (fun w h => hAW w (inq_2 w h)) hown hK rfl (by decide) (hts _ (hAW _ qw_601)) rfl (by decide +kernel : decode cX2_note 40 = .ok (.getfield 25, 3)))))
    (ms_b (ms_lf (ms_iconst hx hb (by decide) (by decide +kernel : decode cX2_note 43 = .ok (.iconst 1, 1))))
    (ms_lf (ms_iadd hx hb (by decide +kernel : decode cX2_note 44 = .ok (.iadd, 1))))))
    (ms_b (ms_b (ms_lf (ms_bipush hx hb (by decide) (by decide +kernel : decode cX2_note 45 = .ok (.bipush 40, 2))))
    (ms_lf (ms_mmin hx hb hml hown (hts _ (hAW _ qw_995)) (hts _ (hAW _ qw_691)) (hts _ (hAW _ qw_134)) (hts _ (hAW _ qw_692)) (by omega) (by omega) (by decide +kernel : decode cX2_note 47 = .ok (.invokestatic 36, 3)))))
    (ms_b (ms_lf (ms_put (C := RX2) (T := TX2) (N := 5) hx hb hf hts (fun w h => hAW w (inq_2 w h)) tyX2 tyX2_ok nmX2 hown hK rfl (by decide) (hts _ (hAW _ qw_601)) rfl rfl rfl (by decide +kernel : decode cX2_note 50 = .ok (.putfield 25, 3))))
    (ms_lf (ms_ret hx hb hr hlk (by decide +kernel : decode cX2_note 53 = .ok (.return_, 1)))))))))
set_option maxRecDepth 100000 in
set_option maxHeartbeats 8000000 in
/-- TippedCrates$Past.takeBack -/
theorem sd_22 (l : Launch) (f : Nat → Nat) (D : va_G) (cA : FieldType → ClassId) (d : Nat) : mm_Ok2 l f D cA d (yX2_takeBack, cX2_takeBack, 2, (some .boolean), mc_22) := by
  intro p e R s m args below meth c C hRf hRl pc
  obtain ⟨hx, hb, hml, hr, hlk, hnm, hown, hts, hEX, hgo, hf⟩ := C
  obtain ⟨hK, hA, hX, hZs, hZc, hZq, hTx, hSR0, hSR1, hAO, hN⟩ := id hEX
  have hAW : ∀ w ∈ mm_AW, w ∈ (Cond.code yX2_takeBack cX2_takeBack 2 (some .boolean) :: mm_AW) := fun w h => List.mem_cons_of_mem _ h
  have hown : s.vm.findClass "TippedCrates$Past" = some m.cls := hown
  show mm_S p l e R s m args below meth c f D mm_cl cA 2 _ pc (mc_22 pc)
  unfold mc_22
  exact (ms_b (ms_b (ms_b (ms_b (ms_lf (ms_aload_n (k := 0) hx hb rfl (by decide +kernel : decode cX2_takeBack 0 = .ok (.aload_n 0, 1))))
    (ms_b (ms_lf (ms_getf (C := RX2) (T := TX2) (N := 5) hx hb hf hts (fun w h => hAW w (inq_2 w h)) hown hK rfl (by decide) (hts _ (hAW _ qw_601)) rfl (by decide +kernel : decode cX2_takeBack 1 = .ok (.getfield 25, 3))))
    (ms_lf (ms_if_ne hx hb (by decide) (by decide +kernel : decode cX2_takeBack 4 = .ok (.ifCond .ne 5, 3))))))
    (ms_b (ms_b (ms_lf (ms_iconst hx hb (by decide) (by decide +kernel : decode cX2_takeBack 7 = .ok (.iconst 0, 1))))
    (ms_lf (ms_iret hx hb hr hlk (by decide +kernel : decode cX2_takeBack 8 = .ok (.ireturn, 1)))))
    (ms_b (ms_lf (ms_aload_n (k := 0) hx hb rfl (by decide +kernel : decode cX2_takeBack 9 = .ok (.aload_n 0, 1))))
    (ms_lf (ms_dup hx hb (by decide +kernel : decode cX2_takeBack 10 = .ok (.dup, 1)))))))
    (ms_b (ms_b (ms_b (ms_lf (ms_getf (C := RX2) (T := TX2) (N := 5) hx hb hf hts (fun w h => hAW w (inq_2 w h)) hown hK rfl (by decide) (hts _ (hAW _ qw_601)) rfl (by decide +kernel : decode cX2_takeBack 11 = .ok (.getfield 25, 3))))
    (ms_lf (ms_iconst hx hb (by decide) (by decide +kernel : decode cX2_takeBack 14 = .ok (.iconst 1, 1)))))
    (ms_b (ms_lf (ms_isub hx hb (by decide +kernel : decode cX2_takeBack 15 = .ok (.isub, 1))))
    (ms_lf (ms_put (C := RX2) (T := TX2) (N := 5) hx hb hf hts (fun w h => hAW w (inq_2 w h)) tyX2 tyX2_ok nmX2 hown hK rfl (by decide) (hts _ (hAW _ qw_601)) rfl rfl rfl (by decide +kernel : decode cX2_takeBack 16 = .ok (.putfield 25, 3))))))
    (ms_b (ms_b (ms_lf (ms_aload_n (k := 0) hx hb rfl (by decide +kernel : decode cX2_takeBack 19 = .ok (.aload_n 0, 1))))
    (ms_lf (ms_aload_n (k := 0) hx hb rfl (by decide +kernel : decode cX2_takeBack 20 = .ok (.aload_n 0, 1)))))
    (ms_b (ms_lf (ms_getf (C := RX2) (T := TX2) (N := 5) hx hb hf hts (fun w h => hAW w (inq_2 w h)) hown hK rfl (by decide) (hts _ (hAW _ qw_606)) rfl (by decide +kernel : decode cX2_takeBack 21 = .ok (.getfield 29, 3))))
    (ms_lf (ms_if_le hx hb (by decide) (by decide +kernel : decode cX2_takeBack 24 = .ok (.ifCond .le 12, 3))))))))
    (ms_b (ms_b (ms_b (ms_b (ms_lf (ms_aload_n (k := 0) hx hb rfl (by decide +kernel : decode cX2_takeBack 27 = .ok (.aload_n 0, 1))))
    (ms_lf (ms_getf (C := RX2) (T := TX2) (N := 5) hx hb hf hts (fun w h => hAW w (inq_2 w h)) hown hK rfl (by decide) (hts _ (hAW _ qw_606)) rfl (by decide +kernel : decode cX2_takeBack 28 = .ok (.getfield 29, 3)))))
    (ms_b (ms_lf (ms_iconst hx hb (by decide) (by decide +kernel : decode cX2_takeBack 31 = .ok (.iconst 1, 1))))
    (ms_lf (ms_isub hx hb (by decide +kernel : decode cX2_takeBack 32 = .ok (.isub, 1))))))
    (ms_b (ms_b (ms_lf (ms_goto hx hb (by decide) (by decide +kernel : decode cX2_takeBack 33 = .ok (.goto 5, 3))))
    (ms_lf (ms_bipush hx hb (by decide) (by decide +kernel : decode cX2_takeBack 36 = .ok (.bipush 39, 2)))))
    (ms_b (ms_lf (ms_put (C := RX2) (T := TX2) (N := 5) hx hb hf hts (fun w h => hAW w (inq_2 w h)) tyX2 tyX2_ok nmX2 hown hK rfl (by decide) (hts _ (hAW _ qw_606)) rfl rfl rfl (by decide +kernel : decode cX2_takeBack 38 = .ok (.putfield 29, 3))))
    (ms_lf (ms_aload_n (k := 1) hx hb rfl (by decide +kernel : decode cX2_takeBack 41 = .ok (.aload_n 1, 1)))))))
    (ms_b (ms_b (ms_b (ms_lf (ms_aload_n (k := 0) hx hb rfl (by decide +kernel : decode cX2_takeBack 42 = .ok (.aload_n 0, 1))))
    (ms_lf (ms_getf (C := RX2) (T := TX2) (N := 5) hx hb hf hts (fun w h => hAW w (inq_2 w h)) hown hK rfl (by decide) (hts _ (hAW _ qw_603)) rfl (by decide +kernel : decode cX2_takeBack 43 = .ok (.getfield 11, 3)))))
    (ms_b (ms_lf (ms_aload_n (k := 0) hx hb rfl (by decide +kernel : decode cX2_takeBack 46 = .ok (.aload_n 0, 1))))
    (ms_lf (ms_getf (C := RX2) (T := TX2) (N := 5) hx hb hf hts (fun w h => hAW w (inq_2 w h)) hown hK rfl (by decide) (hts _ (hAW _ qw_606)) rfl (by decide +kernel : decode cX2_takeBack 47 = .ok (.getfield 29, 3))))))
    (ms_b (ms_b (ms_lf (ms_aald hx hb hf hA (by decide +kernel : decode cX2_takeBack 50 = .ok (.aaload, 1))))
    (ms_lf (ms_ivV (C := RX7) (T := TX7) (N := 7) hx hb hml hown hts hgo hEX hf hK rfl (mm_GV hAW (mm_GI hAW gi_76) qw_991 qw_992 qw_993 qw_133) rfl ⟨rfl, hd_76⟩ (mm_rm hRf hRl (Nat.le_of_ble_eq_true rfl)) (by decide +kernel : decode cX2_takeBack 51 = .ok (.invokevirtual 32, 3)))))
    (ms_b (ms_lf (ms_iconst hx hb (by decide) (by decide +kernel : decode cX2_takeBack 54 = .ok (.iconst 1, 1))))
    (ms_lf (ms_iret hx hb hr hlk (by decide +kernel : decode cX2_takeBack 55 = .ok (.ireturn, 1)))))))))
set_option maxRecDepth 100000 in
set_option maxHeartbeats 8000000 in
/-- TippedCrates$Past.keep -/
theorem sd_23 (l : Launch) (f : Nat → Nat) (D : va_G) (cA : FieldType → ClassId) (d : Nat) : mm_Ok2 l f D cA d (yX2_keep, cX2_keep, 3, none, mc_23) := by
  intro p e R s m args below meth c C hRf hRl pc
  obtain ⟨hx, hb, hml, hr, hlk, hnm, hown, hts, hEX, hgo, hf⟩ := C
  obtain ⟨hK, hA, hX, hZs, hZc, hZq, hTx, hSR0, hSR1, hAO, hN⟩ := id hEX
  have hAW : ∀ w ∈ mm_AW, w ∈ (Cond.code yX2_keep cX2_keep 3 none :: mm_AW) := fun w h => List.mem_cons_of_mem _ h
  have hown : s.vm.findClass "TippedCrates$Past" = some m.cls := hown
  show mm_S p l e R s m args below meth c f D mm_cl cA 3 _ pc (mc_23 pc)
  unfold mc_23
  exact (ms_b (ms_b (ms_b (ms_lf (ms_aload_n (k := 0) hx hb rfl (by decide +kernel : decode cX2_keep 0 = .ok (.aload_n 0, 1))))
    (ms_b (ms_lf (ms_getf (C := RX2) (T := TX2) (N := 5) hx hb hf hts (fun w h => hAW w (inq_2 w h)) hown hK rfl (by decide) (hts _ (hAW _ qw_604)) rfl (by decide +kernel : decode cX2_keep 1 = .ok (.getfield 17, 3))))
    (ms_lf (ms_iload_n (k := 2) hx hb rfl (by decide +kernel : decode cX2_keep 4 = .ok (.iload_n 2, 1))))))
    (ms_b (ms_lf (ms_aald hx hb hf hA (by decide +kernel : decode cX2_keep 5 = .ok (.aaload, 1))))
    (ms_b (ms_lf (ms_aload_n (k := 1) hx hb rfl (by decide +kernel : decode cX2_keep 6 = .ok (.aload_n 1, 1))))
    (ms_lf (ms_ivV (C := RX7) (T := TX7) (N := 7) hx hb hml hown hts hgo hEX hf hK rfl (mm_GV hAW (mm_GI hAW gi_76) qw_991 qw_992 qw_993 qw_133) rfl ⟨rfl, hd_76⟩ (mm_rm hRf hRl (Nat.le_of_ble_eq_true rfl)) (by decide +kernel : decode cX2_keep 7 = .ok (.invokevirtual 32, 3)))))))
    (ms_b (ms_b (ms_lf (ms_aload_n (k := 0) hx hb rfl (by decide +kernel : decode cX2_keep 10 = .ok (.aload_n 0, 1))))
    (ms_b (ms_lf (ms_getf (C := RX2) (T := TX2) (N := 5) hx hb hf hts (fun w h => hAW w (inq_2 w h)) hown hK rfl (by decide) (hts _ (hAW _ qw_605)) rfl (by decide +kernel : decode cX2_keep 11 = .ok (.getfield 20, 3))))
    (ms_lf (ms_iload_n (k := 2) hx hb rfl (by decide +kernel : decode cX2_keep 14 = .ok (.iload_n 2, 1))))))
    (ms_b (ms_lf (ms_iconst hx hb (by decide) (by decide +kernel : decode cX2_keep 15 = .ok (.iconst 1, 1))))
    (ms_b (ms_lf (ms_bast hx hb hf hA (by decide +kernel : decode cX2_keep 16 = .ok (.bastore, 1))))
    (ms_lf (ms_ret hx hb hr hlk (by decide +kernel : decode cX2_keep 17 = .ok (.return_, 1))))))))
set_option maxRecDepth 100000 in
set_option maxHeartbeats 8000000 in
/-- TippedCrates$Past.goOnFrom -/
theorem sd_24 (l : Launch) (f : Nat → Nat) (D : va_G) (cA : FieldType → ClassId) (d : Nat) : mm_Ok2 l f D cA d (yX2_goOnFrom, cX2_goOnFrom, 3, (some .boolean), mc_24) := by
  intro p e R s m args below meth c C hRf hRl pc
  obtain ⟨hx, hb, hml, hr, hlk, hnm, hown, hts, hEX, hgo, hf⟩ := C
  obtain ⟨hK, hA, hX, hZs, hZc, hZq, hTx, hSR0, hSR1, hAO, hN⟩ := id hEX
  have hAW : ∀ w ∈ mm_AW, w ∈ (Cond.code yX2_goOnFrom cX2_goOnFrom 3 (some .boolean) :: mm_AW) := fun w h => List.mem_cons_of_mem _ h
  have hown : s.vm.findClass "TippedCrates$Past" = some m.cls := hown
  show mm_S p l e R s m args below meth c f D mm_cl cA 3 _ pc (mc_24 pc)
  unfold mc_24
  exact (ms_b (ms_b (ms_b (ms_b (ms_lf (ms_aload_n (k := 0) hx hb rfl (by decide +kernel : decode cX2_goOnFrom 0 = .ok (.aload_n 0, 1))))
    (ms_lf (ms_getf (C := RX2) (T := TX2) (N := 5) hx hb hf hts (fun w h => hAW w (inq_2 w h)) hown hK rfl (by decide) (hts _ (hAW _ qw_605)) rfl (by decide +kernel : decode cX2_goOnFrom 1 = .ok (.getfield 20, 3)))))
    (ms_b (ms_lf (ms_iload_n (k := 2) hx hb rfl (by decide +kernel : decode cX2_goOnFrom 4 = .ok (.iload_n 2, 1))))
    (ms_lf (ms_bald hx hb hf hA (by decide +kernel : decode cX2_goOnFrom 5 = .ok (.baload, 1))))))
    (ms_b (ms_b (ms_lf (ms_if_ne hx hb (by decide) (by decide +kernel : decode cX2_goOnFrom 6 = .ok (.ifCond .ne 5, 3))))
    (ms_lf (ms_iconst hx hb (by decide) (by decide +kernel : decode cX2_goOnFrom 9 = .ok (.iconst 0, 1)))))
    (ms_b (ms_lf (ms_iret hx hb hr hlk (by decide +kernel : decode cX2_goOnFrom 10 = .ok (.ireturn, 1))))
    (ms_b (ms_lf (ms_aload_n (k := 1) hx hb rfl (by decide +kernel : decode cX2_goOnFrom 11 = .ok (.aload_n 1, 1))))
    (ms_lf (ms_aload_n (k := 0) hx hb rfl (by decide +kernel : decode cX2_goOnFrom 12 = .ok (.aload_n 0, 1))))))))
    (ms_b (ms_b (ms_b (ms_lf (ms_getf (C := RX2) (T := TX2) (N := 5) hx hb hf hts (fun w h => hAW w (inq_2 w h)) hown hK rfl (by decide) (hts _ (hAW _ qw_604)) rfl (by decide +kernel : decode cX2_goOnFrom 13 = .ok (.getfield 17, 3))))
    (ms_lf (ms_iload_n (k := 2) hx hb rfl (by decide +kernel : decode cX2_goOnFrom 16 = .ok (.iload_n 2, 1)))))
    (ms_b (ms_lf (ms_aald hx hb hf hA (by decide +kernel : decode cX2_goOnFrom 17 = .ok (.aaload, 1))))
    (ms_lf (ms_ivV (C := RX7) (T := TX7) (N := 7) hx hb hml hown hts hgo hEX hf hK rfl (mm_GV hAW (mm_GI hAW gi_76) qw_991 qw_992 qw_993 qw_133) rfl ⟨rfl, hd_76⟩ (mm_rm hRf hRl (Nat.le_of_ble_eq_true rfl)) (by decide +kernel : decode cX2_goOnFrom 18 = .ok (.invokevirtual 32, 3))))))
    (ms_b (ms_b (ms_lf (ms_aload_n (k := 0) hx hb rfl (by decide +kernel : decode cX2_goOnFrom 21 = .ok (.aload_n 0, 1))))
    (ms_lf (ms_iconst hx hb (by decide) (by decide +kernel : decode cX2_goOnFrom 22 = .ok (.iconst 0, 1)))))
    (ms_b (ms_lf (ms_put (C := RX2) (T := TX2) (N := 5) hx hb hf hts (fun w h => hAW w (inq_2 w h)) tyX2 tyX2_ok nmX2 hown hK rfl (by decide) (hts _ (hAW _ qw_601)) rfl rfl rfl (by decide +kernel : decode cX2_goOnFrom 23 = .ok (.putfield 25, 3))))
    (ms_b (ms_lf (ms_iconst hx hb (by decide) (by decide +kernel : decode cX2_goOnFrom 26 = .ok (.iconst 1, 1))))
    (ms_lf (ms_iret hx hb hr hlk (by decide +kernel : decode cX2_goOnFrom 27 = .ok (.ireturn, 1)))))))))
set_option maxRecDepth 100000 in
set_option maxHeartbeats 8000000 in
/-- TippedCrates$Past.slotsHeld -/
theorem sd_25 (l : Launch) (f : Nat → Nat) (D : va_G) (cA : FieldType → ClassId) (d : Nat) : mm_Ok2 l f D cA d (yX2_slotsHeld, cX2_slotsHeld, 6, (some .int), mc_25) := by
  intro p e R s m args below meth c C hRf hRl pc
  obtain ⟨hx, hb, hml, hr, hlk, hnm, hown, hts, hEX, hgo, hf⟩ := C
  obtain ⟨hK, hA, hX, hZs, hZc, hZq, hTx, hSR0, hSR1, hAO, hN⟩ := id hEX
  have hAW : ∀ w ∈ mm_AW, w ∈ (Cond.code yX2_slotsHeld cX2_slotsHeld 6 (some .int) :: mm_AW) := fun w h => List.mem_cons_of_mem _ h
  have hown : s.vm.findClass "TippedCrates$Past" = some m.cls := hown
  show mm_S p l e R s m args below meth c f D mm_cl cA 6 _ pc (mc_25 pc)
  unfold mc_25
  exact (ms_b (ms_b (ms_b (ms_b (ms_lf (ms_iconst hx hb (by decide) (by decide +kernel : decode cX2_slotsHeld 0 = .ok (.iconst 0, 1))))
    (ms_b (ms_lf (ms_istore_n (k := 1) hx hb rfl (by decide : 1 < 6) (by decide +kernel : decode cX2_slotsHeld 1 = .ok (.istore_n 1, 1))))
    (ms_lf (ms_aload_n (k := 0) hx hb rfl (by decide +kernel : decode cX2_slotsHeld 2 = .ok (.aload_n 0, 1))))))
    (ms_b (ms_b (ms_lf (ms_getf (C := RX2) (T := TX2) (N := 5) hx hb hf hts (fun w h => hAW w (inq_2 w h)) hown hK rfl (by decide) (hts _ (hAW _ qw_605)) rfl (by decide +kernel : decode cX2_slotsHeld 3 = .ok (.getfield 20, 3))))
    (ms_lf (ms_astore_n (k := 2) hx hb rfl (by decide : 2 < 6) (by decide +kernel : decode cX2_slotsHeld 6 = .ok (.astore_n 2, 1)))))
    (ms_b (ms_lf (ms_aload_n (k := 2) hx hb rfl (by decide +kernel : decode cX2_slotsHeld 7 = .ok (.aload_n 2, 1))))
    (ms_lf (ms_alen hx hb hf hA hX (by decide +kernel : decode cX2_slotsHeld 8 = .ok (.arraylength, 1)))))))
    (ms_b (ms_b (ms_lf (ms_istore_n (k := 3) hx hb rfl (by decide : 3 < 6) (by decide +kernel : decode cX2_slotsHeld 9 = .ok (.istore_n 3, 1))))
    (ms_b (ms_lf (ms_iconst hx hb (by decide) (by decide +kernel : decode cX2_slotsHeld 10 = .ok (.iconst 0, 1))))
    (ms_lf (ms_istore hx hb (by decide : 4 < 6) (by decide +kernel : decode cX2_slotsHeld 11 = .ok (.istore 4, 2))))))
    (ms_b (ms_b (ms_lf (ms_iload hx hb (by decide +kernel : decode cX2_slotsHeld 13 = .ok (.iload 4, 2))))
    (ms_lf (ms_iload_n (k := 3) hx hb rfl (by decide +kernel : decode cX2_slotsHeld 15 = .ok (.iload_n 3, 1)))))
    (ms_b (ms_lf (ms_ic_ge hx hb (by decide) (by decide +kernel : decode cX2_slotsHeld 16 = .ok (.if_icmp .ge 28, 3))))
    (ms_lf (ms_aload_n (k := 2) hx hb rfl (by decide +kernel : decode cX2_slotsHeld 19 = .ok (.aload_n 2, 1))))))))
    (ms_b (ms_b (ms_b (ms_lf (ms_iload hx hb (by decide +kernel : decode cX2_slotsHeld 20 = .ok (.iload 4, 2))))
    (ms_b (ms_lf (ms_bald hx hb hf hA (by decide +kernel : decode cX2_slotsHeld 22 = .ok (.baload, 1))))
    (ms_lf (ms_istore hx hb (by decide : 5 < 6) (by decide +kernel : decode cX2_slotsHeld 23 = .ok (.istore 5, 2))))))
    (ms_b (ms_b (ms_lf (ms_iload_n (k := 1) hx hb rfl (by decide +kernel : decode cX2_slotsHeld 25 = .ok (.iload_n 1, 1))))
    (ms_lf (ms_iload hx hb (by decide +kernel : decode cX2_slotsHeld 26 = .ok (.iload 5, 2)))))
    (ms_b (ms_lf (ms_if_eq hx hb (by decide) (by decide +kernel : decode cX2_slotsHeld 28 = .ok (.ifCond .eq 7, 3))))
    (ms_lf (ms_iconst hx hb (by decide) (by decide +kernel : decode cX2_slotsHeld 31 = .ok (.iconst 1, 1)))))))
    (ms_b (ms_b (ms_b (ms_lf (ms_goto hx hb (by decide) (by decide +kernel : decode cX2_slotsHeld 32 = .ok (.goto 4, 3))))
    (ms_lf (ms_iconst hx hb (by decide) (by decide +kernel : decode cX2_slotsHeld 35 = .ok (.iconst 0, 1)))))
    (ms_b (ms_lf (ms_iadd hx hb (by decide +kernel : decode cX2_slotsHeld 36 = .ok (.iadd, 1))))
    (ms_lf (ms_istore_n (k := 1) hx hb rfl (by decide : 1 < 6) (by decide +kernel : decode cX2_slotsHeld 37 = .ok (.istore_n 1, 1))))))
    (ms_b (ms_b (ms_lf (ms_iinc hx hb (by decide) (by decide : 4 < 6) (by decide +kernel : decode cX2_slotsHeld 38 = .ok (.iinc 4 1, 3))))
    (ms_lf (ms_goto hx hb (by decide) (by decide +kernel : decode cX2_slotsHeld 41 = .ok (.goto (-28), 3)))))
    (ms_b (ms_lf (ms_iload_n (k := 1) hx hb rfl (by decide +kernel : decode cX2_slotsHeld 44 = .ok (.iload_n 1, 1))))
    (ms_lf (ms_iret hx hb hr hlk (by decide +kernel : decode cX2_slotsHeld 45 = .ok (.ireturn, 1)))))))))
set_option maxRecDepth 100000 in
set_option maxHeartbeats 8000000 in
/-- TippedCrates$Plan.<init> -/
theorem sd_26 (l : Launch) (f : Nat → Nat) (D : va_G) (cA : FieldType → ClassId) (d : Nat) : mm_Ok2 l f D cA d (yX3_init, cX3_init, 1, none, mc_26) := by
  intro p e R s m args below meth c C hRf hRl pc
  obtain ⟨hx, hb, hml, hr, hlk, hnm, hown, hts, hEX, hgo, hf⟩ := C
  obtain ⟨hK, hA, hX, hZs, hZc, hZq, hTx, hSR0, hSR1, hAO, hN⟩ := id hEX
  have hAW : ∀ w ∈ mm_AW, w ∈ (Cond.code yX3_init cX3_init 1 none :: mm_AW) := fun w h => List.mem_cons_of_mem _ h
  have hown : s.vm.findClass "TippedCrates$Plan" = some m.cls := hown
  show mm_S p l e R s m args below meth c f D mm_cl cA 1 _ pc (mc_26 pc)
  unfold mc_26
  exact (ms_b (ms_b (ms_b (ms_b (ms_b (ms_lf (ms_aload_n (k := 0) hx hb rfl (by decide +kernel : decode cX3_init 0 = .ok (.aload_n 0, 1))))
    (ms_lf (ms_oi hx hb hml hown (hts _ (hAW _ qw_241)) (hts _ (hAW _ qw_144)) (hts _ (hAW _ qw_145)) (by omega) (by omega) (by decide +kernel : decode cX3_init 1 = .ok (.invokespecial 3, 3)))))
    (ms_b (ms_lf (ms_aload_n (k := 0) hx hb rfl (by decide +kernel : decode cX3_init 4 = .ok (.aload_n 0, 1))))
    (ms_lf (ms_bipush hx hb (by decide) (by decide +kernel : decode cX3_init 5 = .ok (.bipush 25, 2))))))
    (ms_b (ms_b (ms_lf (ms_na (aty := .int) hx hb hf hA rfl (hts _ (hAW _ qw_233)) rfl rfl rfl (by decide) (by decide +kernel : decode cX3_init 7 = .ok (.newarray .int, 2))))
    (ms_lf (ms_putF (C := RX3) (T := TX3) (N := 12) hx hb hf hts (fun w h => hAW w (inq_3 w h)) tyX3 tyX3_ok nmX3 hown hK rfl (by decide) (hts _ (hAW _ qw_281)) rfl rfl hnm rfl rfl (by decide +kernel : decode cX3_init 9 = .ok (.putfield 9, 3)))))
    (ms_b (ms_lf (ms_aload_n (k := 0) hx hb rfl (by decide +kernel : decode cX3_init 12 = .ok (.aload_n 0, 1))))
    (ms_lf (ms_iconst hx hb (by decide) (by decide +kernel : decode cX3_init 13 = .ok (.iconst 3, 1)))))))
    (ms_b (ms_b (ms_b (ms_lf (ms_na (aty := .int) hx hb hf hA rfl (hts _ (hAW _ qw_233)) rfl rfl rfl (by decide) (by decide +kernel : decode cX3_init 14 = .ok (.newarray .int, 2))))
    (ms_lf (ms_putF (C := RX3) (T := TX3) (N := 12) hx hb hf hts (fun w h => hAW w (inq_3 w h)) tyX3 tyX3_ok nmX3 hown hK rfl (by decide) (hts _ (hAW _ qw_284)) rfl rfl hnm rfl rfl (by decide +kernel : decode cX3_init 16 = .ok (.putfield 15, 3)))))
    (ms_b (ms_lf (ms_aload_n (k := 0) hx hb rfl (by decide +kernel : decode cX3_init 19 = .ok (.aload_n 0, 1))))
    (ms_lf (ms_bipush hx hb (by decide) (by decide +kernel : decode cX3_init 20 = .ok (.bipush 18, 2))))))
    (ms_b (ms_b (ms_lf (ms_na (aty := .int) hx hb hf hA rfl (hts _ (hAW _ qw_233)) rfl rfl rfl (by decide) (by decide +kernel : decode cX3_init 22 = .ok (.newarray .int, 2))))
    (ms_lf (ms_putF (C := RX3) (T := TX3) (N := 12) hx hb hf hts (fun w h => hAW w (inq_3 w h)) tyX3 tyX3_ok nmX3 hown hK rfl (by decide) (hts _ (hAW _ qw_287)) rfl rfl hnm rfl rfl (by decide +kernel : decode cX3_init 24 = .ok (.putfield 18, 3)))))
    (ms_b (ms_lf (ms_aload_n (k := 0) hx hb rfl (by decide +kernel : decode cX3_init 27 = .ok (.aload_n 0, 1))))
    (ms_lf (ms_new (C := RX1) (T := TX1) (N := 5) hx hb hf hts (fun w h => hAW w (inq_1 w h)) tyX1 tyX1_ok hown (hts _ (hAW _ qw_242)) (hts _ (hAW _ qw_243)) (hts _ (hAW _ qw_124)) hK rfl nfs_1 rfl (by decide +kernel) (by decide +kernel : decode cX3_init 28 = .ok (.new 21, 3))))))))
    (ms_b (ms_b (ms_b (ms_b (ms_lf (ms_dup hx hb (by decide +kernel : decode cX3_init 31 = .ok (.dup, 1))))
    (ms_lf (ms_ivIN hx hb hml hown hts hgo hEX (mm_GI hAW gi_12) rfl (hN.2.2.2.2.2.2.1) (hts _ (hAW _ qw_124)) (hts _ (hAW _ qw_245)) rfl hd_12 (mm_rm hRf hRl (Nat.le_of_ble_eq_true rfl)) (by decide +kernel : decode cX3_init 32 = .ok (.invokespecial 23, 3)))))
    (ms_b (ms_lf (ms_putF (C := RX3) (T := TX3) (N := 12) hx hb hf hts (fun w h => hAW w (inq_3 w h)) tyX3 tyX3_ok nmX3 hown hK rfl (by decide) (hts _ (hAW _ qw_290)) rfl rfl hnm rfl rfl (by decide +kernel : decode cX3_init 35 = .ok (.putfield 24, 3))))
    (ms_lf (ms_aload_n (k := 0) hx hb rfl (by decide +kernel : decode cX3_init 38 = .ok (.aload_n 0, 1))))))
    (ms_b (ms_b (ms_lf (ms_bipush hx hb (by decide) (by decide +kernel : decode cX3_init 39 = .ok (.bipush 25, 2))))
    (ms_lf (ms_na (aty := .int) hx hb hf hA rfl (hts _ (hAW _ qw_233)) rfl rfl rfl (by decide) (by decide +kernel : decode cX3_init 41 = .ok (.newarray .int, 2)))))
    (ms_b (ms_lf (ms_putF (C := RX3) (T := TX3) (N := 12) hx hb hf hts (fun w h => hAW w (inq_3 w h)) tyX3 tyX3_ok nmX3 hown hK rfl (by decide) (hts _ (hAW _ qw_293)) rfl rfl hnm rfl rfl (by decide +kernel : decode cX3_init 43 = .ok (.putfield 28, 3))))
    (ms_lf (ms_aload_n (k := 0) hx hb rfl (by decide +kernel : decode cX3_init 46 = .ok (.aload_n 0, 1)))))))
    (ms_b (ms_b (ms_b (ms_lf (ms_bipush hx hb (by decide) (by decide +kernel : decode cX3_init 47 = .ok (.bipush 25, 2))))
    (ms_lf (ms_na (aty := .int) hx hb hf hA rfl (hts _ (hAW _ qw_233)) rfl rfl rfl (by decide) (by decide +kernel : decode cX3_init 49 = .ok (.newarray .int, 2)))))
    (ms_b (ms_lf (ms_putF (C := RX3) (T := TX3) (N := 12) hx hb hf hts (fun w h => hAW w (inq_3 w h)) tyX3 tyX3_ok nmX3 hown hK rfl (by decide) (hts _ (hAW _ qw_295)) rfl rfl hnm rfl rfl (by decide +kernel : decode cX3_init 51 = .ok (.putfield 31, 3))))
    (ms_lf (ms_aload_n (k := 0) hx hb rfl (by decide +kernel : decode cX3_init 54 = .ok (.aload_n 0, 1))))))
    (ms_b (ms_b (ms_lf (ms_bipush hx hb (by decide) (by decide +kernel : decode cX3_init 55 = .ok (.bipush 100, 2))))
    (ms_lf (ms_na (aty := .int) hx hb hf hA rfl (hts _ (hAW _ qw_233)) rfl rfl rfl (by decide) (by decide +kernel : decode cX3_init 57 = .ok (.newarray .int, 2)))))
    (ms_b (ms_lf (ms_putF (C := RX3) (T := TX3) (N := 12) hx hb hf hts (fun w h => hAW w (inq_3 w h)) tyX3 tyX3_ok nmX3 hown hK rfl (by decide) (hts _ (hAW _ qw_297)) rfl rfl hnm rfl rfl (by decide +kernel : decode cX3_init 59 = .ok (.putfield 34, 3))))
    (ms_lf (ms_ret hx hb hr hlk (by decide +kernel : decode cX3_init 62 = .ok (.return_, 1)))))))))
set_option maxRecDepth 100000 in
set_option maxHeartbeats 8000000 in
/-- TippedCrates$Plan.layOut -/
theorem sd_27 (l : Launch) (f : Nat → Nat) (D : va_G) (cA : FieldType → ClassId) (d : Nat) : mm_Ok2 l f D cA d (yX3_layOut, cX3_layOut, 5, none, mc_27) := by
  intro p e R s m args below meth c C hRf hRl pc
  obtain ⟨hx, hb, hml, hr, hlk, hnm, hown, hts, hEX, hgo, hf⟩ := C
  obtain ⟨hK, hA, hX, hZs, hZc, hZq, hTx, hSR0, hSR1, hAO, hN⟩ := id hEX
  have hAW : ∀ w ∈ mm_AW, w ∈ (Cond.code yX3_layOut cX3_layOut 5 none :: mm_AW) := fun w h => List.mem_cons_of_mem _ h
  have hown : s.vm.findClass "TippedCrates$Plan" = some m.cls := hown
  show mm_S p l e R s m args below meth c f D mm_cl cA 5 _ pc (mc_27 pc)
  unfold mc_27
  exact (ms_b (ms_b (ms_b (ms_b (ms_b (ms_lf (ms_aload_n (k := 0) hx hb rfl (by decide +kernel : decode cX3_layOut 0 = .ok (.aload_n 0, 1))))
    (ms_lf (ms_iload_n (k := 1) hx hb rfl (by decide +kernel : decode cX3_layOut 1 = .ok (.iload_n 1, 1)))))
    (ms_b (ms_lf (ms_put (C := RX3) (T := TX3) (N := 12) hx hb hf hts (fun w h => hAW w (inq_3 w h)) tyX3 tyX3_ok nmX3 hown hK rfl (by decide) (hts _ (hAW _ qw_265)) rfl rfl rfl (by decide +kernel : decode cX3_layOut 2 = .ok (.putfield 37, 3))))
    (ms_b (ms_lf (ms_aload_n (k := 0) hx hb rfl (by decide +kernel : decode cX3_layOut 5 = .ok (.aload_n 0, 1))))
    (ms_lf (ms_iload_n (k := 2) hx hb rfl (by decide +kernel : decode cX3_layOut 6 = .ok (.iload_n 2, 1)))))))
    (ms_b (ms_b (ms_lf (ms_put (C := RX3) (T := TX3) (N := 12) hx hb hf hts (fun w h => hAW w (inq_3 w h)) tyX3 tyX3_ok nmX3 hown hK rfl (by decide) (hts _ (hAW _ qw_268)) rfl rfl rfl (by decide +kernel : decode cX3_layOut 7 = .ok (.putfield 41, 3))))
    (ms_lf (ms_aload_n (k := 0) hx hb rfl (by decide +kernel : decode cX3_layOut 10 = .ok (.aload_n 0, 1)))))
    (ms_b (ms_lf (ms_iconst hx hb (by decide) (by decide +kernel : decode cX3_layOut 11 = .ok (.iconst 0, 1))))
    (ms_b (ms_lf (ms_put (C := RX3) (T := TX3) (N := 12) hx hb hf hts (fun w h => hAW w (inq_3 w h)) tyX3 tyX3_ok nmX3 hown hK rfl (by decide) (hts _ (hAW _ qw_273)) rfl rfl rfl (by decide +kernel : decode cX3_layOut 12 = .ok (.putfield 44, 3))))
    (ms_lf (ms_aload_n (k := 0) hx hb rfl (by decide +kernel : decode cX3_layOut 15 = .ok (.aload_n 0, 1))))))))
    (ms_b (ms_b (ms_b (ms_lf (ms_iconst hx hb (by decide) (by decide +kernel : decode cX3_layOut 16 = .ok (.iconst 0, 1))))
    (ms_lf (ms_put (C := RX3) (T := TX3) (N := 12) hx hb hf hts (fun w h => hAW w (inq_3 w h)) tyX3 tyX3_ok nmX3 hown hK rfl (by decide) (hts _ (hAW _ qw_277)) rfl rfl rfl (by decide +kernel : decode cX3_layOut 17 = .ok (.putfield 47, 3)))))
    (ms_b (ms_lf (ms_aload_n (k := 0) hx hb rfl (by decide +kernel : decode cX3_layOut 20 = .ok (.aload_n 0, 1))))
    (ms_b (ms_lf (ms_getf (C := RX3) (T := TX3) (N := 12) hx hb hf hts (fun w h => hAW w (inq_3 w h)) hown hK rfl (by decide) (hts _ (hAW _ qw_281)) rfl (by decide +kernel : decode cX3_layOut 21 = .ok (.getfield 9, 3))))
    (ms_lf (ms_iconst hx hb (by decide) (by decide +kernel : decode cX3_layOut 24 = .ok (.iconst 0, 1)))))))
    (ms_b (ms_b (ms_lf (ms_ivS hx hb hml hown hts hgo hEX (mm_GS hAW (mm_GI hAW gi_299) qw_820 qw_821 qw_136) rfl hd_299 (mm_rm hRf hRl (Nat.le_of_ble_eq_true rfl)) (by decide +kernel : decode cX3_layOut 25 = .ok (.invokestatic 50, 3))))
    (ms_lf (ms_aload_n (k := 0) hx hb rfl (by decide +kernel : decode cX3_layOut 28 = .ok (.aload_n 0, 1)))))
    (ms_b (ms_lf (ms_getf (C := RX3) (T := TX3) (N := 12) hx hb hf hts (fun w h => hAW w (inq_3 w h)) hown hK rfl (by decide) (hts _ (hAW _ qw_284)) rfl (by decide +kernel : decode cX3_layOut 29 = .ok (.getfield 15, 3))))
    (ms_b (ms_lf (ms_iconst hx hb (by decide) (by decide +kernel : decode cX3_layOut 32 = .ok (.iconst (-1), 1))))
    (ms_lf (ms_ivS hx hb hml hown hts hgo hEX (mm_GS hAW (mm_GI hAW gi_299) qw_820 qw_821 qw_136) rfl hd_299 (mm_rm hRf hRl (Nat.le_of_ble_eq_true rfl)) (by decide +kernel : decode cX3_layOut 33 = .ok (.invokestatic 50, 3)))))))))
    (ms_b (ms_b (ms_b (ms_b (ms_lf (ms_iconst hx hb (by decide) (by decide +kernel : decode cX3_layOut 36 = .ok (.iconst 0, 1))))
    (ms_lf (ms_istore_n (k := 3) hx hb rfl (by decide : 3 < 5) (by decide +kernel : decode cX3_layOut 37 = .ok (.istore_n 3, 1)))))
    (ms_b (ms_lf (ms_iload_n (k := 3) hx hb rfl (by decide +kernel : decode cX3_layOut 38 = .ok (.iload_n 3, 1))))
    (ms_b (ms_lf (ms_aload_n (k := 0) hx hb rfl (by decide +kernel : decode cX3_layOut 39 = .ok (.aload_n 0, 1))))
    (ms_lf (ms_getf (C := RX3) (T := TX3) (N := 12) hx hb hf hts (fun w h => hAW w (inq_3 w h)) hown hK rfl (by decide) (hts _ (hAW _ qw_268)) rfl (by decide +kernel : decode cX3_layOut 40 = .ok (.getfield 41, 3)))))))
    (ms_b (ms_b (ms_lf (ms_ic_ge hx hb (by decide) (by decide +kernel : decode cX3_layOut 43 = .ok (.if_icmp .ge 34, 3))))
    (ms_lf (ms_iconst hx hb (by decide) (by decide +kernel : decode cX3_layOut 46 = .ok (.iconst 0, 1)))))
    (ms_b (ms_lf (ms_istore hx hb (by decide : 4 < 5) (by decide +kernel : decode cX3_layOut 47 = .ok (.istore 4, 2))))
    (ms_b (ms_lf (ms_iload hx hb (by decide +kernel : decode cX3_layOut 49 = .ok (.iload 4, 2))))
    (ms_lf (ms_aload_n (k := 0) hx hb rfl (by decide +kernel : decode cX3_layOut 51 = .ok (.aload_n 0, 1))))))))
    (ms_b (ms_b (ms_b (ms_lf (ms_getf (C := RX3) (T := TX3) (N := 12) hx hb hf hts (fun w h => hAW w (inq_3 w h)) hown hK rfl (by decide) (hts _ (hAW _ qw_265)) rfl (by decide +kernel : decode cX3_layOut 52 = .ok (.getfield 37, 3))))
    (ms_lf (ms_ic_ge hx hb (by decide) (by decide +kernel : decode cX3_layOut 55 = .ok (.if_icmp .ge 16, 3)))))
    (ms_b (ms_lf (ms_aload_n (k := 0) hx hb rfl (by decide +kernel : decode cX3_layOut 58 = .ok (.aload_n 0, 1))))
    (ms_b (ms_lf (ms_iload hx hb (by decide +kernel : decode cX3_layOut 59 = .ok (.iload 4, 2))))
    (ms_lf (ms_iload_n (k := 3) hx hb rfl (by decide +kernel : decode cX3_layOut 61 = .ok (.iload_n 3, 1)))))))
    (ms_b (ms_b (ms_lf (ms_ivV (C := RX3) (T := TX3) (N := 12) hx hb hml hown hts hgo hEX hf hK rfl (mm_GV hAW (mm_GI hAW gi_28) qw_823 qw_825 qw_25 qw_123) rfl ⟨rfl, hd_28⟩ (mm_rm hRf hRl (Nat.le_of_ble_eq_true rfl)) (by decide +kernel : decode cX3_layOut 62 = .ok (.invokevirtual 56, 3))))
    (ms_b (ms_lf (ms_iinc hx hb (by decide) (by decide : 4 < 5) (by decide +kernel : decode cX3_layOut 65 = .ok (.iinc 4 1, 3))))
    (ms_lf (ms_goto hx hb (by decide) (by decide +kernel : decode cX3_layOut 68 = .ok (.goto (-19), 3))))))
    (ms_b (ms_lf (ms_iinc hx hb (by decide) (by decide : 3 < 5) (by decide +kernel : decode cX3_layOut 71 = .ok (.iinc 3 1, 3))))
    (ms_b (ms_lf (ms_goto hx hb (by decide) (by decide +kernel : decode cX3_layOut 74 = .ok (.goto (-36), 3))))
    (ms_lf (ms_ret hx hb hr hlk (by decide +kernel : decode cX3_layOut 77 = .ok (.return_, 1))))))))))
set_option maxRecDepth 100000 in
set_option maxHeartbeats 8000000 in
/-- TippedCrates$Plan.layFlag -/
theorem sd_28 (l : Launch) (f : Nat → Nat) (D : va_G) (cA : FieldType → ClassId) (d : Nat) : mm_Ok2 l f D cA d (yX3_layFlag, cX3_layFlag, 8, none, mc_28) := by
  intro p e R s m args below meth c C hRf hRl pc
  obtain ⟨hx, hb, hml, hr, hlk, hnm, hown, hts, hEX, hgo, hf⟩ := C
  obtain ⟨hK, hA, hX, hZs, hZc, hZq, hTx, hSR0, hSR1, hAO, hN⟩ := id hEX
  have hAW : ∀ w ∈ mm_AW, w ∈ (Cond.code yX3_layFlag cX3_layFlag 8 none :: mm_AW) := fun w h => List.mem_cons_of_mem _ h
  have hown : s.vm.findClass "TippedCrates$Plan" = some m.cls := hown
  show mm_S p l e R s m args below meth c f D mm_cl cA 8 _ pc (mc_28 pc)
  unfold mc_28
  exact (ms_b (ms_b (ms_b (ms_b (ms_b (ms_b (ms_lf (ms_aload_n (k := 0) hx hb rfl (by decide +kernel : decode cX3_layFlag 0 = .ok (.aload_n 0, 1))))
    (ms_lf (ms_iload_n (k := 1) hx hb rfl (by decide +kernel : decode cX3_layFlag 1 = .ok (.iload_n 1, 1)))))
    (ms_b (ms_lf (ms_iload_n (k := 2) hx hb rfl (by decide +kernel : decode cX3_layFlag 2 = .ok (.iload_n 2, 1))))
    (ms_lf (ms_ivV (C := RX3) (T := TX3) (N := 12) hx hb hml hown hts hgo hEX hf hK rfl (mm_GV hAW (mm_GI hAW gi_29) qw_827 qw_828 qw_829 qw_123) rfl ⟨rfl, hd_29⟩ (mm_rm hRf hRl (Nat.le_of_ble_eq_true rfl)) (by decide +kernel : decode cX3_layFlag 3 = .ok (.invokevirtual 60, 3))))))
    (ms_b (ms_b (ms_lf (ms_istore_n (k := 3) hx hb rfl (by decide : 3 < 8) (by decide +kernel : decode cX3_layFlag 6 = .ok (.istore_n 3, 1))))
    (ms_lf (ms_aload_n (k := 0) hx hb rfl (by decide +kernel : decode cX3_layFlag 7 = .ok (.aload_n 0, 1)))))
    (ms_b (ms_lf (ms_getf (C := RX3) (T := TX3) (N := 12) hx hb hf hts (fun w h => hAW w (inq_3 w h)) hown hK rfl (by decide) (hts _ (hAW _ qw_293)) rfl (by decide +kernel : decode cX3_layFlag 8 = .ok (.getfield 28, 3))))
    (ms_lf (ms_iload_n (k := 3) hx hb rfl (by decide +kernel : decode cX3_layFlag 11 = .ok (.iload_n 3, 1)))))))
    (ms_b (ms_b (ms_b (ms_lf (ms_iload_n (k := 1) hx hb rfl (by decide +kernel : decode cX3_layFlag 12 = .ok (.iload_n 1, 1))))
    (ms_lf (ms_iast hx hb hf hA (by decide +kernel : decode cX3_layFlag 13 = .ok (.iastore, 1)))))
    (ms_b (ms_lf (ms_aload_n (k := 0) hx hb rfl (by decide +kernel : decode cX3_layFlag 14 = .ok (.aload_n 0, 1))))
    (ms_lf (ms_getf (C := RX3) (T := TX3) (N := 12) hx hb hf hts (fun w h => hAW w (inq_3 w h)) hown hK rfl (by decide) (hts _ (hAW _ qw_295)) rfl (by decide +kernel : decode cX3_layFlag 15 = .ok (.getfield 31, 3))))))
    (ms_b (ms_b (ms_lf (ms_iload_n (k := 3) hx hb rfl (by decide +kernel : decode cX3_layFlag 18 = .ok (.iload_n 3, 1))))
    (ms_lf (ms_iload_n (k := 2) hx hb rfl (by decide +kernel : decode cX3_layFlag 19 = .ok (.iload_n 2, 1)))))
    (ms_b (ms_lf (ms_iast hx hb hf hA (by decide +kernel : decode cX3_layFlag 20 = .ok (.iastore, 1))))
    (ms_b (ms_lf (ms_iconst hx hb (by decide) (by decide +kernel : decode cX3_layFlag 21 = .ok (.iconst 0, 1))))
    (ms_lf (ms_istore hx hb (by decide : 4 < 8) (by decide +kernel : decode cX3_layFlag 22 = .ok (.istore 4, 2)))))))))
    (ms_b (ms_b (ms_b (ms_b (ms_lf (ms_iload hx hb (by decide +kernel : decode cX3_layFlag 24 = .ok (.iload 4, 2))))
    (ms_lf (ms_iconst hx hb (by decide) (by decide +kernel : decode cX3_layFlag 26 = .ok (.iconst 4, 1)))))
    (ms_b (ms_lf (ms_ic_ge hx hb (by decide) (by decide +kernel : decode cX3_layFlag 27 = .ok (.if_icmp .ge 94, 3))))
    (ms_lf (ms_iload_n (k := 1) hx hb rfl (by decide +kernel : decode cX3_layFlag 30 = .ok (.iload_n 1, 1))))))
    (ms_b (ms_b (ms_lf (ms_gsN hx hb hown (hZs 2 _ rfl) (va_Nw.use rfl (hN.2.2.2.2.2.2.2.1)) rfl (by decide +kernel : decode cX3_layFlag 31 = .ok (.getstatic 64, 3))))
    (ms_lf (ms_iload hx hb (by decide +kernel : decode cX3_layFlag 34 = .ok (.iload 4, 2)))))
    (ms_b (ms_lf (ms_iald hx hb hf hA hX (by decide +kernel : decode cX3_layFlag 36 = .ok (.iaload, 1))))
    (ms_b (ms_lf (ms_iadd hx hb (by decide +kernel : decode cX3_layFlag 37 = .ok (.iadd, 1))))
    (ms_lf (ms_istore hx hb (by decide : 5 < 8) (by decide +kernel : decode cX3_layFlag 38 = .ok (.istore 5, 2))))))))
    (ms_b (ms_b (ms_b (ms_lf (ms_iload_n (k := 2) hx hb rfl (by decide +kernel : decode cX3_layFlag 40 = .ok (.iload_n 2, 1))))
    (ms_lf (ms_gsN hx hb hown (hZs 3 _ rfl) (va_Nw.use rfl (hN.2.2.2.2.2.2.2.2.1)) rfl (by decide +kernel : decode cX3_layFlag 41 = .ok (.getstatic 67, 3)))))
    (ms_b (ms_lf (ms_iload hx hb (by decide +kernel : decode cX3_layFlag 44 = .ok (.iload 4, 2))))
    (ms_lf (ms_iald hx hb hf hA hX (by decide +kernel : decode cX3_layFlag 46 = .ok (.iaload, 1))))))
    (ms_b (ms_b (ms_lf (ms_iadd hx hb (by decide +kernel : decode cX3_layFlag 47 = .ok (.iadd, 1))))
    (ms_lf (ms_istore hx hb (by decide : 6 < 8) (by decide +kernel : decode cX3_layFlag 48 = .ok (.istore 6, 2)))))
    (ms_b (ms_lf (ms_iload hx hb (by decide +kernel : decode cX3_layFlag 50 = .ok (.iload 5, 2))))
    (ms_b (ms_lf (ms_iconst hx hb (by decide) (by decide +kernel : decode cX3_layFlag 52 = .ok (.iconst 0, 1))))
    (ms_lf (ms_aload_n (k := 0) hx hb rfl (by decide +kernel : decode cX3_layFlag 53 = .ok (.aload_n 0, 1))))))))))
    (ms_b (ms_b (ms_b (ms_b (ms_b (ms_lf (ms_getf (C := RX3) (T := TX3) (N := 12) hx hb hf hts (fun w h => hAW w (inq_3 w h)) hown hK rfl (by decide) (hts _ (hAW _ qw_265)) rfl (by decide +kernel : decode cX3_layFlag 54 = .ok (.getfield 37, 3))))
    (ms_lf (ms_iconst hx hb (by decide) (by decide +kernel : decode cX3_layFlag 57 = .ok (.iconst 1, 1)))))
    (ms_b (ms_lf (ms_isub hx hb (by decide +kernel : decode cX3_layFlag 58 = .ok (.isub, 1))))
    (ms_lf (ms_ivSN hx hb hml hown hts hgo hEX (mm_GI hAW gi_166) rfl (hN.2.2.2.2.2.2.2.2.2.1) (hts _ (hAW _ qw_748)) (hts _ (hAW _ qw_117)) hd_166 (mm_rm hRf hRl (Nat.le_of_ble_eq_true rfl)) (by decide +kernel : decode cX3_layFlag 59 = .ok (.invokestatic 70, 3))))))
    (ms_b (ms_b (ms_lf (ms_if_eq hx hb (by decide) (by decide +kernel : decode cX3_layFlag 62 = .ok (.ifCond .eq 22, 3))))
    (ms_lf (ms_iload hx hb (by decide +kernel : decode cX3_layFlag 65 = .ok (.iload 6, 2)))))
    (ms_b (ms_lf (ms_iconst hx hb (by decide) (by decide +kernel : decode cX3_layFlag 67 = .ok (.iconst 0, 1))))
    (ms_b (ms_lf (ms_aload_n (k := 0) hx hb rfl (by decide +kernel : decode cX3_layFlag 68 = .ok (.aload_n 0, 1))))
    (ms_lf (ms_getf (C := RX3) (T := TX3) (N := 12) hx hb hf hts (fun w h => hAW w (inq_3 w h)) hown hK rfl (by decide) (hts _ (hAW _ qw_268)) rfl (by decide +kernel : decode cX3_layFlag 69 = .ok (.getfield 41, 3))))))))
    (ms_b (ms_b (ms_b (ms_lf (ms_iconst hx hb (by decide) (by decide +kernel : decode cX3_layFlag 72 = .ok (.iconst 1, 1))))
    (ms_lf (ms_isub hx hb (by decide +kernel : decode cX3_layFlag 73 = .ok (.isub, 1)))))
    (ms_b (ms_lf (ms_ivSN hx hb hml hown hts hgo hEX (mm_GI hAW gi_166) rfl (hN.2.2.2.2.2.2.2.2.2.1) (hts _ (hAW _ qw_748)) (hts _ (hAW _ qw_117)) hd_166 (mm_rm hRf hRl (Nat.le_of_ble_eq_true rfl)) (by decide +kernel : decode cX3_layFlag 74 = .ok (.invokestatic 70, 3))))
    (ms_lf (ms_if_eq hx hb (by decide) (by decide +kernel : decode cX3_layFlag 77 = .ok (.ifCond .eq 7, 3))))))
    (ms_b (ms_b (ms_lf (ms_iconst hx hb (by decide) (by decide +kernel : decode cX3_layFlag 80 = .ok (.iconst 1, 1))))
    (ms_lf (ms_goto hx hb (by decide) (by decide +kernel : decode cX3_layFlag 81 = .ok (.goto 4, 3)))))
    (ms_b (ms_lf (ms_iconst hx hb (by decide) (by decide +kernel : decode cX3_layFlag 84 = .ok (.iconst 0, 1))))
    (ms_b (ms_lf (ms_istore hx hb (by decide : 7 < 8) (by decide +kernel : decode cX3_layFlag 85 = .ok (.istore 7, 2))))
    (ms_lf (ms_aload_n (k := 0) hx hb rfl (by decide +kernel : decode cX3_layFlag 87 = .ok (.aload_n 0, 1)))))))))
    (ms_b (ms_b (ms_b (ms_b (ms_lf (ms_getf (C := RX3) (T := TX3) (N := 12) hx hb hf hts (fun w h => hAW w (inq_3 w h)) hown hK rfl (by decide) (hts _ (hAW _ qw_297)) rfl (by decide +kernel : decode cX3_layFlag 88 = .ok (.getfield 34, 3))))
    (ms_lf (ms_iload_n (k := 3) hx hb rfl (by decide +kernel : decode cX3_layFlag 91 = .ok (.iload_n 3, 1)))))
    (ms_b (ms_lf (ms_iconst hx hb (by decide) (by decide +kernel : decode cX3_layFlag 92 = .ok (.iconst 4, 1))))
    (ms_lf (ms_imul hx hb (by decide +kernel : decode cX3_layFlag 93 = .ok (.imul, 1))))))
    (ms_b (ms_b (ms_lf (ms_iload hx hb (by decide +kernel : decode cX3_layFlag 94 = .ok (.iload 4, 2))))
    (ms_lf (ms_iadd hx hb (by decide +kernel : decode cX3_layFlag 96 = .ok (.iadd, 1)))))
    (ms_b (ms_lf (ms_iload hx hb (by decide +kernel : decode cX3_layFlag 97 = .ok (.iload 7, 2))))
    (ms_b (ms_lf (ms_if_eq hx hb (by decide) (by decide +kernel : decode cX3_layFlag 99 = .ok (.ifCond .eq 14, 3))))
    (ms_lf (ms_aload_n (k := 0) hx hb rfl (by decide +kernel : decode cX3_layFlag 102 = .ok (.aload_n 0, 1))))))))
    (ms_b (ms_b (ms_b (ms_lf (ms_iload hx hb (by decide +kernel : decode cX3_layFlag 103 = .ok (.iload 5, 2))))
    (ms_lf (ms_iload hx hb (by decide +kernel : decode cX3_layFlag 105 = .ok (.iload 6, 2)))))
    (ms_b (ms_lf (ms_ivV (C := RX3) (T := TX3) (N := 12) hx hb hml hown hts hgo hEX hf hK rfl (mm_GV hAW (mm_GI hAW gi_29) qw_827 qw_828 qw_829 qw_123) rfl ⟨rfl, hd_29⟩ (mm_rm hRf hRl (Nat.le_of_ble_eq_true rfl)) (by decide +kernel : decode cX3_layFlag 107 = .ok (.invokevirtual 60, 3))))
    (ms_lf (ms_goto hx hb (by decide) (by decide +kernel : decode cX3_layFlag 110 = .ok (.goto 4, 3))))))
    (ms_b (ms_b (ms_lf (ms_iconst hx hb (by decide) (by decide +kernel : decode cX3_layFlag 113 = .ok (.iconst (-1), 1))))
    (ms_lf (ms_iast hx hb hf hA (by decide +kernel : decode cX3_layFlag 114 = .ok (.iastore, 1)))))
    (ms_b (ms_lf (ms_iinc hx hb (by decide) (by decide : 4 < 8) (by decide +kernel : decode cX3_layFlag 115 = .ok (.iinc 4 1, 3))))
    (ms_b (ms_lf (ms_goto hx hb (by decide) (by decide +kernel : decode cX3_layFlag 118 = .ok (.goto (-94), 3))))
    (ms_lf (ms_ret hx hb hr hlk (by decide +kernel : decode cX3_layFlag 121 = .ok (.return_, 1)))))))))))
set_option maxRecDepth 100000 in
set_option maxHeartbeats 8000000 in
/-- TippedCrates$Plan.flagAt -/
theorem sd_29 (l : Launch) (f : Nat → Nat) (D : va_G) (cA : FieldType → ClassId) (d : Nat) : mm_Ok2 l f D cA d (yX3_flagAt, cX3_flagAt, 3, (some .int), mc_29) := by
  intro p e R s m args below meth c C hRf hRl pc
  obtain ⟨hx, hb, hml, hr, hlk, hnm, hown, hts, hEX, hgo, hf⟩ := C
  obtain ⟨hK, hA, hX, hZs, hZc, hZq, hTx, hSR0, hSR1, hAO, hN⟩ := id hEX
  have hAW : ∀ w ∈ mm_AW, w ∈ (Cond.code yX3_flagAt cX3_flagAt 3 (some .int) :: mm_AW) := fun w h => List.mem_cons_of_mem _ h
  have hown : s.vm.findClass "TippedCrates$Plan" = some m.cls := hown
  show mm_S p l e R s m args below meth c f D mm_cl cA 3 _ pc (mc_29 pc)
  unfold mc_29
  exact (ms_b (ms_b (ms_lf (ms_aload_n (k := 0) hx hb rfl (by decide +kernel : decode cX3_flagAt 0 = .ok (.aload_n 0, 1))))
    (ms_b (ms_lf (ms_getf (C := RX3) (T := TX3) (N := 12) hx hb hf hts (fun w h => hAW w (inq_3 w h)) hown hK rfl (by decide) (hts _ (hAW _ qw_265)) rfl (by decide +kernel : decode cX3_flagAt 1 = .ok (.getfield 37, 3))))
    (ms_lf (ms_iload_n (k := 2) hx hb rfl (by decide +kernel : decode cX3_flagAt 4 = .ok (.iload_n 2, 1))))))
    (ms_b (ms_b (ms_lf (ms_imul hx hb (by decide +kernel : decode cX3_flagAt 5 = .ok (.imul, 1))))
    (ms_lf (ms_iload_n (k := 1) hx hb rfl (by decide +kernel : decode cX3_flagAt 6 = .ok (.iload_n 1, 1)))))
    (ms_b (ms_lf (ms_iadd hx hb (by decide +kernel : decode cX3_flagAt 7 = .ok (.iadd, 1))))
    (ms_lf (ms_iret hx hb hr hlk (by decide +kernel : decode cX3_flagAt 8 = .ok (.ireturn, 1)))))))
set_option maxRecDepth 100000 in
set_option maxHeartbeats 8000000 in
/-- TippedCrates$Plan.nextFlag -/
theorem sd_30 (l : Launch) (f : Nat → Nat) (D : va_G) (cA : FieldType → ClassId) (d : Nat) : mm_Ok2 l f D cA d (yX3_nextFlag, cX3_nextFlag, 3, (some .int), mc_30) := by
  intro p e R s m args below meth c C hRf hRl pc
  obtain ⟨hx, hb, hml, hr, hlk, hnm, hown, hts, hEX, hgo, hf⟩ := C
  obtain ⟨hK, hA, hX, hZs, hZc, hZq, hTx, hSR0, hSR1, hAO, hN⟩ := id hEX
  have hAW : ∀ w ∈ mm_AW, w ∈ (Cond.code yX3_nextFlag cX3_nextFlag 3 (some .int) :: mm_AW) := fun w h => List.mem_cons_of_mem _ h
  have hown : s.vm.findClass "TippedCrates$Plan" = some m.cls := hown
  show mm_S p l e R s m args below meth c f D mm_cl cA 3 _ pc (mc_30 pc)
  unfold mc_30
  exact (ms_b (ms_b (ms_b (ms_lf (ms_aload_n (k := 0) hx hb rfl (by decide +kernel : decode cX3_nextFlag 0 = .ok (.aload_n 0, 1))))
    (ms_lf (ms_getf (C := RX3) (T := TX3) (N := 12) hx hb hf hts (fun w h => hAW w (inq_3 w h)) hown hK rfl (by decide) (hts _ (hAW _ qw_297)) rfl (by decide +kernel : decode cX3_nextFlag 1 = .ok (.getfield 34, 3)))))
    (ms_b (ms_lf (ms_iload_n (k := 1) hx hb rfl (by decide +kernel : decode cX3_nextFlag 4 = .ok (.iload_n 1, 1))))
    (ms_lf (ms_iconst hx hb (by decide) (by decide +kernel : decode cX3_nextFlag 5 = .ok (.iconst 4, 1))))))
    (ms_b (ms_b (ms_lf (ms_imul hx hb (by decide +kernel : decode cX3_nextFlag 6 = .ok (.imul, 1))))
    (ms_lf (ms_iload_n (k := 2) hx hb rfl (by decide +kernel : decode cX3_nextFlag 7 = .ok (.iload_n 2, 1)))))
    (ms_b (ms_lf (ms_iadd hx hb (by decide +kernel : decode cX3_nextFlag 8 = .ok (.iadd, 1))))
    (ms_b (ms_lf (ms_iald hx hb hf hA hX (by decide +kernel : decode cX3_nextFlag 9 = .ok (.iaload, 1))))
    (ms_lf (ms_iret hx hb hr hlk (by decide +kernel : decode cX3_nextFlag 10 = .ok (.ireturn, 1))))))))
set_option maxRecDepth 100000 in
set_option maxHeartbeats 8000000 in
/-- TippedCrates$Plan.isShut -/
theorem sd_31 (l : Launch) (f : Nat → Nat) (D : va_G) (cA : FieldType → ClassId) (d : Nat) : mm_Ok2 l f D cA d (yX3_isShut, cX3_isShut, 2, (some .boolean), mc_31) := by
  intro p e R s m args below meth c C hRf hRl pc
  obtain ⟨hx, hb, hml, hr, hlk, hnm, hown, hts, hEX, hgo, hf⟩ := C
  obtain ⟨hK, hA, hX, hZs, hZc, hZq, hTx, hSR0, hSR1, hAO, hN⟩ := id hEX
  have hAW : ∀ w ∈ mm_AW, w ∈ (Cond.code yX3_isShut cX3_isShut 2 (some .boolean) :: mm_AW) := fun w h => List.mem_cons_of_mem _ h
  have hown : s.vm.findClass "TippedCrates$Plan" = some m.cls := hown
  show mm_S p l e R s m args below meth c f D mm_cl cA 2 _ pc (mc_31 pc)
  unfold mc_31
  exact (ms_b (ms_b (ms_b (ms_lf (ms_aload_n (k := 0) hx hb rfl (by decide +kernel : decode cX3_isShut 0 = .ok (.aload_n 0, 1))))
    (ms_b (ms_lf (ms_getf (C := RX3) (T := TX3) (N := 12) hx hb hf hts (fun w h => hAW w (inq_3 w h)) hown hK rfl (by decide) (hts _ (hAW _ qw_277)) rfl (by decide +kernel : decode cX3_isShut 1 = .ok (.getfield 47, 3))))
    (ms_lf (ms_iload_n (k := 1) hx hb rfl (by decide +kernel : decode cX3_isShut 4 = .ok (.iload_n 1, 1))))))
    (ms_b (ms_lf (ms_ishr hx hb (by decide +kernel : decode cX3_isShut 5 = .ok (.ishr, 1))))
    (ms_b (ms_lf (ms_iconst hx hb (by decide) (by decide +kernel : decode cX3_isShut 6 = .ok (.iconst 1, 1))))
    (ms_lf (ms_iand hx hb (by decide +kernel : decode cX3_isShut 7 = .ok (.iand, 1)))))))
    (ms_b (ms_b (ms_lf (ms_iconst hx hb (by decide) (by decide +kernel : decode cX3_isShut 8 = .ok (.iconst 1, 1))))
    (ms_b (ms_lf (ms_ic_ne hx hb (by decide) (by decide +kernel : decode cX3_isShut 9 = .ok (.if_icmp .ne 7, 3))))
    (ms_lf (ms_iconst hx hb (by decide) (by decide +kernel : decode cX3_isShut 12 = .ok (.iconst 1, 1))))))
    (ms_b (ms_lf (ms_goto hx hb (by decide) (by decide +kernel : decode cX3_isShut 13 = .ok (.goto 4, 3))))
    (ms_b (ms_lf (ms_iconst hx hb (by decide) (by decide +kernel : decode cX3_isShut 16 = .ok (.iconst 0, 1))))
    (ms_lf (ms_iret hx hb hr hlk (by decide +kernel : decode cX3_isShut 17 = .ok (.ireturn, 1))))))))
set_option maxRecDepth 100000 in
set_option maxHeartbeats 8000000 in
/-- TippedCrates$Plan.allFlags -/
theorem sd_32 (l : Launch) (f : Nat → Nat) (D : va_G) (cA : FieldType → ClassId) (d : Nat) : mm_Ok2 l f D cA d (yX3_allFlags, cX3_allFlags, 1, (some .int), mc_32) := by
  intro p e R s m args below meth c C hRf hRl pc
  obtain ⟨hx, hb, hml, hr, hlk, hnm, hown, hts, hEX, hgo, hf⟩ := C
  obtain ⟨hK, hA, hX, hZs, hZc, hZq, hTx, hSR0, hSR1, hAO, hN⟩ := id hEX
  have hAW : ∀ w ∈ mm_AW, w ∈ (Cond.code yX3_allFlags cX3_allFlags 1 (some .int) :: mm_AW) := fun w h => List.mem_cons_of_mem _ h
  have hown : s.vm.findClass "TippedCrates$Plan" = some m.cls := hown
  show mm_S p l e R s m args below meth c f D mm_cl cA 1 _ pc (mc_32 pc)
  unfold mc_32
  exact (ms_b (ms_b (ms_b (ms_lf (ms_iconst hx hb (by decide) (by decide +kernel : decode cX3_allFlags 0 = .ok (.iconst 1, 1))))
    (ms_lf (ms_aload_n (k := 0) hx hb rfl (by decide +kernel : decode cX3_allFlags 1 = .ok (.aload_n 0, 1)))))
    (ms_b (ms_lf (ms_getf (C := RX3) (T := TX3) (N := 12) hx hb hf hts (fun w h => hAW w (inq_3 w h)) hown hK rfl (by decide) (hts _ (hAW _ qw_265)) rfl (by decide +kernel : decode cX3_allFlags 2 = .ok (.getfield 37, 3))))
    (ms_b (ms_lf (ms_aload_n (k := 0) hx hb rfl (by decide +kernel : decode cX3_allFlags 5 = .ok (.aload_n 0, 1))))
    (ms_lf (ms_getf (C := RX3) (T := TX3) (N := 12) hx hb hf hts (fun w h => hAW w (inq_3 w h)) hown hK rfl (by decide) (hts _ (hAW _ qw_268)) rfl (by decide +kernel : decode cX3_allFlags 6 = .ok (.getfield 41, 3)))))))
    (ms_b (ms_b (ms_lf (ms_imul hx hb (by decide +kernel : decode cX3_allFlags 9 = .ok (.imul, 1))))
    (ms_lf (ms_ishl hx hb (by decide +kernel : decode cX3_allFlags 10 = .ok (.ishl, 1)))))
    (ms_b (ms_lf (ms_iconst hx hb (by decide) (by decide +kernel : decode cX3_allFlags 11 = .ok (.iconst 1, 1))))
    (ms_b (ms_lf (ms_isub hx hb (by decide +kernel : decode cX3_allFlags 12 = .ok (.isub, 1))))
    (ms_lf (ms_iret hx hb hr hlk (by decide +kernel : decode cX3_allFlags 13 = .ok (.ireturn, 1))))))))
set_option maxRecDepth 100000 in
set_option maxHeartbeats 8000000 in
/-- TippedCrates$Reader.<init> -/
theorem sd_33 (l : Launch) (f : Nat → Nat) (D : va_G) (cA : FieldType → ClassId) (d : Nat) : mm_Ok2 l f D cA d (yX4_init, cX4_init, 3, none, mc_33) := by
  intro p e R s m args below meth c C hRf hRl pc
  obtain ⟨hx, hb, hml, hr, hlk, hnm, hown, hts, hEX, hgo, hf⟩ := C
  obtain ⟨hK, hA, hX, hZs, hZc, hZq, hTx, hSR0, hSR1, hAO, hN⟩ := id hEX
  have hAW : ∀ w ∈ mm_AW, w ∈ (Cond.code yX4_init cX4_init 3 none :: mm_AW) := fun w h => List.mem_cons_of_mem _ h
  have hown : s.vm.findClass "TippedCrates$Reader" = some m.cls := hown
  show mm_S p l e R s m args below meth c f D mm_cl cA 3 _ pc (mc_33 pc)
  unfold mc_33
  exact (ms_b (ms_b (ms_b (ms_b (ms_b (ms_lf (ms_aload_n (k := 0) hx hb rfl (by decide +kernel : decode cX4_init 0 = .ok (.aload_n 0, 1))))
    (ms_lf (ms_oi hx hb hml hown (hts _ (hAW _ qw_328)) (hts _ (hAW _ qw_144)) (hts _ (hAW _ qw_145)) (by omega) (by omega) (by decide +kernel : decode cX4_init 1 = .ok (.invokespecial 3, 3)))))
    (ms_b (ms_lf (ms_aload_n (k := 0) hx hb rfl (by decide +kernel : decode cX4_init 4 = .ok (.aload_n 0, 1))))
    (ms_lf (ms_iconst hx hb (by decide) (by decide +kernel : decode cX4_init 5 = .ok (.iconst (-1), 1))))))
    (ms_b (ms_b (ms_lf (ms_put (C := RX4) (T := TX4) (N := 19) hx hb hf hts (fun w h => hAW w (inq_4 w h)) tyX4 tyX4_ok nmX4 hown hK rfl (by decide) (hts _ (hAW _ qw_331)) rfl rfl rfl (by decide +kernel : decode cX4_init 6 = .ok (.putfield 9, 3))))
    (ms_lf (ms_aload_n (k := 0) hx hb rfl (by decide +kernel : decode cX4_init 9 = .ok (.aload_n 0, 1)))))
    (ms_b (ms_lf (ms_new (C := RX1) (T := TX1) (N := 5) hx hb hf hts (fun w h => hAW w (inq_1 w h)) tyX1 tyX1_ok hown (hts _ (hAW _ qw_329)) (hts _ (hAW _ qw_243)) (hts _ (hAW _ qw_124)) hK rfl nfs_1 rfl (by decide +kernel) (by decide +kernel : decode cX4_init 10 = .ok (.new 15, 3))))
    (ms_b (ms_lf (ms_dup hx hb (by decide +kernel : decode cX4_init 13 = .ok (.dup, 1))))
    (ms_lf (ms_ivIN hx hb hml hown hts hgo hEX (mm_GI hAW gi_12) rfl (hN.2.2.2.2.2.2.2.2.2.2.1) (hts _ (hAW _ qw_124)) (hts _ (hAW _ qw_245)) rfl hd_12 (mm_rm hRf hRl (Nat.le_of_ble_eq_true rfl)) (by decide +kernel : decode cX4_init 14 = .ok (.invokespecial 17, 3))))))))
    (ms_b (ms_b (ms_b (ms_lf (ms_putF (C := RX4) (T := TX4) (N := 19) hx hb hf hts (fun w h => hAW w (inq_4 w h)) tyX4 tyX4_ok nmX4 hown hK rfl (by decide) (hts _ (hAW _ qw_335)) rfl rfl hnm rfl rfl (by decide +kernel : decode cX4_init 17 = .ok (.putfield 18, 3))))
    (ms_lf (ms_aload_n (k := 0) hx hb rfl (by decide +kernel : decode cX4_init 20 = .ok (.aload_n 0, 1)))))
    (ms_b (ms_lf (ms_bipush hx hb (by decide) (by decide +kernel : decode cX4_init 21 = .ok (.bipush 16, 2))))
    (ms_lf (ms_na (aty := .int) hx hb hf hA rfl (hts _ (hAW _ qw_233)) rfl rfl rfl (by decide) (by decide +kernel : decode cX4_init 23 = .ok (.newarray .int, 2))))))
    (ms_b (ms_b (ms_lf (ms_putF (C := RX4) (T := TX4) (N := 19) hx hb hf hts (fun w h => hAW w (inq_4 w h)) tyX4 tyX4_ok nmX4 hown hK rfl (by decide) (hts _ (hAW _ qw_346)) rfl rfl hnm rfl rfl (by decide +kernel : decode cX4_init 25 = .ok (.putfield 22, 3))))
    (ms_lf (ms_aload_n (k := 0) hx hb rfl (by decide +kernel : decode cX4_init 28 = .ok (.aload_n 0, 1)))))
    (ms_b (ms_lf (ms_bipush hx hb (by decide) (by decide +kernel : decode cX4_init 29 = .ok (.bipush 30, 2))))
    (ms_b (ms_lf (ms_na (aty := .int) hx hb hf hA rfl (hts _ (hAW _ qw_233)) rfl rfl rfl (by decide) (by decide +kernel : decode cX4_init 31 = .ok (.newarray .int, 2))))
    (ms_lf (ms_putF (C := RX4) (T := TX4) (N := 19) hx hb hf hts (fun w h => hAW w (inq_4 w h)) tyX4 tyX4_ok nmX4 hown hK rfl (by decide) (hts _ (hAW _ qw_347)) rfl rfl hnm rfl rfl (by decide +kernel : decode cX4_init 33 = .ok (.putfield 26, 3)))))))))
    (ms_b (ms_b (ms_b (ms_b (ms_lf (ms_aload_n (k := 0) hx hb rfl (by decide +kernel : decode cX4_init 36 = .ok (.aload_n 0, 1))))
    (ms_lf (ms_bipush hx hb (by decide) (by decide +kernel : decode cX4_init 37 = .ok (.bipush 6, 2)))))
    (ms_b (ms_lf (ms_na (aty := .int) hx hb hf hA rfl (hts _ (hAW _ qw_233)) rfl rfl rfl (by decide) (by decide +kernel : decode cX4_init 39 = .ok (.newarray .int, 2))))
    (ms_lf (ms_putF (C := RX4) (T := TX4) (N := 19) hx hb hf hts (fun w h => hAW w (inq_4 w h)) tyX4 tyX4_ok nmX4 hown hK rfl (by decide) (hts _ (hAW _ qw_348)) rfl rfl hnm rfl rfl (by decide +kernel : decode cX4_init 41 = .ok (.putfield 29, 3))))))
    (ms_b (ms_b (ms_lf (ms_aload_n (k := 0) hx hb rfl (by decide +kernel : decode cX4_init 44 = .ok (.aload_n 0, 1))))
    (ms_lf (ms_bipush hx hb (by decide) (by decide +kernel : decode cX4_init 45 = .ok (.bipush 18, 2)))))
    (ms_b (ms_lf (ms_na (aty := .int) hx hb hf hA rfl (hts _ (hAW _ qw_233)) rfl rfl rfl (by decide) (by decide +kernel : decode cX4_init 47 = .ok (.newarray .int, 2))))
    (ms_b (ms_lf (ms_putF (C := RX4) (T := TX4) (N := 19) hx hb hf hts (fun w h => hAW w (inq_4 w h)) tyX4 tyX4_ok nmX4 hown hK rfl (by decide) (hts _ (hAW _ qw_349)) rfl rfl hnm rfl rfl (by decide +kernel : decode cX4_init 49 = .ok (.putfield 32, 3))))
    (ms_lf (ms_aload_n (k := 0) hx hb rfl (by decide +kernel : decode cX4_init 52 = .ok (.aload_n 0, 1))))))))
    (ms_b (ms_b (ms_b (ms_lf (ms_iconst hx hb (by decide) (by decide +kernel : decode cX4_init 53 = .ok (.iconst 3, 1))))
    (ms_lf (ms_na (aty := .long) hx hb hf hA rfl (hts _ (hAW _ qw_234)) rfl rfl rfl (by decide) (by decide +kernel : decode cX4_init 54 = .ok (.newarray .long, 2)))))
    (ms_b (ms_lf (ms_putF (C := RX4) (T := TX4) (N := 19) hx hb hf hts (fun w h => hAW w (inq_4 w h)) tyX4 tyX4_ok nmX4 hown hK rfl (by decide) (hts _ (hAW _ qw_350)) rfl rfl hnm rfl rfl (by decide +kernel : decode cX4_init 56 = .ok (.putfield 35, 3))))
    (ms_b (ms_lf (ms_aload_n (k := 0) hx hb rfl (by decide +kernel : decode cX4_init 59 = .ok (.aload_n 0, 1))))
    (ms_lf (ms_aload_n (k := 1) hx hb rfl (by decide +kernel : decode cX4_init 60 = .ok (.aload_n 1, 1)))))))
    (ms_b (ms_b (ms_lf (ms_putF (C := RX4) (T := TX4) (N := 19) hx hb hf hts (fun w h => hAW w (inq_4 w h)) tyX4 tyX4_ok nmX4 hown hK rfl (by decide) (hts _ (hAW _ qw_333)) rfl rfl hnm rfl rfl (by decide +kernel : decode cX4_init 61 = .ok (.putfield 39, 3))))
    (ms_lf (ms_aload_n (k := 0) hx hb rfl (by decide +kernel : decode cX4_init 64 = .ok (.aload_n 0, 1)))))
    (ms_b (ms_lf (ms_aload_n (k := 2) hx hb rfl (by decide +kernel : decode cX4_init 65 = .ok (.aload_n 2, 1))))
    (ms_b (ms_lf (ms_putF (C := RX4) (T := TX4) (N := 19) hx hb hf hts (fun w h => hAW w (inq_4 w h)) tyX4 tyX4_ok nmX4 hown hK rfl (by decide) (hts _ (hAW _ qw_334)) rfl rfl hnm rfl rfl (by decide +kernel : decode cX4_init 66 = .ok (.putfield 43, 3))))
    (ms_lf (ms_ret hx hb hr hlk (by decide +kernel : decode cX4_init 69 = .ok (.return_, 1))))))))))
set_option maxRecDepth 100000 in
set_option maxHeartbeats 8000000 in
/-- TippedCrates$Reader.readTape -/
theorem sd_34 (l : Launch) (f : Nat → Nat) (D : va_G) (cA : FieldType → ClassId) (d : Nat) : mm_Ok2 l f D cA d (yX4_readTape, cX4_readTape, 2, (some .int), mc_34) := by
  intro p e R s m args below meth c C hRf hRl pc
  obtain ⟨hx, hb, hml, hr, hlk, hnm, hown, hts, hEX, hgo, hf⟩ := C
  obtain ⟨hK, hA, hX, hZs, hZc, hZq, hTx, hSR0, hSR1, hAO, hN⟩ := id hEX
  have hAW : ∀ w ∈ mm_AW, w ∈ (Cond.code yX4_readTape cX4_readTape 2 (some .int) :: mm_AW) := fun w h => List.mem_cons_of_mem _ h
  have hown : s.vm.findClass "TippedCrates$Reader" = some m.cls := hown
  show mm_S p l e R s m args below meth c f D mm_cl cA 2 _ pc (mc_34 pc)
  unfold mc_34
  exact (ms_b (ms_b (ms_b (ms_b (ms_b (ms_lf (ms_aload_n (k := 0) hx hb rfl (by decide +kernel : decode cX4_readTape 0 = .ok (.aload_n 0, 1))))
    (ms_b (ms_lf (ms_ivV (C := RX4) (T := TX4) (N := 19) hx hb hml hown hts hgo hEX hf hK rfl (mm_GV hAW (mm_GI hAW gi_35) qw_624 qw_626 qw_1 qw_125) rfl ⟨rfl, hd_35⟩ (mm_rm hRf hRl (Nat.le_of_ble_eq_true rfl)) (by decide +kernel : decode cX4_readTape 1 = .ok (.invokevirtual 47, 3))))
    (ms_lf (ms_iconst hx hb (by decide) (by decide +kernel : decode cX4_readTape 4 = .ok (.iconst 0, 1))))))
    (ms_b (ms_lf (ms_istore_n (k := 1) hx hb rfl (by decide : 1 < 2) (by decide +kernel : decode cX4_readTape 5 = .ok (.istore_n 1, 1))))
    (ms_b (ms_lf (ms_iload_n (k := 1) hx hb rfl (by decide +kernel : decode cX4_readTape 6 = .ok (.iload_n 1, 1))))
    (ms_lf (ms_sipush hx hb (by decide) (by decide +kernel : decode cX4_readTape 7 = .ok (.sipush 400, 3)))))))
    (ms_b (ms_b (ms_lf (ms_ic_gt hx hb (by decide) (by decide +kernel : decode cX4_readTape 10 = .ok (.if_icmp .gt 29, 3))))
    (ms_b (ms_lf (ms_aload_n (k := 0) hx hb rfl (by decide +kernel : decode cX4_readTape 13 = .ok (.aload_n 0, 1))))
    (ms_lf (ms_getf (C := RX4) (T := TX4) (N := 19) hx hb hf hts (fun w h => hAW w (inq_4 w h)) hown hK rfl (by decide) (hts _ (hAW _ qw_337)) rfl (by decide +kernel : decode cX4_readTape 14 = .ok (.getfield 52, 3))))))
    (ms_b (ms_b (ms_lf (ms_if_ne hx hb (by decide) (by decide +kernel : decode cX4_readTape 17 = .ok (.ifCond .ne 22, 3))))
    (ms_lf (ms_aload_n (k := 0) hx hb rfl (by decide +kernel : decode cX4_readTape 20 = .ok (.aload_n 0, 1)))))
    (ms_b (ms_lf (ms_ivV (C := RX4) (T := TX4) (N := 19) hx hb hml hown hts hgo hEX hf hK rfl (mm_GV hAW (mm_GI hAW gi_36) qw_731 qw_733 qw_6 qw_125) rfl ⟨rfl, hd_36⟩ (mm_rm hRf hRl (Nat.le_of_ble_eq_true rfl)) (by decide +kernel : decode cX4_readTape 21 = .ok (.invokevirtual 55, 3))))
    (ms_lf (ms_bipush hx hb (by decide) (by decide +kernel : decode cX4_readTape 24 = .ok (.bipush 23, 2))))))))
    (ms_b (ms_b (ms_b (ms_lf (ms_ic_eq hx hb (by decide) (by decide +kernel : decode cX4_readTape 26 = .ok (.if_icmp .eq 13, 3))))
    (ms_b (ms_lf (ms_aload_n (k := 0) hx hb rfl (by decide +kernel : decode cX4_readTape 29 = .ok (.aload_n 0, 1))))
    (ms_lf (ms_ivV (C := RX4) (T := TX4) (N := 19) hx hb hml hown hts hgo hEX hf hK rfl (mm_GV hAW (mm_GI hAW gi_41) qw_735 qw_737 qw_7 qw_125) rfl ⟨rfl, hd_41⟩ (mm_rm hRf hRl (Nat.le_of_ble_eq_true rfl)) (by decide +kernel : decode cX4_readTape 30 = .ok (.invokevirtual 59, 3))))))
    (ms_b (ms_b (ms_lf (ms_iinc hx hb (by decide) (by decide : 1 < 2) (by decide +kernel : decode cX4_readTape 33 = .ok (.iinc 1 1, 3))))
    (ms_lf (ms_goto hx hb (by decide) (by decide +kernel : decode cX4_readTape 36 = .ok (.goto (-30), 3)))))
    (ms_b (ms_lf (ms_aload_n (k := 0) hx hb rfl (by decide +kernel : decode cX4_readTape 39 = .ok (.aload_n 0, 1))))
    (ms_lf (ms_getf (C := RX4) (T := TX4) (N := 19) hx hb hf hts (fun w h => hAW w (inq_4 w h)) hown hK rfl (by decide) (hts _ (hAW _ qw_337)) rfl (by decide +kernel : decode cX4_readTape 40 = .ok (.getfield 52, 3)))))))
    (ms_b (ms_b (ms_lf (ms_if_ne hx hb (by decide) (by decide +kernel : decode cX4_readTape 43 = .ok (.ifCond .ne 26, 3))))
    (ms_b (ms_lf (ms_aload_n (k := 0) hx hb rfl (by decide +kernel : decode cX4_readTape 46 = .ok (.aload_n 0, 1))))
    (ms_lf (ms_getf (C := RX4) (T := TX4) (N := 19) hx hb hf hts (fun w h => hAW w (inq_4 w h)) hown hK rfl (by decide) (hts _ (hAW _ qw_338)) rfl (by decide +kernel : decode cX4_readTape 47 = .ok (.getfield 62, 3))))))
    (ms_b (ms_b (ms_lf (ms_if_eq hx hb (by decide) (by decide +kernel : decode cX4_readTape 50 = .ok (.ifCond .eq 19, 3))))
    (ms_lf (ms_aload_n (k := 0) hx hb rfl (by decide +kernel : decode cX4_readTape 53 = .ok (.aload_n 0, 1)))))
    (ms_b (ms_lf (ms_aload_n (k := 0) hx hb rfl (by decide +kernel : decode cX4_readTape 54 = .ok (.aload_n 0, 1))))
    (ms_lf (ms_getf (C := RX4) (T := TX4) (N := 19) hx hb hf hts (fun w h => hAW w (inq_4 w h)) hown hK rfl (by decide) (hts _ (hAW _ qw_338)) rfl (by decide +kernel : decode cX4_readTape 55 = .ok (.getfield 62, 3)))))))))
    (ms_b (ms_b (ms_b (ms_b (ms_lf (ms_put (C := RX4) (T := TX4) (N := 19) hx hb hf hts (fun w h => hAW w (inq_4 w h)) tyX4 tyX4_ok nmX4 hown hK rfl (by decide) (hts _ (hAW _ qw_337)) rfl rfl rfl (by decide +kernel : decode cX4_readTape 58 = .ok (.putfield 52, 3))))
    (ms_b (ms_lf (ms_aload_n (k := 0) hx hb rfl (by decide +kernel : decode cX4_readTape 61 = .ok (.aload_n 0, 1))))
    (ms_lf (ms_aload_n (k := 0) hx hb rfl (by decide +kernel : decode cX4_readTape 62 = .ok (.aload_n 0, 1))))))
    (ms_b (ms_lf (ms_getf (C := RX4) (T := TX4) (N := 19) hx hb hf hts (fun w h => hAW w (inq_4 w h)) hown hK rfl (by decide) (hts _ (hAW _ qw_339)) rfl (by decide +kernel : decode cX4_readTape 63 = .ok (.getfield 65, 3))))
    (ms_b (ms_lf (ms_put (C := RX4) (T := TX4) (N := 19) hx hb hf hts (fun w h => hAW w (inq_4 w h)) tyX4 tyX4_ok nmX4 hown hK rfl (by decide) (hts _ (hAW _ qw_331)) rfl rfl rfl (by decide +kernel : decode cX4_readTape 66 = .ok (.putfield 9, 3))))
    (ms_lf (ms_aload_n (k := 0) hx hb rfl (by decide +kernel : decode cX4_readTape 69 = .ok (.aload_n 0, 1)))))))
    (ms_b (ms_b (ms_lf (ms_getf (C := RX4) (T := TX4) (N := 19) hx hb hf hts (fun w h => hAW w (inq_4 w h)) hown hK rfl (by decide) (hts _ (hAW _ qw_337)) rfl (by decide +kernel : decode cX4_readTape 70 = .ok (.getfield 52, 3))))
    (ms_b (ms_lf (ms_if_ne hx hb (by decide) (by decide +kernel : decode cX4_readTape 73 = .ok (.ifCond .ne 27, 3))))
    (ms_lf (ms_aload_n (k := 0) hx hb rfl (by decide +kernel : decode cX4_readTape 76 = .ok (.aload_n 0, 1))))))
    (ms_b (ms_b (ms_lf (ms_ivV (C := RX4) (T := TX4) (N := 19) hx hb hml hown hts hgo hEX hf hK rfl (mm_GV hAW (mm_GI hAW gi_51) qw_800 qw_802 qw_21 qw_125) rfl ⟨rfl, hd_51⟩ (mm_rm hRf hRl (Nat.le_of_ble_eq_true rfl)) (by decide +kernel : decode cX4_readTape 77 = .ok (.invokevirtual 68, 3))))
    (ms_lf (ms_if_ne hx hb (by decide) (by decide +kernel : decode cX4_readTape 80 = .ok (.ifCond .ne 20, 3)))))
    (ms_b (ms_lf (ms_aload_n (k := 0) hx hb rfl (by decide +kernel : decode cX4_readTape 83 = .ok (.aload_n 0, 1))))
    (ms_lf (ms_bipush hx hb (by decide) (by decide +kernel : decode cX4_readTape 84 = .ok (.bipush 6, 2))))))))
    (ms_b (ms_b (ms_b (ms_lf (ms_put (C := RX4) (T := TX4) (N := 19) hx hb hf hts (fun w h => hAW w (inq_4 w h)) tyX4 tyX4_ok nmX4 hown hK rfl (by decide) (hts _ (hAW _ qw_337)) rfl rfl rfl (by decide +kernel : decode cX4_readTape 86 = .ok (.putfield 52, 3))))
    (ms_b (ms_lf (ms_aload_n (k := 0) hx hb rfl (by decide +kernel : decode cX4_readTape 89 = .ok (.aload_n 0, 1))))
    (ms_lf (ms_aload_n (k := 0) hx hb rfl (by decide +kernel : decode cX4_readTape 90 = .ok (.aload_n 0, 1))))))
    (ms_b (ms_b (ms_lf (ms_getf (C := RX4) (T := TX4) (N := 19) hx hb hf hts (fun w h => hAW w (inq_4 w h)) hown hK rfl (by decide) (hts _ (hAW _ qw_333)) rfl (by decide +kernel : decode cX4_readTape 91 = .ok (.getfield 39, 3))))
    (ms_lf (ms_getf (C := RX8) (T := TX8) (N := 7) hx hb hf hts (fun w h => hAW w (inq_8 w h)) hown hK rfl (by decide) (hts _ (hAW _ qw_208)) rfl (by decide +kernel : decode cX4_readTape 94 = .ok (.getfield 72, 3)))))
    (ms_b (ms_lf (ms_put (C := RX4) (T := TX4) (N := 19) hx hb hf hts (fun w h => hAW w (inq_4 w h)) tyX4 tyX4_ok nmX4 hown hK rfl (by decide) (hts _ (hAW _ qw_331)) rfl rfl rfl (by decide +kernel : decode cX4_readTape 97 = .ok (.putfield 9, 3))))
    (ms_lf (ms_aload_n (k := 0) hx hb rfl (by decide +kernel : decode cX4_readTape 100 = .ok (.aload_n 0, 1)))))))
    (ms_b (ms_b (ms_lf (ms_getf (C := RX4) (T := TX4) (N := 19) hx hb hf hts (fun w h => hAW w (inq_4 w h)) hown hK rfl (by decide) (hts _ (hAW _ qw_337)) rfl (by decide +kernel : decode cX4_readTape 101 = .ok (.getfield 52, 3))))
    (ms_b (ms_lf (ms_if_ne hx hb (by decide) (by decide +kernel : decode cX4_readTape 104 = .ok (.ifCond .ne 7, 3))))
    (ms_lf (ms_aload_n (k := 0) hx hb rfl (by decide +kernel : decode cX4_readTape 107 = .ok (.aload_n 0, 1))))))
    (ms_b (ms_b (ms_lf (ms_ivV (C := RX4) (T := TX4) (N := 19) hx hb hml hown hts hgo hEX hf hK rfl (mm_GV hAW (mm_GI hAW gi_54) qw_812 qw_814 qw_24 qw_125) rfl ⟨rfl, hd_54⟩ (mm_rm hRf hRl (Nat.le_of_ble_eq_true rfl)) (by decide +kernel : decode cX4_readTape 108 = .ok (.invokevirtual 75, 3))))
    (ms_lf (ms_aload_n (k := 0) hx hb rfl (by decide +kernel : decode cX4_readTape 111 = .ok (.aload_n 0, 1)))))
    (ms_b (ms_lf (ms_getf (C := RX4) (T := TX4) (N := 19) hx hb hf hts (fun w h => hAW w (inq_4 w h)) hown hK rfl (by decide) (hts _ (hAW _ qw_337)) rfl (by decide +kernel : decode cX4_readTape 112 = .ok (.getfield 52, 3))))
    (ms_lf (ms_iret hx hb hr hlk (by decide +kernel : decode cX4_readTape 115 = .ok (.ireturn, 1))))))))))
set_option maxRecDepth 100000 in
set_option maxHeartbeats 8000000 in
/-- TippedCrates$Reader.begin -/
theorem sd_35 (l : Launch) (f : Nat → Nat) (D : va_G) (cA : FieldType → ClassId) (d : Nat) : mm_Ok2 l f D cA d (yX4_begin, cX4_begin, 1, none, mc_35) := by
  intro p e R s m args below meth c C hRf hRl pc
  obtain ⟨hx, hb, hml, hr, hlk, hnm, hown, hts, hEX, hgo, hf⟩ := C
  obtain ⟨hK, hA, hX, hZs, hZc, hZq, hTx, hSR0, hSR1, hAO, hN⟩ := id hEX
  have hAW : ∀ w ∈ mm_AW, w ∈ (Cond.code yX4_begin cX4_begin 1 none :: mm_AW) := fun w h => List.mem_cons_of_mem _ h
  have hown : s.vm.findClass "TippedCrates$Reader" = some m.cls := hown
  show mm_S p l e R s m args below meth c f D mm_cl cA 1 _ pc (mc_35 pc)
  unfold mc_35
  exact (ms_b (ms_b (ms_b (ms_b (ms_b (ms_lf (ms_aload_n (k := 0) hx hb rfl (by decide +kernel : decode cX4_begin 0 = .ok (.aload_n 0, 1))))
    (ms_lf (ms_iconst hx hb (by decide) (by decide +kernel : decode cX4_begin 1 = .ok (.iconst 0, 1)))))
    (ms_b (ms_lf (ms_put (C := RX4) (T := TX4) (N := 19) hx hb hf hts (fun w h => hAW w (inq_4 w h)) tyX4 tyX4_ok nmX4 hown hK rfl (by decide) (hts _ (hAW _ qw_337)) rfl rfl rfl (by decide +kernel : decode cX4_begin 2 = .ok (.putfield 52, 3))))
    (ms_b (ms_lf (ms_aload_n (k := 0) hx hb rfl (by decide +kernel : decode cX4_begin 5 = .ok (.aload_n 0, 1))))
    (ms_lf (ms_iconst hx hb (by decide) (by decide +kernel : decode cX4_begin 6 = .ok (.iconst (-1), 1)))))))
    (ms_b (ms_b (ms_lf (ms_put (C := RX4) (T := TX4) (N := 19) hx hb hf hts (fun w h => hAW w (inq_4 w h)) tyX4 tyX4_ok nmX4 hown hK rfl (by decide) (hts _ (hAW _ qw_331)) rfl rfl rfl (by decide +kernel : decode cX4_begin 7 = .ok (.putfield 9, 3))))
    (ms_lf (ms_aload_n (k := 0) hx hb rfl (by decide +kernel : decode cX4_begin 10 = .ok (.aload_n 0, 1)))))
    (ms_b (ms_lf (ms_iconst hx hb (by decide) (by decide +kernel : decode cX4_begin 11 = .ok (.iconst 0, 1))))
    (ms_b (ms_lf (ms_put (C := RX4) (T := TX4) (N := 19) hx hb hf hts (fun w h => hAW w (inq_4 w h)) tyX4 tyX4_ok nmX4 hown hK rfl (by decide) (hts _ (hAW _ qw_338)) rfl rfl rfl (by decide +kernel : decode cX4_begin 12 = .ok (.putfield 62, 3))))
    (ms_lf (ms_aload_n (k := 0) hx hb rfl (by decide +kernel : decode cX4_begin 15 = .ok (.aload_n 0, 1))))))))
    (ms_b (ms_b (ms_b (ms_lf (ms_iconst hx hb (by decide) (by decide +kernel : decode cX4_begin 16 = .ok (.iconst (-1), 1))))
    (ms_lf (ms_put (C := RX4) (T := TX4) (N := 19) hx hb hf hts (fun w h => hAW w (inq_4 w h)) tyX4 tyX4_ok nmX4 hown hK rfl (by decide) (hts _ (hAW _ qw_339)) rfl rfl rfl (by decide +kernel : decode cX4_begin 17 = .ok (.putfield 65, 3)))))
    (ms_b (ms_lf (ms_aload_n (k := 0) hx hb rfl (by decide +kernel : decode cX4_begin 20 = .ok (.aload_n 0, 1))))
    (ms_b (ms_lf (ms_iconst hx hb (by decide) (by decide +kernel : decode cX4_begin 21 = .ok (.iconst 4, 1))))
    (ms_lf (ms_put (C := RX4) (T := TX4) (N := 19) hx hb hf hts (fun w h => hAW w (inq_4 w h)) tyX4 tyX4_ok nmX4 hown hK rfl (by decide) (hts _ (hAW _ qw_340)) rfl rfl rfl (by decide +kernel : decode cX4_begin 22 = .ok (.putfield 78, 3)))))))
    (ms_b (ms_b (ms_lf (ms_aload_n (k := 0) hx hb rfl (by decide +kernel : decode cX4_begin 25 = .ok (.aload_n 0, 1))))
    (ms_lf (ms_iconst hx hb (by decide) (by decide +kernel : decode cX4_begin 26 = .ok (.iconst 4, 1)))))
    (ms_b (ms_lf (ms_put (C := RX4) (T := TX4) (N := 19) hx hb hf hts (fun w h => hAW w (inq_4 w h)) tyX4 tyX4_ok nmX4 hown hK rfl (by decide) (hts _ (hAW _ qw_341)) rfl rfl rfl (by decide +kernel : decode cX4_begin 27 = .ok (.putfield 81, 3))))
    (ms_b (ms_lf (ms_aload_n (k := 0) hx hb rfl (by decide +kernel : decode cX4_begin 30 = .ok (.aload_n 0, 1))))
    (ms_lf (ms_iconst hx hb (by decide) (by decide +kernel : decode cX4_begin 31 = .ok (.iconst 0, 1)))))))))
    (ms_b (ms_b (ms_b (ms_b (ms_lf (ms_put (C := RX4) (T := TX4) (N := 19) hx hb hf hts (fun w h => hAW w (inq_4 w h)) tyX4 tyX4_ok nmX4 hown hK rfl (by decide) (hts _ (hAW _ qw_342)) rfl rfl rfl (by decide +kernel : decode cX4_begin 32 = .ok (.putfield 84, 3))))
    (ms_lf (ms_aload_n (k := 0) hx hb rfl (by decide +kernel : decode cX4_begin 35 = .ok (.aload_n 0, 1)))))
    (ms_b (ms_lf (ms_iconst hx hb (by decide) (by decide +kernel : decode cX4_begin 36 = .ok (.iconst 0, 1))))
    (ms_b (ms_lf (ms_put (C := RX4) (T := TX4) (N := 19) hx hb hf hts (fun w h => hAW w (inq_4 w h)) tyX4 tyX4_ok nmX4 hown hK rfl (by decide) (hts _ (hAW _ qw_343)) rfl rfl rfl (by decide +kernel : decode cX4_begin 37 = .ok (.putfield 87, 3))))
    (ms_lf (ms_aload_n (k := 0) hx hb rfl (by decide +kernel : decode cX4_begin 40 = .ok (.aload_n 0, 1)))))))
    (ms_b (ms_b (ms_lf (ms_iconst hx hb (by decide) (by decide +kernel : decode cX4_begin 41 = .ok (.iconst 0, 1))))
    (ms_lf (ms_put (C := RX4) (T := TX4) (N := 19) hx hb hf hts (fun w h => hAW w (inq_4 w h)) tyX4 tyX4_ok nmX4 hown hK rfl (by decide) (hts _ (hAW _ qw_344)) rfl rfl rfl (by decide +kernel : decode cX4_begin 42 = .ok (.putfield 90, 3)))))
    (ms_b (ms_lf (ms_aload_n (k := 0) hx hb rfl (by decide +kernel : decode cX4_begin 45 = .ok (.aload_n 0, 1))))
    (ms_b (ms_lf (ms_iconst hx hb (by decide) (by decide +kernel : decode cX4_begin 46 = .ok (.iconst 0, 1))))
    (ms_lf (ms_put (C := RX4) (T := TX4) (N := 19) hx hb hf hts (fun w h => hAW w (inq_4 w h)) tyX4 tyX4_ok nmX4 hown hK rfl (by decide) (hts _ (hAW _ qw_345)) rfl rfl rfl (by decide +kernel : decode cX4_begin 47 = .ok (.putfield 93, 3))))))))
    (ms_b (ms_b (ms_b (ms_lf (ms_aload_n (k := 0) hx hb rfl (by decide +kernel : decode cX4_begin 50 = .ok (.aload_n 0, 1))))
    (ms_lf (ms_getf (C := RX4) (T := TX4) (N := 19) hx hb hf hts (fun w h => hAW w (inq_4 w h)) hown hK rfl (by decide) (hts _ (hAW _ qw_335)) rfl (by decide +kernel : decode cX4_begin 51 = .ok (.getfield 18, 3)))))
    (ms_b (ms_lf (ms_ivV (C := RX1) (T := TX1) (N := 5) hx hb hml hown hts hgo hEX hf hK rfl (mm_GV hAW (mm_GI hAW gi_13) qw_628 qw_629 qw_630 qw_124) rfl ⟨rfl, hd_13⟩ (mm_rm hRf hRl (Nat.le_of_ble_eq_true rfl)) (by decide +kernel : decode cX4_begin 54 = .ok (.invokevirtual 96, 3))))
    (ms_b (ms_lf (ms_aload_n (k := 0) hx hb rfl (by decide +kernel : decode cX4_begin 57 = .ok (.aload_n 0, 1))))
    (ms_lf (ms_getf (C := RX4) (T := TX4) (N := 19) hx hb hf hts (fun w h => hAW w (inq_4 w h)) hown hK rfl (by decide) (hts _ (hAW _ qw_333)) rfl (by decide +kernel : decode cX4_begin 58 = .ok (.getfield 39, 3)))))))
    (ms_b (ms_b (ms_lf (ms_ivV (C := RX8) (T := TX8) (N := 7) hx hb hml hown hts hgo hEX hf hK rfl (mm_GV hAW (mm_GI hAW gi_87) qw_640 qw_641 qw_642 qw_118) rfl ⟨rfl, hd_87⟩ (mm_rm hRf hRl (Nat.le_of_ble_eq_true rfl)) (by decide +kernel : decode cX4_begin 61 = .ok (.invokevirtual 99, 3))))
    (ms_lf (ms_aload_n (k := 0) hx hb rfl (by decide +kernel : decode cX4_begin 64 = .ok (.aload_n 0, 1)))))
    (ms_b (ms_lf (ms_iconst hx hb (by decide) (by decide +kernel : decode cX4_begin 65 = .ok (.iconst 0, 1))))
    (ms_b (ms_lf (ms_put (C := RX4) (T := TX4) (N := 19) hx hb hf hts (fun w h => hAW w (inq_4 w h)) tyX4 tyX4_ok nmX4 hown hK rfl (by decide) (hts _ (hAW _ qw_336)) rfl rfl rfl (by decide +kernel : decode cX4_begin 66 = .ok (.putfield 102, 3))))
    (ms_lf (ms_ret hx hb hr hlk (by decide +kernel : decode cX4_begin 69 = .ok (.return_, 1))))))))))
