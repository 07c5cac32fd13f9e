set_option maxRecDepth 100000 in
set_option maxHeartbeats 8000000 in
/-- TippedCrates.read -/
theorem sd_124 (l : Launch) (f : Nat → Nat) (D : va_G) (cA : FieldType → ClassId) (d : Nat) : mm_Ok2 l f D cA d (yX11_read, cX11_read, 2, (some .int), mc_124) := by
  intro p e R s m args below meth c C hRf hRl pc
  obtain ⟨hx, hb, hml, hr, hlk, hnm, hown, hts, hEX, hgo, hf⟩ := C
  obtain ⟨hK, hA, hX, hZs, hZc, hZq, hTx, hSR0, hSR1, hAO, hN⟩ := id hEX
  have hAW : ∀ w ∈ mm_AW, w ∈ (Cond.code yX11_read cX11_read 2 (some .int) :: mm_AW) := fun w h => List.mem_cons_of_mem _ h
  have hown : s.vm.findClass "TippedCrates" = some m.cls := hown
  show mm_S p l e R s m args below meth c f D mm_cl cA 2 _ pc (mc_124 pc)
  unfold mc_124
  exact (ms_b (ms_b (ms_b (ms_b (ms_lf (ms_aload_n (k := 0) hx hb rfl (by decide +kernel : decode cX11_read 0 = .ok (.aload_n 0, 1))))
    (ms_b (ms_lf (ms_getf (C := RX11) (T := TX11) (N := 11) hx hb hf hts (fun w h => hAW w (inq_11 w h)) hown hK rfl (by decide) (hts _ (hAW _ qw_851)) rfl (by decide +kernel : decode cX11_read 1 = .ok (.getfield 28, 3))))
    (ms_lf (ms_ivV (C := RX4) (T := TX4) (N := 19) hx hb hml hown hts hgo hEX hf hK rfl (mm_GV hAW (mm_GI hAW gi_34) qw_620 qw_621 qw_622 qw_125) rfl ⟨rfl, hd_34⟩ (mm_rm hRf hRl (Nat.le_of_ble_eq_true rfl)) (by decide +kernel : decode cX11_read 4 = .ok (.invokevirtual 92, 3))))))
    (ms_b (ms_lf (ms_istore_n (k := 1) hx hb rfl (by decide : 1 < 2) (by decide +kernel : decode cX11_read 7 = .ok (.istore_n 1, 1))))
    (ms_b (ms_lf (ms_aload_n (k := 0) hx hb rfl (by decide +kernel : decode cX11_read 8 = .ok (.aload_n 0, 1))))
    (ms_lf (ms_getf (C := RX11) (T := TX11) (N := 11) hx hb hf hts (fun w h => hAW w (inq_11 w h)) hown hK rfl (by decide) (hts _ (hAW _ qw_849)) rfl (by decide +kernel : decode cX11_read 9 = .ok (.getfield 10, 3)))))))
    (ms_b (ms_b (ms_lf (ms_iconst hx hb (by decide) (by decide +kernel : decode cX11_read 12 = .ok (.iconst 0, 1))))
    (ms_b (ms_lf (ms_put (C := RX8) (T := TX8) (N := 7) hx hb hf hts (fun w h => hAW w (inq_8 w h)) tyX8 tyX8_ok nmX8 hown hK rfl (by decide) (hts _ (hAW _ qw_206)) rfl rfl rfl (by decide +kernel : decode cX11_read 13 = .ok (.putfield 99, 3))))
    (ms_lf (ms_iload_n (k := 1) hx hb rfl (by decide +kernel : decode cX11_read 16 = .ok (.iload_n 1, 1))))))
    (ms_b (ms_lf (ms_if_ne hx hb (by decide) (by decide +kernel : decode cX11_read 17 = .ok (.ifCond .ne 29, 3))))
    (ms_b (ms_lf (ms_aload_n (k := 0) hx hb rfl (by decide +kernel : decode cX11_read 20 = .ok (.aload_n 0, 1))))
    (ms_lf (ms_getf (C := RX11) (T := TX11) (N := 11) hx hb hf hts (fun w h => hAW w (inq_11 w h)) hown hK rfl (by decide) (hts _ (hAW _ qw_858)) rfl (by decide +kernel : decode cX11_read 21 = .ok (.getfield 85, 3))))))))
    (ms_b (ms_b (ms_b (ms_lf (ms_aload_n (k := 0) hx hb rfl (by decide +kernel : decode cX11_read 24 = .ok (.aload_n 0, 1))))
    (ms_b (ms_lf (ms_getf (C := RX11) (T := TX11) (N := 11) hx hb hf hts (fun w h => hAW w (inq_11 w h)) hown hK rfl (by decide) (hts _ (hAW _ qw_850)) rfl (by decide +kernel : decode cX11_read 25 = .ok (.getfield 19, 3))))
    (ms_lf (ms_ivV (C := RX7) (T := TX7) (N := 7) hx hb hml hown hts hgo hEX hf hK rfl (mm_GV hAW (mm_GI hAW gi_75) qw_843 qw_844 qw_845 qw_133) rfl ⟨rfl, hd_75⟩ (mm_rm hRf hRl (Nat.le_of_ble_eq_true rfl)) (by decide +kernel : decode cX11_read 28 = .ok (.invokevirtual 96, 3))))))
    (ms_b (ms_lf (ms_aload_n (k := 0) hx hb rfl (by decide +kernel : decode cX11_read 31 = .ok (.aload_n 0, 1))))
    (ms_b (ms_lf (ms_getf (C := RX11) (T := TX11) (N := 11) hx hb hf hts (fun w h => hAW w (inq_11 w h)) hown hK rfl (by decide) (hts _ (hAW _ qw_857)) rfl (by decide +kernel : decode cX11_read 32 = .ok (.getfield 78, 3))))
    (ms_lf (ms_ivV (C := RX2) (T := TX2) (N := 5) hx hb hml hown hts hgo hEX hf hK rfl (mm_GV hAW (mm_GI hAW gi_20) qw_899 qw_900 qw_901 qw_132) rfl ⟨rfl, hd_20⟩ (mm_rm hRf hRl (Nat.le_of_ble_eq_true rfl)) (by decide +kernel : decode cX11_read 35 = .ok (.invokevirtual 107, 3)))))))
    (ms_b (ms_b (ms_lf (ms_aload_n (k := 0) hx hb rfl (by decide +kernel : decode cX11_read 38 = .ok (.aload_n 0, 1))))
    (ms_b (ms_lf (ms_getf (C := RX11) (T := TX11) (N := 11) hx hb hf hts (fun w h => hAW w (inq_11 w h)) hown hK rfl (by decide) (hts _ (hAW _ qw_856)) rfl (by decide +kernel : decode cX11_read 39 = .ok (.getfield 71, 3))))
    (ms_lf (ms_ivV (C := RX5) (T := TX5) (N := 11) hx hb hml hown hts hgo hEX hf hK rfl (mm_GV hAW (mm_GI hAW gi_57) qw_903 qw_904 qw_905 qw_131) rfl ⟨rfl, hd_57⟩ (mm_rm hRf hRl (Nat.le_of_ble_eq_true rfl)) (by decide +kernel : decode cX11_read 42 = .ok (.invokevirtual 110, 3))))))
    (ms_b (ms_lf (ms_pop hx hb (by decide +kernel : decode cX11_read 45 = .ok (.pop, 1))))
    (ms_b (ms_lf (ms_iload_n (k := 1) hx hb rfl (by decide +kernel : decode cX11_read 46 = .ok (.iload_n 1, 1))))
    (ms_lf (ms_iret hx hb hr hlk (by decide +kernel : decode cX11_read 47 = .ok (.ireturn, 1)))))))))
set_option maxRecDepth 100000 in
set_option maxHeartbeats 8000000 in
/-- TippedCrates.place -/
theorem sd_125 (l : Launch) (f : Nat → Nat) (D : va_G) (cA : FieldType → ClassId) (d : Nat) : mm_Ok2 l f D cA d (yX11_place, cX11_place, 1, (some .int), mc_125) := by
  intro p e R s m args below meth c C hRf hRl pc
  obtain ⟨hx, hb, hml, hr, hlk, hnm, hown, hts, hEX, hgo, hf⟩ := C
  obtain ⟨hK, hA, hX, hZs, hZc, hZq, hTx, hSR0, hSR1, hAO, hN⟩ := id hEX
  have hAW : ∀ w ∈ mm_AW, w ∈ (Cond.code yX11_place cX11_place 1 (some .int) :: mm_AW) := fun w h => List.mem_cons_of_mem _ h
  have hown : s.vm.findClass "TippedCrates" = some m.cls := hown
  show mm_S p l e R s m args below meth c f D mm_cl cA 1 _ pc (mc_125 pc)
  unfold mc_125
  exact (ms_b (ms_b (ms_lf (ms_aload_n (k := 0) hx hb rfl (by decide +kernel : decode cX11_place 0 = .ok (.aload_n 0, 1))))
    (ms_lf (ms_getf (C := RX11) (T := TX11) (N := 11) hx hb hf hts (fun w h => hAW w (inq_11 w h)) hown hK rfl (by decide) (hts _ (hAW _ qw_851)) rfl (by decide +kernel : decode cX11_place 1 = .ok (.getfield 28, 3)))))
    (ms_b (ms_lf (ms_getf (C := RX4) (T := TX4) (N := 19) hx hb hf hts (fun w h => hAW w (inq_4 w h)) hown hK rfl (by decide) (hts _ (hAW _ qw_332)) rfl (by decide +kernel : decode cX11_place 4 = .ok (.getfield 113, 3))))
    (ms_lf (ms_iret hx hb hr hlk (by decide +kernel : decode cX11_place 7 = .ok (.ireturn, 1))))))
set_option maxRecDepth 100000 in
set_option maxHeartbeats 8000000 in
/-- TippedCrates.flag -/
theorem sd_126 (l : Launch) (f : Nat → Nat) (D : va_G) (cA : FieldType → ClassId) (d : Nat) : mm_Ok2 l f D cA d (yX11_flag, cX11_flag, 4, (some .int), mc_126) := by
  intro p e R s m args below meth c C hRf hRl pc
  obtain ⟨hx, hb, hml, hr, hlk, hnm, hown, hts, hEX, hgo, hf⟩ := C
  obtain ⟨hK, hA, hX, hZs, hZc, hZq, hTx, hSR0, hSR1, hAO, hN⟩ := id hEX
  have hAW : ∀ w ∈ mm_AW, w ∈ (Cond.code yX11_flag cX11_flag 4 (some .int) :: mm_AW) := fun w h => List.mem_cons_of_mem _ h
  have hown : s.vm.findClass "TippedCrates" = some m.cls := hown
  show mm_S p l e R s m args below meth c f D mm_cl cA 4 _ pc (mc_126 pc)
  unfold mc_126
  exact (ms_b (ms_b (ms_b (ms_b (ms_b (ms_lf (ms_aload_n (k := 0) hx hb rfl (by decide +kernel : decode cX11_flag 0 = .ok (.aload_n 0, 1))))
    (ms_lf (ms_iload_n (k := 1) hx hb rfl (by decide +kernel : decode cX11_flag 1 = .ok (.iload_n 1, 1)))))
    (ms_b (ms_lf (ms_ivV (C := RX11) (T := TX11) (N := 11) hx hb hml hown hts hgo hEX hf hK rfl (mm_GV hAW (mm_GI hAW gi_163) qw_915 qw_917 qw_26 qw_117) rfl ⟨rfl, hd_163⟩ (mm_rm hRf hRl (Nat.le_of_ble_eq_true rfl)) (by decide +kernel : decode cX11_flag 2 = .ok (.invokevirtual 116, 3))))
    (ms_lf (ms_if_ne hx hb (by decide) (by decide +kernel : decode cX11_flag 5 = .ok (.ifCond .ne 5, 3))))))
    (ms_b (ms_b (ms_lf (ms_iconst hx hb (by decide) (by decide +kernel : decode cX11_flag 8 = .ok (.iconst (-1), 1))))
    (ms_lf (ms_iret hx hb hr hlk (by decide +kernel : decode cX11_flag 9 = .ok (.ireturn, 1)))))
    (ms_b (ms_lf (ms_iload_n (k := 2) hx hb rfl (by decide +kernel : decode cX11_flag 10 = .ok (.iload_n 2, 1))))
    (ms_b (ms_lf (ms_tsw hx hb (by decide) (by decide) (by decide +kernel : decode cX11_flag 11 = .ok (.tableswitch 73 0 2 #[25, 35, 52], 25))))
    (ms_lf (ms_aload_n (k := 0) hx hb rfl (by decide +kernel : decode cX11_flag 36 = .ok (.aload_n 0, 1))))))))
    (ms_b (ms_b (ms_b (ms_lf (ms_getf (C := RX11) (T := TX11) (N := 11) hx hb hf hts (fun w h => hAW w (inq_11 w h)) hown hK rfl (by decide) (hts _ (hAW _ qw_858)) rfl (by decide +kernel : decode cX11_flag 37 = .ok (.getfield 85, 3))))
    (ms_lf (ms_getf (C := RX7) (T := TX7) (N := 7) hx hb hf hts (fun w h => hAW w (inq_7 w h)) hown hK rfl (by decide) (hts _ (hAW _ qw_566)) rfl (by decide +kernel : decode cX11_flag 40 = .ok (.getfield 120, 3)))))
    (ms_b (ms_lf (ms_iload_n (k := 1) hx hb rfl (by decide +kernel : decode cX11_flag 43 = .ok (.iload_n 1, 1))))
    (ms_lf (ms_iald hx hb hf hA hX (by decide +kernel : decode cX11_flag 44 = .ok (.iaload, 1))))))
    (ms_b (ms_b (ms_lf (ms_iret hx hb hr hlk (by decide +kernel : decode cX11_flag 45 = .ok (.ireturn, 1))))
    (ms_lf (ms_aload_n (k := 0) hx hb rfl (by decide +kernel : decode cX11_flag 46 = .ok (.aload_n 0, 1)))))
    (ms_b (ms_lf (ms_getf (C := RX11) (T := TX11) (N := 11) hx hb hf hts (fun w h => hAW w (inq_11 w h)) hown hK rfl (by decide) (hts _ (hAW _ qw_850)) rfl (by decide +kernel : decode cX11_flag 47 = .ok (.getfield 19, 3))))
    (ms_b (ms_lf (ms_iload_n (k := 1) hx hb rfl (by decide +kernel : decode cX11_flag 50 = .ok (.iload_n 1, 1))))
    (ms_lf (ms_ivV (C := RX3) (T := TX3) (N := 12) hx hb hml hown hts hgo hEX hf hK rfl (mm_GV hAW (mm_GI hAW gi_31) qw_920 qw_921 qw_922 qw_123) rfl ⟨rfl, hd_31⟩ (mm_rm hRf hRl (Nat.le_of_ble_eq_true rfl)) (by decide +kernel : decode cX11_flag 51 = .ok (.invokevirtual 124, 3)))))))))
    (ms_b (ms_b (ms_b (ms_b (ms_lf (ms_if_eq hx hb (by decide) (by decide +kernel : decode cX11_flag 54 = .ok (.ifCond .eq 7, 3))))
    (ms_lf (ms_iconst hx hb (by decide) (by decide +kernel : decode cX11_flag 57 = .ok (.iconst 1, 1)))))
    (ms_b (ms_lf (ms_goto hx hb (by decide) (by decide +kernel : decode cX11_flag 58 = .ok (.goto 4, 3))))
    (ms_lf (ms_iconst hx hb (by decide) (by decide +kernel : decode cX11_flag 61 = .ok (.iconst 0, 1))))))
    (ms_b (ms_b (ms_lf (ms_iret hx hb hr hlk (by decide +kernel : decode cX11_flag 62 = .ok (.ireturn, 1))))
    (ms_lf (ms_aload_n (k := 0) hx hb rfl (by decide +kernel : decode cX11_flag 63 = .ok (.aload_n 0, 1)))))
    (ms_b (ms_lf (ms_getf (C := RX11) (T := TX11) (N := 11) hx hb hf hts (fun w h => hAW w (inq_11 w h)) hown hK rfl (by decide) (hts _ (hAW _ qw_858)) rfl (by decide +kernel : decode cX11_flag 64 = .ok (.getfield 85, 3))))
    (ms_b (ms_lf (ms_iload_n (k := 1) hx hb rfl (by decide +kernel : decode cX11_flag 67 = .ok (.iload_n 1, 1))))
    (ms_lf (ms_ivV (C := RX7) (T := TX7) (N := 7) hx hb hml hown hts hgo hEX hf hK rfl (mm_GV hAW (mm_GI hAW gi_77) qw_924 qw_925 qw_926 qw_133) rfl ⟨rfl, hd_77⟩ (mm_rm hRf hRl (Nat.le_of_ble_eq_true rfl)) (by decide +kernel : decode cX11_flag 68 = .ok (.invokevirtual 127, 3))))))))
    (ms_b (ms_b (ms_b (ms_lf (ms_istore_n (k := 3) hx hb rfl (by decide : 3 < 4) (by decide +kernel : decode cX11_flag 71 = .ok (.istore_n 3, 1))))
    (ms_lf (ms_iload_n (k := 3) hx hb rfl (by decide +kernel : decode cX11_flag 72 = .ok (.iload_n 3, 1)))))
    (ms_b (ms_lf (ms_iconst hx hb (by decide) (by decide +kernel : decode cX11_flag 73 = .ok (.iconst (-1), 1))))
    (ms_b (ms_lf (ms_ic_ne hx hb (by decide) (by decide +kernel : decode cX11_flag 74 = .ok (.if_icmp .ne 8, 3))))
    (ms_lf (ms_bipush hx hb (by decide) (by decide +kernel : decode cX11_flag 77 = .ok (.bipush (-2), 2)))))))
    (ms_b (ms_b (ms_lf (ms_goto hx hb (by decide) (by decide +kernel : decode cX11_flag 79 = .ok (.goto 4, 3))))
    (ms_lf (ms_iload_n (k := 3) hx hb rfl (by decide +kernel : decode cX11_flag 82 = .ok (.iload_n 3, 1)))))
    (ms_b (ms_lf (ms_iret hx hb hr hlk (by decide +kernel : decode cX11_flag 83 = .ok (.ireturn, 1))))
    (ms_b (ms_lf (ms_iconst hx hb (by decide) (by decide +kernel : decode cX11_flag 84 = .ok (.iconst (-1), 1))))
    (ms_lf (ms_iret hx hb hr hlk (by decide +kernel : decode cX11_flag 85 = .ok (.ireturn, 1))))))))))
set_option maxRecDepth 100000 in
set_option maxHeartbeats 8000000 in
/-- TippedCrates.crate -/
theorem sd_127 (l : Launch) (f : Nat → Nat) (D : va_G) (cA : FieldType → ClassId) (d : Nat) : mm_Ok2 l f D cA d (yX11_crate, cX11_crate, 3, (some .int), mc_127) := by
  intro p e R s m args below meth c C hRf hRl pc
  obtain ⟨hx, hb, hml, hr, hlk, hnm, hown, hts, hEX, hgo, hf⟩ := C
  obtain ⟨hK, hA, hX, hZs, hZc, hZq, hTx, hSR0, hSR1, hAO, hN⟩ := id hEX
  have hAW : ∀ w ∈ mm_AW, w ∈ (Cond.code yX11_crate cX11_crate 3 (some .int) :: mm_AW) := fun w h => List.mem_cons_of_mem _ h
  have hown : s.vm.findClass "TippedCrates" = some m.cls := hown
  show mm_S p l e R s m args below meth c f D mm_cl cA 3 _ pc (mc_127 pc)
  unfold mc_127
  exact (ms_b (ms_b (ms_b (ms_b (ms_b (ms_lf (ms_aload_n (k := 0) hx hb rfl (by decide +kernel : decode cX11_crate 0 = .ok (.aload_n 0, 1))))
    (ms_lf (ms_iload_n (k := 1) hx hb rfl (by decide +kernel : decode cX11_crate 1 = .ok (.iload_n 1, 1)))))
    (ms_b (ms_lf (ms_ivV (C := RX11) (T := TX11) (N := 11) hx hb hml hown hts hgo hEX hf hK rfl (mm_GV hAW (mm_GI hAW gi_162) qw_932 qw_934 qw_27 qw_117) rfl ⟨rfl, hd_162⟩ (mm_rm hRf hRl (Nat.le_of_ble_eq_true rfl)) (by decide +kernel : decode cX11_crate 2 = .ok (.invokevirtual 131, 3))))
    (ms_b (ms_lf (ms_if_ne hx hb (by decide) (by decide +kernel : decode cX11_crate 5 = .ok (.ifCond .ne 5, 3))))
    (ms_lf (ms_iconst hx hb (by decide) (by decide +kernel : decode cX11_crate 8 = .ok (.iconst (-1), 1)))))))
    (ms_b (ms_b (ms_lf (ms_iret hx hb hr hlk (by decide +kernel : decode cX11_crate 9 = .ok (.ireturn, 1))))
    (ms_lf (ms_iload_n (k := 2) hx hb rfl (by decide +kernel : decode cX11_crate 10 = .ok (.iload_n 2, 1)))))
    (ms_b (ms_lf (ms_bipush hx hb (by decide) (by decide +kernel : decode cX11_crate 11 = .ok (.bipush 6, 2))))
    (ms_b (ms_lf (ms_ic_ne hx hb (by decide) (by decide +kernel : decode cX11_crate 13 = .ok (.if_icmp .ne 13, 3))))
    (ms_lf (ms_aload_n (k := 0) hx hb rfl (by decide +kernel : decode cX11_crate 16 = .ok (.aload_n 0, 1))))))))
    (ms_b (ms_b (ms_b (ms_lf (ms_getf (C := RX11) (T := TX11) (N := 11) hx hb hf hts (fun w h => hAW w (inq_11 w h)) hown hK rfl (by decide) (hts _ (hAW _ qw_858)) rfl (by decide +kernel : decode cX11_crate 17 = .ok (.getfield 85, 3))))
    (ms_lf (ms_getf (C := RX7) (T := TX7) (N := 7) hx hb hf hts (fun w h => hAW w (inq_7 w h)) hown hK rfl (by decide) (hts _ (hAW _ qw_570)) rfl (by decide +kernel : decode cX11_crate 20 = .ok (.getfield 134, 3)))))
    (ms_b (ms_lf (ms_iload_n (k := 1) hx hb rfl (by decide +kernel : decode cX11_crate 23 = .ok (.iload_n 1, 1))))
    (ms_b (ms_lf (ms_iald hx hb hf hA hX (by decide +kernel : decode cX11_crate 24 = .ok (.iaload, 1))))
    (ms_lf (ms_iret hx hb hr hlk (by decide +kernel : decode cX11_crate 25 = .ok (.ireturn, 1)))))))
    (ms_b (ms_b (ms_lf (ms_iload_n (k := 2) hx hb rfl (by decide +kernel : decode cX11_crate 26 = .ok (.iload_n 2, 1))))
    (ms_lf (ms_bipush hx hb (by decide) (by decide +kernel : decode cX11_crate 27 = .ok (.bipush 7, 2)))))
    (ms_b (ms_lf (ms_ic_ne hx hb (by decide) (by decide +kernel : decode cX11_crate 29 = .ok (.if_icmp .ne 13, 3))))
    (ms_b (ms_lf (ms_aload_n (k := 0) hx hb rfl (by decide +kernel : decode cX11_crate 32 = .ok (.aload_n 0, 1))))
    (ms_lf (ms_getf (C := RX11) (T := TX11) (N := 11) hx hb hf hts (fun w h => hAW w (inq_11 w h)) hown hK rfl (by decide) (hts _ (hAW _ qw_858)) rfl (by decide +kernel : decode cX11_crate 33 = .ok (.getfield 85, 3)))))))))
    (ms_b (ms_b (ms_b (ms_b (ms_lf (ms_getf (C := RX7) (T := TX7) (N := 7) hx hb hf hts (fun w h => hAW w (inq_7 w h)) hown hK rfl (by decide) (hts _ (hAW _ qw_577)) rfl (by decide +kernel : decode cX11_crate 36 = .ok (.getfield 137, 3))))
    (ms_lf (ms_iload_n (k := 1) hx hb rfl (by decide +kernel : decode cX11_crate 39 = .ok (.iload_n 1, 1)))))
    (ms_b (ms_lf (ms_iald hx hb hf hA hX (by decide +kernel : decode cX11_crate 40 = .ok (.iaload, 1))))
    (ms_b (ms_lf (ms_iret hx hb hr hlk (by decide +kernel : decode cX11_crate 41 = .ok (.ireturn, 1))))
    (ms_lf (ms_iload_n (k := 2) hx hb rfl (by decide +kernel : decode cX11_crate 42 = .ok (.iload_n 2, 1)))))))
    (ms_b (ms_b (ms_lf (ms_iconst hx hb (by decide) (by decide +kernel : decode cX11_crate 43 = .ok (.iconst 0, 1))))
    (ms_lf (ms_iconst hx hb (by decide) (by decide +kernel : decode cX11_crate 44 = .ok (.iconst 5, 1)))))
    (ms_b (ms_lf (ms_ivS hx hb hml hown hts hgo hEX (mm_GS hAW (mm_GI hAW gi_166) qw_919 qw_748 qw_117) rfl hd_166 (mm_rm hRf hRl (Nat.le_of_ble_eq_true rfl)) (by decide +kernel : decode cX11_crate 45 = .ok (.invokestatic 140, 3))))
    (ms_b (ms_lf (ms_if_eq hx hb (by decide) (by decide +kernel : decode cX11_crate 48 = .ok (.ifCond .eq 20, 3))))
    (ms_lf (ms_aload_n (k := 0) hx hb rfl (by decide +kernel : decode cX11_crate 51 = .ok (.aload_n 0, 1))))))))
    (ms_b (ms_b (ms_b (ms_lf (ms_getf (C := RX11) (T := TX11) (N := 11) hx hb hf hts (fun w h => hAW w (inq_11 w h)) hown hK rfl (by decide) (hts _ (hAW _ qw_858)) rfl (by decide +kernel : decode cX11_crate 52 = .ok (.getfield 85, 3))))
    (ms_lf (ms_getf (C := RX7) (T := TX7) (N := 7) hx hb hf hts (fun w h => hAW w (inq_7 w h)) hown hK rfl (by decide) (hts _ (hAW _ qw_574)) rfl (by decide +kernel : decode cX11_crate 55 = .ok (.getfield 144, 3)))))
    (ms_b (ms_lf (ms_iload_n (k := 1) hx hb rfl (by decide +kernel : decode cX11_crate 58 = .ok (.iload_n 1, 1))))
    (ms_b (ms_lf (ms_bipush hx hb (by decide) (by decide +kernel : decode cX11_crate 59 = .ok (.bipush 6, 2))))
    (ms_lf (ms_imul hx hb (by decide +kernel : decode cX11_crate 61 = .ok (.imul, 1)))))))
    (ms_b (ms_b (ms_lf (ms_iload_n (k := 2) hx hb rfl (by decide +kernel : decode cX11_crate 62 = .ok (.iload_n 2, 1))))
    (ms_b (ms_lf (ms_iadd hx hb (by decide +kernel : decode cX11_crate 63 = .ok (.iadd, 1))))
    (ms_lf (ms_iald hx hb hf hA hX (by decide +kernel : decode cX11_crate 64 = .ok (.iaload, 1))))))
    (ms_b (ms_lf (ms_goto hx hb (by decide) (by decide +kernel : decode cX11_crate 65 = .ok (.goto 4, 3))))
    (ms_b (ms_lf (ms_iconst hx hb (by decide) (by decide +kernel : decode cX11_crate 68 = .ok (.iconst (-1), 1))))
    (ms_lf (ms_iret hx hb hr hlk (by decide +kernel : decode cX11_crate 69 = .ok (.ireturn, 1))))))))))
set_option maxRecDepth 100000 in
set_option maxHeartbeats 8000000 in
/-- TippedCrates.tells -/
theorem sd_128 (l : Launch) (f : Nat → Nat) (D : va_G) (cA : FieldType → ClassId) (d : Nat) : mm_Ok2 l f D cA d (yX11_tells, cX11_tells, 4, (some .int), mc_128) := by
  intro p e R s m args below meth c C hRf hRl pc
  obtain ⟨hx, hb, hml, hr, hlk, hnm, hown, hts, hEX, hgo, hf⟩ := C
  obtain ⟨hK, hA, hX, hZs, hZc, hZq, hTx, hSR0, hSR1, hAO, hN⟩ := id hEX
  have hAW : ∀ w ∈ mm_AW, w ∈ (Cond.code yX11_tells cX11_tells 4 (some .int) :: mm_AW) := fun w h => List.mem_cons_of_mem _ h
  have hown : s.vm.findClass "TippedCrates" = some m.cls := hown
  show mm_S p l e R s m args below meth c f D mm_cl cA 4 _ pc (mc_128 pc)
  unfold mc_128
  exact (ms_b (ms_b (ms_b (ms_b (ms_b (ms_lf (ms_aload_n (k := 0) hx hb rfl (by decide +kernel : decode cX11_tells 0 = .ok (.aload_n 0, 1))))
    (ms_b (ms_lf (ms_iload_n (k := 1) hx hb rfl (by decide +kernel : decode cX11_tells 1 = .ok (.iload_n 1, 1))))
    (ms_lf (ms_ivV (C := RX11) (T := TX11) (N := 11) hx hb hml hown hts hgo hEX hf hK rfl (mm_GV hAW (mm_GI hAW gi_162) qw_932 qw_934 qw_27 qw_117) rfl ⟨rfl, hd_162⟩ (mm_rm hRf hRl (Nat.le_of_ble_eq_true rfl)) (by decide +kernel : decode cX11_tells 2 = .ok (.invokevirtual 131, 3))))))
    (ms_b (ms_b (ms_lf (ms_if_eq hx hb (by decide) (by decide +kernel : decode cX11_tells 5 = .ok (.ifCond .eq 10, 3))))
    (ms_lf (ms_iload_n (k := 2) hx hb rfl (by decide +kernel : decode cX11_tells 8 = .ok (.iload_n 2, 1)))))
    (ms_b (ms_lf (ms_ivS hx hb hml hown hts hgo hEX (mm_GS hAW (mm_GI hAW gi_165) qw_940 qw_941 qw_117) rfl hd_165 (mm_rm hRf hRl (Nat.le_of_ble_eq_true rfl)) (by decide +kernel : decode cX11_tells 9 = .ok (.invokestatic 147, 3))))
    (ms_lf (ms_if_ne hx hb (by decide) (by decide +kernel : decode cX11_tells 12 = .ok (.ifCond .ne 5, 3)))))))
    (ms_b (ms_b (ms_lf (ms_iconst hx hb (by decide) (by decide +kernel : decode cX11_tells 15 = .ok (.iconst (-1), 1))))
    (ms_b (ms_lf (ms_iret hx hb hr hlk (by decide +kernel : decode cX11_tells 16 = .ok (.ireturn, 1))))
    (ms_lf (ms_aload_n (k := 0) hx hb rfl (by decide +kernel : decode cX11_tells 17 = .ok (.aload_n 0, 1))))))
    (ms_b (ms_b (ms_lf (ms_getf (C := RX11) (T := TX11) (N := 11) hx hb hf hts (fun w h => hAW w (inq_11 w h)) hown hK rfl (by decide) (hts _ (hAW _ qw_852)) rfl (by decide +kernel : decode cX11_tells 18 = .ok (.getfield 37, 3))))
    (ms_lf (ms_aload_n (k := 0) hx hb rfl (by decide +kernel : decode cX11_tells 21 = .ok (.aload_n 0, 1)))))
    (ms_b (ms_lf (ms_getf (C := RX11) (T := TX11) (N := 11) hx hb hf hts (fun w h => hAW w (inq_11 w h)) hown hK rfl (by decide) (hts _ (hAW _ qw_858)) rfl (by decide +kernel : decode cX11_tells 22 = .ok (.getfield 85, 3))))
    (ms_lf (ms_iload_n (k := 1) hx hb rfl (by decide +kernel : decode cX11_tells 25 = .ok (.iload_n 1, 1))))))))
    (ms_b (ms_b (ms_b (ms_lf (ms_iload_n (k := 2) hx hb rfl (by decide +kernel : decode cX11_tells 26 = .ok (.iload_n 2, 1))))
    (ms_b (ms_lf (ms_ivV (C := RX0) (T := TX0) (N := 1) hx hb hml hown hts hgo hEX hf hK rfl (mm_GV hAW (mm_GI hAW gi_2) qw_943 qw_944 qw_945 qw_126) rfl ⟨rfl, hd_2⟩ (mm_rm hRf hRl (Nat.le_of_ble_eq_true rfl)) (by decide +kernel : decode cX11_tells 27 = .ok (.invokevirtual 150, 3))))
    (ms_lf (ms_iload_n (k := 3) hx hb rfl (by decide +kernel : decode cX11_tells 30 = .ok (.iload_n 3, 1))))))
    (ms_b (ms_b (ms_lf (ms_tsw hx hb (by decide) (by decide) (by decide +kernel : decode cX11_tells 31 = .ok (.tableswitch 105 0 4 #[33, 55, 63, 80, 97], 33))))
    (ms_lf (ms_aload_n (k := 0) hx hb rfl (by decide +kernel : decode cX11_tells 64 = .ok (.aload_n 0, 1)))))
    (ms_b (ms_lf (ms_getf (C := RX11) (T := TX11) (N := 11) hx hb hf hts (fun w h => hAW w (inq_11 w h)) hown hK rfl (by decide) (hts _ (hAW _ qw_852)) rfl (by decide +kernel : decode cX11_tells 65 = .ok (.getfield 37, 3))))
    (ms_lf (ms_aload_n (k := 0) hx hb rfl (by decide +kernel : decode cX11_tells 68 = .ok (.aload_n 0, 1)))))))
    (ms_b (ms_b (ms_b (ms_lf (ms_getf (C := RX11) (T := TX11) (N := 11) hx hb hf hts (fun w h => hAW w (inq_11 w h)) hown hK rfl (by decide) (hts _ (hAW _ qw_858)) rfl (by decide +kernel : decode cX11_tells 69 = .ok (.getfield 85, 3))))
    (ms_lf (ms_iload_n (k := 1) hx hb rfl (by decide +kernel : decode cX11_tells 72 = .ok (.iload_n 1, 1)))))
    (ms_b (ms_lf (ms_iload_n (k := 2) hx hb rfl (by decide +kernel : decode cX11_tells 73 = .ok (.iload_n 2, 1))))
    (ms_lf (ms_ivV (C := RX0) (T := TX0) (N := 1) hx hb hml hown hts hgo hEX hf hK rfl (mm_GV hAW (mm_GI hAW gi_1) qw_959 qw_960 qw_961 qw_126) rfl ⟨rfl, hd_1⟩ (mm_rm hRf hRl (Nat.le_of_ble_eq_true rfl)) (by decide +kernel : decode cX11_tells 74 = .ok (.invokevirtual 154, 3))))))
    (ms_b (ms_b (ms_lf (ms_if_eq hx hb (by decide) (by decide +kernel : decode cX11_tells 77 = .ok (.ifCond .eq 7, 3))))
    (ms_lf (ms_iconst hx hb (by decide) (by decide +kernel : decode cX11_tells 80 = .ok (.iconst 1, 1)))))
    (ms_b (ms_lf (ms_goto hx hb (by decide) (by decide +kernel : decode cX11_tells 81 = .ok (.goto 4, 3))))
    (ms_lf (ms_iconst hx hb (by decide) (by decide +kernel : decode cX11_tells 84 = .ok (.iconst 0, 1)))))))))
    (ms_b (ms_b (ms_b (ms_b (ms_lf (ms_iret hx hb hr hlk (by decide +kernel : decode cX11_tells 85 = .ok (.ireturn, 1))))
    (ms_b (ms_lf (ms_aload_n (k := 0) hx hb rfl (by decide +kernel : decode cX11_tells 86 = .ok (.aload_n 0, 1))))
    (ms_lf (ms_getf (C := RX11) (T := TX11) (N := 11) hx hb hf hts (fun w h => hAW w (inq_11 w h)) hown hK rfl (by decide) (hts _ (hAW _ qw_852)) rfl (by decide +kernel : decode cX11_tells 87 = .ok (.getfield 37, 3))))))
    (ms_b (ms_b (ms_lf (ms_ivV (C := RX0) (T := TX0) (N := 1) hx hb hml hown hts hgo hEX hf hK rfl (mm_GV hAW (mm_GI hAW gi_4) qw_965 qw_966 qw_967 qw_126) rfl ⟨rfl, hd_4⟩ (mm_rm hRf hRl (Nat.le_of_ble_eq_true rfl)) (by decide +kernel : decode cX11_tells 90 = .ok (.invokevirtual 158, 3))))
    (ms_lf (ms_iret hx hb hr hlk (by decide +kernel : decode cX11_tells 93 = .ok (.ireturn, 1)))))
    (ms_b (ms_lf (ms_aload_n (k := 0) hx hb rfl (by decide +kernel : decode cX11_tells 94 = .ok (.aload_n 0, 1))))
    (ms_lf (ms_getf (C := RX11) (T := TX11) (N := 11) hx hb hf hts (fun w h => hAW w (inq_11 w h)) hown hK rfl (by decide) (hts _ (hAW _ qw_852)) rfl (by decide +kernel : decode cX11_tells 95 = .ok (.getfield 37, 3)))))))
    (ms_b (ms_b (ms_lf (ms_iconst hx hb (by decide) (by decide +kernel : decode cX11_tells 98 = .ok (.iconst 0, 1))))
    (ms_b (ms_lf (ms_ivV (C := RX0) (T := TX0) (N := 1) hx hb hml hown hts hgo hEX hf hK rfl (mm_GV hAW (mm_GI hAW gi_6) qw_975 qw_976 qw_977 qw_126) rfl ⟨rfl, hd_6⟩ (mm_rm hRf hRl (Nat.le_of_ble_eq_true rfl)) (by decide +kernel : decode cX11_tells 99 = .ok (.invokevirtual 161, 3))))
    (ms_lf (ms_if_eq hx hb (by decide) (by decide +kernel : decode cX11_tells 102 = .ok (.ifCond .eq 7, 3))))))
    (ms_b (ms_b (ms_lf (ms_iconst hx hb (by decide) (by decide +kernel : decode cX11_tells 105 = .ok (.iconst 1, 1))))
    (ms_lf (ms_goto hx hb (by decide) (by decide +kernel : decode cX11_tells 106 = .ok (.goto 4, 3)))))
    (ms_b (ms_lf (ms_iconst hx hb (by decide) (by decide +kernel : decode cX11_tells 109 = .ok (.iconst 0, 1))))
    (ms_lf (ms_iret hx hb hr hlk (by decide +kernel : decode cX11_tells 110 = .ok (.ireturn, 1))))))))
    (ms_b (ms_b (ms_b (ms_lf (ms_aload_n (k := 0) hx hb rfl (by decide +kernel : decode cX11_tells 111 = .ok (.aload_n 0, 1))))
    (ms_b (ms_lf (ms_getf (C := RX11) (T := TX11) (N := 11) hx hb hf hts (fun w h => hAW w (inq_11 w h)) hown hK rfl (by decide) (hts _ (hAW _ qw_852)) rfl (by decide +kernel : decode cX11_tells 112 = .ok (.getfield 37, 3))))
    (ms_lf (ms_iconst hx hb (by decide) (by decide +kernel : decode cX11_tells 115 = .ok (.iconst 1, 1))))))
    (ms_b (ms_b (ms_lf (ms_ivV (C := RX0) (T := TX0) (N := 1) hx hb hml hown hts hgo hEX hf hK rfl (mm_GV hAW (mm_GI hAW gi_6) qw_975 qw_976 qw_977 qw_126) rfl ⟨rfl, hd_6⟩ (mm_rm hRf hRl (Nat.le_of_ble_eq_true rfl)) (by decide +kernel : decode cX11_tells 116 = .ok (.invokevirtual 161, 3))))
    (ms_lf (ms_if_eq hx hb (by decide) (by decide +kernel : decode cX11_tells 119 = .ok (.ifCond .eq 7, 3)))))
    (ms_b (ms_lf (ms_iconst hx hb (by decide) (by decide +kernel : decode cX11_tells 122 = .ok (.iconst 1, 1))))
    (ms_lf (ms_goto hx hb (by decide) (by decide +kernel : decode cX11_tells 123 = .ok (.goto 4, 3)))))))
    (ms_b (ms_b (ms_b (ms_lf (ms_iconst hx hb (by decide) (by decide +kernel : decode cX11_tells 126 = .ok (.iconst 0, 1))))
    (ms_lf (ms_iret hx hb hr hlk (by decide +kernel : decode cX11_tells 127 = .ok (.ireturn, 1)))))
    (ms_b (ms_lf (ms_aload_n (k := 0) hx hb rfl (by decide +kernel : decode cX11_tells 128 = .ok (.aload_n 0, 1))))
    (ms_lf (ms_getf (C := RX11) (T := TX11) (N := 11) hx hb hf hts (fun w h => hAW w (inq_11 w h)) hown hK rfl (by decide) (hts _ (hAW _ qw_852)) rfl (by decide +kernel : decode cX11_tells 129 = .ok (.getfield 37, 3))))))
    (ms_b (ms_b (ms_lf (ms_ivV (C := RX0) (T := TX0) (N := 1) hx hb hml hown hts hgo hEX hf hK rfl (mm_GV hAW (mm_GI hAW gi_5) qw_979 qw_980 qw_981 qw_126) rfl ⟨rfl, hd_5⟩ (mm_rm hRf hRl (Nat.le_of_ble_eq_true rfl)) (by decide +kernel : decode cX11_tells 132 = .ok (.invokevirtual 164, 3))))
    (ms_lf (ms_iret hx hb hr hlk (by decide +kernel : decode cX11_tells 135 = .ok (.ireturn, 1)))))
    (ms_b (ms_lf (ms_iconst hx hb (by decide) (by decide +kernel : decode cX11_tells 136 = .ok (.iconst (-1), 1))))
    (ms_lf (ms_iret hx hb hr hlk (by decide +kernel : decode cX11_tells 137 = .ok (.ireturn, 1))))))))))
set_option maxRecDepth 100000 in
set_option maxHeartbeats 8000000 in
/-- TippedCrates.tip -/
theorem sd_129 (l : Launch) (f : Nat → Nat) (D : va_G) (cA : FieldType → ClassId) (d : Nat) : mm_Ok2 l f D cA d (yX11_tip, cX11_tip, 3, (some .int), mc_129) := by
  intro p e R s m args below meth c C hRf hRl pc
  obtain ⟨hx, hb, hml, hr, hlk, hnm, hown, hts, hEX, hgo, hf⟩ := C
  obtain ⟨hK, hA, hX, hZs, hZc, hZq, hTx, hSR0, hSR1, hAO, hN⟩ := id hEX
  have hAW : ∀ w ∈ mm_AW, w ∈ (Cond.code yX11_tip cX11_tip 3 (some .int) :: mm_AW) := fun w h => List.mem_cons_of_mem _ h
  have hown : s.vm.findClass "TippedCrates" = some m.cls := hown
  show mm_S p l e R s m args below meth c f D mm_cl cA 3 _ pc (mc_129 pc)
  unfold mc_129
  exact (ms_b (ms_b (ms_b (ms_b (ms_b (ms_lf (ms_aload_n (k := 0) hx hb rfl (by decide +kernel : decode cX11_tip 0 = .ok (.aload_n 0, 1))))
    (ms_lf (ms_iload_n (k := 1) hx hb rfl (by decide +kernel : decode cX11_tip 1 = .ok (.iload_n 1, 1)))))
    (ms_b (ms_lf (ms_ivV (C := RX11) (T := TX11) (N := 11) hx hb hml hown hts hgo hEX hf hK rfl (mm_GV hAW (mm_GI hAW gi_162) qw_932 qw_934 qw_27 qw_117) rfl ⟨rfl, hd_162⟩ (mm_rm hRf hRl (Nat.le_of_ble_eq_true rfl)) (by decide +kernel : decode cX11_tip 2 = .ok (.invokevirtual 131, 3))))
    (ms_lf (ms_if_eq hx hb (by decide) (by decide +kernel : decode cX11_tip 5 = .ok (.ifCond .eq 26, 3))))))
    (ms_b (ms_b (ms_lf (ms_iload_n (k := 2) hx hb rfl (by decide +kernel : decode cX11_tip 8 = .ok (.iload_n 2, 1))))
    (ms_lf (ms_ivS hx hb hml hown hts hgo hEX (mm_GS hAW (mm_GI hAW gi_165) qw_940 qw_941 qw_117) rfl hd_165 (mm_rm hRf hRl (Nat.le_of_ble_eq_true rfl)) (by decide +kernel : decode cX11_tip 9 = .ok (.invokestatic 147, 3)))))
    (ms_b (ms_lf (ms_if_eq hx hb (by decide) (by decide +kernel : decode cX11_tip 12 = .ok (.ifCond .eq 19, 3))))
    (ms_lf (ms_aload_n (k := 0) hx hb rfl (by decide +kernel : decode cX11_tip 15 = .ok (.aload_n 0, 1)))))))
    (ms_b (ms_b (ms_b (ms_lf (ms_getf (C := RX11) (T := TX11) (N := 11) hx hb hf hts (fun w h => hAW w (inq_11 w h)) hown hK rfl (by decide) (hts _ (hAW _ qw_852)) rfl (by decide +kernel : decode cX11_tip 16 = .ok (.getfield 37, 3))))
    (ms_lf (ms_aload_n (k := 0) hx hb rfl (by decide +kernel : decode cX11_tip 19 = .ok (.aload_n 0, 1)))))
    (ms_b (ms_lf (ms_getf (C := RX11) (T := TX11) (N := 11) hx hb hf hts (fun w h => hAW w (inq_11 w h)) hown hK rfl (by decide) (hts _ (hAW _ qw_858)) rfl (by decide +kernel : decode cX11_tip 20 = .ok (.getfield 85, 3))))
    (ms_lf (ms_iload_n (k := 1) hx hb rfl (by decide +kernel : decode cX11_tip 23 = .ok (.iload_n 1, 1))))))
    (ms_b (ms_b (ms_lf (ms_iload_n (k := 2) hx hb rfl (by decide +kernel : decode cX11_tip 24 = .ok (.iload_n 2, 1))))
    (ms_lf (ms_ivV (C := RX0) (T := TX0) (N := 1) hx hb hml hown hts hgo hEX hf hK rfl (mm_GV hAW (mm_GI hAW gi_1) qw_959 qw_960 qw_961 qw_126) rfl ⟨rfl, hd_1⟩ (mm_rm hRf hRl (Nat.le_of_ble_eq_true rfl)) (by decide +kernel : decode cX11_tip 25 = .ok (.invokevirtual 154, 3)))))
    (ms_b (ms_lf (ms_if_ne hx hb (by decide) (by decide +kernel : decode cX11_tip 28 = .ok (.ifCond .ne 5, 3))))
    (ms_b (ms_lf (ms_iconst hx hb (by decide) (by decide +kernel : decode cX11_tip 31 = .ok (.iconst (-1), 1))))
    (ms_lf (ms_iret hx hb hr hlk (by decide +kernel : decode cX11_tip 32 = .ok (.ireturn, 1)))))))))
    (ms_b (ms_b (ms_b (ms_b (ms_lf (ms_aload_n (k := 0) hx hb rfl (by decide +kernel : decode cX11_tip 33 = .ok (.aload_n 0, 1))))
    (ms_lf (ms_getf (C := RX11) (T := TX11) (N := 11) hx hb hf hts (fun w h => hAW w (inq_11 w h)) hown hK rfl (by decide) (hts _ (hAW _ qw_857)) rfl (by decide +kernel : decode cX11_tip 34 = .ok (.getfield 78, 3)))))
    (ms_b (ms_lf (ms_aload_n (k := 0) hx hb rfl (by decide +kernel : decode cX11_tip 37 = .ok (.aload_n 0, 1))))
    (ms_lf (ms_getf (C := RX11) (T := TX11) (N := 11) hx hb hf hts (fun w h => hAW w (inq_11 w h)) hown hK rfl (by decide) (hts _ (hAW _ qw_858)) rfl (by decide +kernel : decode cX11_tip 38 = .ok (.getfield 85, 3))))))
    (ms_b (ms_b (ms_lf (ms_ivV (C := RX2) (T := TX2) (N := 5) hx hb hml hown hts hgo hEX hf hK rfl (mm_GV hAW (mm_GI hAW gi_21) qw_987 qw_988 qw_989 qw_132) rfl ⟨rfl, hd_21⟩ (mm_rm hRf hRl (Nat.le_of_ble_eq_true rfl)) (by decide +kernel : decode cX11_tip 41 = .ok (.invokevirtual 167, 3))))
    (ms_lf (ms_aload_n (k := 0) hx hb rfl (by decide +kernel : decode cX11_tip 44 = .ok (.aload_n 0, 1)))))
    (ms_b (ms_lf (ms_getf (C := RX11) (T := TX11) (N := 11) hx hb hf hts (fun w h => hAW w (inq_11 w h)) hown hK rfl (by decide) (hts _ (hAW _ qw_852)) rfl (by decide +kernel : decode cX11_tip 45 = .ok (.getfield 37, 3))))
    (ms_b (ms_lf (ms_aload_n (k := 0) hx hb rfl (by decide +kernel : decode cX11_tip 48 = .ok (.aload_n 0, 1))))
    (ms_lf (ms_getf (C := RX11) (T := TX11) (N := 11) hx hb hf hts (fun w h => hAW w (inq_11 w h)) hown hK rfl (by decide) (hts _ (hAW _ qw_858)) rfl (by decide +kernel : decode cX11_tip 49 = .ok (.getfield 85, 3))))))))
    (ms_b (ms_b (ms_b (ms_lf (ms_iload_n (k := 1) hx hb rfl (by decide +kernel : decode cX11_tip 52 = .ok (.iload_n 1, 1))))
    (ms_lf (ms_iload_n (k := 2) hx hb rfl (by decide +kernel : decode cX11_tip 53 = .ok (.iload_n 2, 1)))))
    (ms_b (ms_lf (ms_ivV (C := RX0) (T := TX0) (N := 1) hx hb hml hown hts hgo hEX hf hK rfl (mm_GV hAW (mm_GI hAW gi_7) qw_996 qw_997 qw_998 qw_126) rfl ⟨rfl, hd_7⟩ (mm_rm hRf hRl (Nat.le_of_ble_eq_true rfl)) (by decide +kernel : decode cX11_tip 54 = .ok (.invokevirtual 171, 3))))
    (ms_lf (ms_aload_n (k := 0) hx hb rfl (by decide +kernel : decode cX11_tip 57 = .ok (.aload_n 0, 1))))))
    (ms_b (ms_b (ms_lf (ms_getf (C := RX11) (T := TX11) (N := 11) hx hb hf hts (fun w h => hAW w (inq_11 w h)) hown hK rfl (by decide) (hts _ (hAW _ qw_858)) rfl (by decide +kernel : decode cX11_tip 58 = .ok (.getfield 85, 3))))
    (ms_lf (ms_getf (C := RX7) (T := TX7) (N := 7) hx hb hf hts (fun w h => hAW w (inq_7 w h)) hown hK rfl (by decide) (hts _ (hAW _ qw_570)) rfl (by decide +kernel : decode cX11_tip 61 = .ok (.getfield 134, 3)))))
    (ms_b (ms_lf (ms_iload_n (k := 1) hx hb rfl (by decide +kernel : decode cX11_tip 64 = .ok (.iload_n 1, 1))))
    (ms_b (ms_lf (ms_iald hx hb hf hA hX (by decide +kernel : decode cX11_tip 65 = .ok (.iaload, 1))))
    (ms_lf (ms_iret hx hb hr hlk (by decide +kernel : decode cX11_tip 66 = .ok (.ireturn, 1))))))))))
set_option maxRecDepth 100000 in
set_option maxHeartbeats 8000000 in
/-- TippedCrates.paint -/
theorem sd_130 (l : Launch) (f : Nat → Nat) (D : va_G) (cA : FieldType → ClassId) (d : Nat) : mm_Ok2 l f D cA d (yX11_paint, cX11_paint, 3, (some .boolean), mc_130) := by
  intro p e R s m args below meth c C hRf hRl pc
  obtain ⟨hx, hb, hml, hr, hlk, hnm, hown, hts, hEX, hgo, hf⟩ := C
  obtain ⟨hK, hA, hX, hZs, hZc, hZq, hTx, hSR0, hSR1, hAO, hN⟩ := id hEX
  have hAW : ∀ w ∈ mm_AW, w ∈ (Cond.code yX11_paint cX11_paint 3 (some .boolean) :: mm_AW) := fun w h => List.mem_cons_of_mem _ h
  have hown : s.vm.findClass "TippedCrates" = some m.cls := hown
  show mm_S p l e R s m args below meth c f D mm_cl cA 3 _ pc (mc_130 pc)
  unfold mc_130
  exact (ms_b (ms_b (ms_b (ms_b (ms_b (ms_lf (ms_aload_n (k := 0) hx hb rfl (by decide +kernel : decode cX11_paint 0 = .ok (.aload_n 0, 1))))
    (ms_lf (ms_iload_n (k := 1) hx hb rfl (by decide +kernel : decode cX11_paint 1 = .ok (.iload_n 1, 1)))))
    (ms_b (ms_lf (ms_ivV (C := RX11) (T := TX11) (N := 11) hx hb hml hown hts hgo hEX hf hK rfl (mm_GV hAW (mm_GI hAW gi_163) qw_915 qw_917 qw_26 qw_117) rfl ⟨rfl, hd_163⟩ (mm_rm hRf hRl (Nat.le_of_ble_eq_true rfl)) (by decide +kernel : decode cX11_paint 2 = .ok (.invokevirtual 116, 3))))
    (ms_b (ms_lf (ms_if_eq hx hb (by decide) (by decide +kernel : decode cX11_paint 5 = .ok (.ifCond .eq 23, 3))))
    (ms_lf (ms_iload_n (k := 2) hx hb rfl (by decide +kernel : decode cX11_paint 8 = .ok (.iload_n 2, 1)))))))
    (ms_b (ms_b (ms_lf (ms_ivS hx hb hml hown hts hgo hEX (mm_GS hAW (mm_GI hAW gi_164) qw_1008 qw_1009 qw_117) rfl hd_164 (mm_rm hRf hRl (Nat.le_of_ble_eq_true rfl)) (by decide +kernel : decode cX11_paint 9 = .ok (.invokestatic 174, 3))))
    (ms_lf (ms_if_eq hx hb (by decide) (by decide +kernel : decode cX11_paint 12 = .ok (.ifCond .eq 16, 3)))))
    (ms_b (ms_lf (ms_aload_n (k := 0) hx hb rfl (by decide +kernel : decode cX11_paint 15 = .ok (.aload_n 0, 1))))
    (ms_b (ms_lf (ms_getf (C := RX11) (T := TX11) (N := 11) hx hb hf hts (fun w h => hAW w (inq_11 w h)) hown hK rfl (by decide) (hts _ (hAW _ qw_858)) rfl (by decide +kernel : decode cX11_paint 16 = .ok (.getfield 85, 3))))
    (ms_lf (ms_getf (C := RX7) (T := TX7) (N := 7) hx hb hf hts (fun w h => hAW w (inq_7 w h)) hown hK rfl (by decide) (hts _ (hAW _ qw_566)) rfl (by decide +kernel : decode cX11_paint 19 = .ok (.getfield 120, 3))))))))
    (ms_b (ms_b (ms_b (ms_lf (ms_iload_n (k := 1) hx hb rfl (by decide +kernel : decode cX11_paint 22 = .ok (.iload_n 1, 1))))
    (ms_lf (ms_iald hx hb hf hA hX (by decide +kernel : decode cX11_paint 23 = .ok (.iaload, 1)))))
    (ms_b (ms_lf (ms_iload_n (k := 2) hx hb rfl (by decide +kernel : decode cX11_paint 24 = .ok (.iload_n 2, 1))))
    (ms_b (ms_lf (ms_ic_ne hx hb (by decide) (by decide +kernel : decode cX11_paint 25 = .ok (.if_icmp .ne 5, 3))))
    (ms_lf (ms_iconst hx hb (by decide) (by decide +kernel : decode cX11_paint 28 = .ok (.iconst 0, 1)))))))
    (ms_b (ms_b (ms_lf (ms_iret hx hb hr hlk (by decide +kernel : decode cX11_paint 29 = .ok (.ireturn, 1))))
    (ms_b (ms_lf (ms_aload_n (k := 0) hx hb rfl (by decide +kernel : decode cX11_paint 30 = .ok (.aload_n 0, 1))))
    (ms_lf (ms_getf (C := RX11) (T := TX11) (N := 11) hx hb hf hts (fun w h => hAW w (inq_11 w h)) hown hK rfl (by decide) (hts _ (hAW _ qw_850)) rfl (by decide +kernel : decode cX11_paint 31 = .ok (.getfield 19, 3))))))
    (ms_b (ms_lf (ms_iload_n (k := 1) hx hb rfl (by decide +kernel : decode cX11_paint 34 = .ok (.iload_n 1, 1))))
    (ms_b (ms_lf (ms_ivV (C := RX3) (T := TX3) (N := 12) hx hb hml hown hts hgo hEX hf hK rfl (mm_GV hAW (mm_GI hAW gi_31) qw_920 qw_921 qw_922 qw_123) rfl ⟨rfl, hd_31⟩ (mm_rm hRf hRl (Nat.le_of_ble_eq_true rfl)) (by decide +kernel : decode cX11_paint 35 = .ok (.invokevirtual 124, 3))))
    (ms_lf (ms_if_ne hx hb (by decide) (by decide +kernel : decode cX11_paint 38 = .ok (.ifCond .ne 15, 3)))))))))
    (ms_b (ms_b (ms_b (ms_b (ms_lf (ms_aload_n (k := 0) hx hb rfl (by decide +kernel : decode cX11_paint 41 = .ok (.aload_n 0, 1))))
    (ms_lf (ms_getf (C := RX11) (T := TX11) (N := 11) hx hb hf hts (fun w h => hAW w (inq_11 w h)) hown hK rfl (by decide) (hts _ (hAW _ qw_858)) rfl (by decide +kernel : decode cX11_paint 42 = .ok (.getfield 85, 3)))))
    (ms_b (ms_lf (ms_iload_n (k := 1) hx hb rfl (by decide +kernel : decode cX11_paint 45 = .ok (.iload_n 1, 1))))
    (ms_b (ms_lf (ms_ivV (C := RX7) (T := TX7) (N := 7) hx hb hml hown hts hgo hEX hf hK rfl (mm_GV hAW (mm_GI hAW gi_77) qw_924 qw_925 qw_926 qw_133) rfl ⟨rfl, hd_77⟩ (mm_rm hRf hRl (Nat.le_of_ble_eq_true rfl)) (by decide +kernel : decode cX11_paint 46 = .ok (.invokevirtual 127, 3))))
    (ms_lf (ms_iconst hx hb (by decide) (by decide +kernel : decode cX11_paint 49 = .ok (.iconst (-1), 1)))))))
    (ms_b (ms_b (ms_lf (ms_ic_eq hx hb (by decide) (by decide +kernel : decode cX11_paint 50 = .ok (.if_icmp .eq 5, 3))))
    (ms_lf (ms_iconst hx hb (by decide) (by decide +kernel : decode cX11_paint 53 = .ok (.iconst 0, 1)))))
    (ms_b (ms_lf (ms_iret hx hb hr hlk (by decide +kernel : decode cX11_paint 54 = .ok (.ireturn, 1))))
    (ms_b (ms_lf (ms_aload_n (k := 0) hx hb rfl (by decide +kernel : decode cX11_paint 55 = .ok (.aload_n 0, 1))))
    (ms_lf (ms_getf (C := RX11) (T := TX11) (N := 11) hx hb hf hts (fun w h => hAW w (inq_11 w h)) hown hK rfl (by decide) (hts _ (hAW _ qw_857)) rfl (by decide +kernel : decode cX11_paint 56 = .ok (.getfield 78, 3))))))))
    (ms_b (ms_b (ms_b (ms_lf (ms_aload_n (k := 0) hx hb rfl (by decide +kernel : decode cX11_paint 59 = .ok (.aload_n 0, 1))))
    (ms_lf (ms_getf (C := RX11) (T := TX11) (N := 11) hx hb hf hts (fun w h => hAW w (inq_11 w h)) hown hK rfl (by decide) (hts _ (hAW _ qw_858)) rfl (by decide +kernel : decode cX11_paint 60 = .ok (.getfield 85, 3)))))
    (ms_b (ms_lf (ms_ivV (C := RX2) (T := TX2) (N := 5) hx hb hml hown hts hgo hEX hf hK rfl (mm_GV hAW (mm_GI hAW gi_21) qw_987 qw_988 qw_989 qw_132) rfl ⟨rfl, hd_21⟩ (mm_rm hRf hRl (Nat.le_of_ble_eq_true rfl)) (by decide +kernel : decode cX11_paint 63 = .ok (.invokevirtual 167, 3))))
    (ms_b (ms_lf (ms_aload_n (k := 0) hx hb rfl (by decide +kernel : decode cX11_paint 66 = .ok (.aload_n 0, 1))))
    (ms_lf (ms_getf (C := RX11) (T := TX11) (N := 11) hx hb hf hts (fun w h => hAW w (inq_11 w h)) hown hK rfl (by decide) (hts _ (hAW _ qw_858)) rfl (by decide +kernel : decode cX11_paint 67 = .ok (.getfield 85, 3)))))))
    (ms_b (ms_b (ms_lf (ms_getf (C := RX7) (T := TX7) (N := 7) hx hb hf hts (fun w h => hAW w (inq_7 w h)) hown hK rfl (by decide) (hts _ (hAW _ qw_566)) rfl (by decide +kernel : decode cX11_paint 70 = .ok (.getfield 120, 3))))
    (ms_b (ms_lf (ms_iload_n (k := 1) hx hb rfl (by decide +kernel : decode cX11_paint 73 = .ok (.iload_n 1, 1))))
    (ms_lf (ms_iload_n (k := 2) hx hb rfl (by decide +kernel : decode cX11_paint 74 = .ok (.iload_n 2, 1))))))
    (ms_b (ms_lf (ms_iast hx hb hf hA (by decide +kernel : decode cX11_paint 75 = .ok (.iastore, 1))))
    (ms_b (ms_lf (ms_iconst hx hb (by decide) (by decide +kernel : decode cX11_paint 76 = .ok (.iconst 1, 1))))
    (ms_lf (ms_iret hx hb hr hlk (by decide +kernel : decode cX11_paint 77 = .ok (.ireturn, 1))))))))))
set_option maxRecDepth 100000 in
set_option maxHeartbeats 8000000 in
/-- TippedCrates.minutes -/
theorem sd_131 (l : Launch) (f : Nat → Nat) (D : va_G) (cA : FieldType → ClassId) (d : Nat) : mm_Ok2 l f D cA d (yX11_minutes, cX11_minutes, 2, (some .int), mc_131) := by
  intro p e R s m args below meth c C hRf hRl pc
  obtain ⟨hx, hb, hml, hr, hlk, hnm, hown, hts, hEX, hgo, hf⟩ := C
  obtain ⟨hK, hA, hX, hZs, hZc, hZq, hTx, hSR0, hSR1, hAO, hN⟩ := id hEX
  have hAW : ∀ w ∈ mm_AW, w ∈ (Cond.code yX11_minutes cX11_minutes 2 (some .int) :: mm_AW) := fun w h => List.mem_cons_of_mem _ h
  have hown : s.vm.findClass "TippedCrates" = some m.cls := hown
  show mm_S p l e R s m args below meth c f D mm_cl cA 2 _ pc (mc_131 pc)
  unfold mc_131
  exact (ms_b (ms_b (ms_b (ms_b (ms_lf (ms_iload_n (k := 1) hx hb rfl (by decide +kernel : decode cX11_minutes 0 = .ok (.iload_n 1, 1))))
    (ms_b (ms_lf (ms_iconst hx hb (by decide) (by decide +kernel : decode cX11_minutes 1 = .ok (.iconst 0, 1))))
    (ms_lf (ms_bipush hx hb (by decide) (by decide +kernel : decode cX11_minutes 2 = .ok (.bipush 60, 2))))))
    (ms_b (ms_lf (ms_ivS hx hb hml hown hts hgo hEX (mm_GS hAW (mm_GI hAW gi_166) qw_919 qw_748 qw_117) rfl hd_166 (mm_rm hRf hRl (Nat.le_of_ble_eq_true rfl)) (by decide +kernel : decode cX11_minutes 4 = .ok (.invokestatic 140, 3))))
    (ms_b (ms_lf (ms_if_ne hx hb (by decide) (by decide +kernel : decode cX11_minutes 7 = .ok (.ifCond .ne 5, 3))))
    (ms_lf (ms_iconst hx hb (by decide) (by decide +kernel : decode cX11_minutes 10 = .ok (.iconst (-1), 1)))))))
    (ms_b (ms_b (ms_lf (ms_iret hx hb hr hlk (by decide +kernel : decode cX11_minutes 11 = .ok (.ireturn, 1))))
    (ms_b (ms_lf (ms_iload_n (k := 1) hx hb rfl (by decide +kernel : decode cX11_minutes 12 = .ok (.iload_n 1, 1))))
    (ms_lf (ms_if_le hx hb (by decide) (by decide +kernel : decode cX11_minutes 13 = .ok (.ifCond .le 33, 3))))))
    (ms_b (ms_b (ms_lf (ms_aload_n (k := 0) hx hb rfl (by decide +kernel : decode cX11_minutes 16 = .ok (.aload_n 0, 1))))
    (ms_lf (ms_getf (C := RX11) (T := TX11) (N := 11) hx hb hf hts (fun w h => hAW w (inq_11 w h)) hown hK rfl (by decide) (hts _ (hAW _ qw_857)) rfl (by decide +kernel : decode cX11_minutes 17 = .ok (.getfield 78, 3)))))
    (ms_b (ms_lf (ms_aload_n (k := 0) hx hb rfl (by decide +kernel : decode cX11_minutes 20 = .ok (.aload_n 0, 1))))
    (ms_lf (ms_getf (C := RX11) (T := TX11) (N := 11) hx hb hf hts (fun w h => hAW w (inq_11 w h)) hown hK rfl (by decide) (hts _ (hAW _ qw_858)) rfl (by decide +kernel : decode cX11_minutes 21 = .ok (.getfield 85, 3))))))))
    (ms_b (ms_b (ms_b (ms_lf (ms_ivV (C := RX2) (T := TX2) (N := 5) hx hb hml hown hts hgo hEX hf hK rfl (mm_GV hAW (mm_GI hAW gi_21) qw_987 qw_988 qw_989 qw_132) rfl ⟨rfl, hd_21⟩ (mm_rm hRf hRl (Nat.le_of_ble_eq_true rfl)) (by decide +kernel : decode cX11_minutes 24 = .ok (.invokevirtual 167, 3))))
    (ms_b (ms_lf (ms_aload_n (k := 0) hx hb rfl (by decide +kernel : decode cX11_minutes 27 = .ok (.aload_n 0, 1))))
    (ms_lf (ms_getf (C := RX11) (T := TX11) (N := 11) hx hb hf hts (fun w h => hAW w (inq_11 w h)) hown hK rfl (by decide) (hts _ (hAW _ qw_852)) rfl (by decide +kernel : decode cX11_minutes 28 = .ok (.getfield 37, 3))))))
    (ms_b (ms_b (ms_lf (ms_aload_n (k := 0) hx hb rfl (by decide +kernel : decode cX11_minutes 31 = .ok (.aload_n 0, 1))))
    (ms_lf (ms_getf (C := RX11) (T := TX11) (N := 11) hx hb hf hts (fun w h => hAW w (inq_11 w h)) hown hK rfl (by decide) (hts _ (hAW _ qw_858)) rfl (by decide +kernel : decode cX11_minutes 32 = .ok (.getfield 85, 3)))))
    (ms_b (ms_lf (ms_iload_n (k := 1) hx hb rfl (by decide +kernel : decode cX11_minutes 35 = .ok (.iload_n 1, 1))))
    (ms_lf (ms_aload_n (k := 0) hx hb rfl (by decide +kernel : decode cX11_minutes 36 = .ok (.aload_n 0, 1)))))))
    (ms_b (ms_b (ms_lf (ms_getf (C := RX11) (T := TX11) (N := 11) hx hb hf hts (fun w h => hAW w (inq_11 w h)) hown hK rfl (by decide) (hts _ (hAW _ qw_850)) rfl (by decide +kernel : decode cX11_minutes 37 = .ok (.getfield 19, 3))))
    (ms_b (ms_lf (ms_getf (C := RX3) (T := TX3) (N := 12) hx hb hf hts (fun w h => hAW w (inq_3 w h)) hown hK rfl (by decide) (hts _ (hAW _ qw_271)) rfl (by decide +kernel : decode cX11_minutes 40 = .ok (.getfield 177, 3))))
    (ms_lf (ms_ivV (C := RX0) (T := TX0) (N := 1) hx hb hml hown hts hgo hEX hf hK rfl (mm_GV hAW (mm_GI hAW gi_8) qw_1015 qw_1016 qw_1017 qw_126) rfl ⟨rfl, hd_8⟩ (mm_rm hRf hRl (Nat.le_of_ble_eq_true rfl)) (by decide +kernel : decode cX11_minutes 43 = .ok (.invokevirtual 180, 3))))))
    (ms_b (ms_b (ms_lf (ms_aload_n (k := 0) hx hb rfl (by decide +kernel : decode cX11_minutes 46 = .ok (.aload_n 0, 1))))
    (ms_lf (ms_getf (C := RX11) (T := TX11) (N := 11) hx hb hf hts (fun w h => hAW w (inq_11 w h)) hown hK rfl (by decide) (hts _ (hAW _ qw_858)) rfl (by decide +kernel : decode cX11_minutes 47 = .ok (.getfield 85, 3)))))
    (ms_b (ms_lf (ms_getf (C := RX7) (T := TX7) (N := 7) hx hb hf hts (fun w h => hAW w (inq_7 w h)) hown hK rfl (by decide) (hts _ (hAW _ qw_582)) rfl (by decide +kernel : decode cX11_minutes 50 = .ok (.getfield 183, 3))))
    (ms_lf (ms_iret hx hb hr hlk (by decide +kernel : decode cX11_minutes 53 = .ok (.ireturn, 1)))))))))
set_option maxRecDepth 100000 in
set_option maxHeartbeats 8000000 in
/-- TippedCrates.undo -/
theorem sd_132 (l : Launch) (f : Nat → Nat) (D : va_G) (cA : FieldType → ClassId) (d : Nat) : mm_Ok2 l f D cA d (yX11_undo, cX11_undo, 1, (some .boolean), mc_132) := by
  intro p e R s m args below meth c C hRf hRl pc
  obtain ⟨hx, hb, hml, hr, hlk, hnm, hown, hts, hEX, hgo, hf⟩ := C
  obtain ⟨hK, hA, hX, hZs, hZc, hZq, hTx, hSR0, hSR1, hAO, hN⟩ := id hEX
  have hAW : ∀ w ∈ mm_AW, w ∈ (Cond.code yX11_undo cX11_undo 1 (some .boolean) :: mm_AW) := fun w h => List.mem_cons_of_mem _ h
  have hown : s.vm.findClass "TippedCrates" = some m.cls := hown
  show mm_S p l e R s m args below meth c f D mm_cl cA 1 _ pc (mc_132 pc)
  unfold mc_132
  exact (ms_b (ms_b (ms_lf (ms_aload_n (k := 0) hx hb rfl (by decide +kernel : decode cX11_undo 0 = .ok (.aload_n 0, 1))))
    (ms_b (ms_lf (ms_getf (C := RX11) (T := TX11) (N := 11) hx hb hf hts (fun w h => hAW w (inq_11 w h)) hown hK rfl (by decide) (hts _ (hAW _ qw_857)) rfl (by decide +kernel : decode cX11_undo 1 = .ok (.getfield 78, 3))))
    (ms_lf (ms_aload_n (k := 0) hx hb rfl (by decide +kernel : decode cX11_undo 4 = .ok (.aload_n 0, 1))))))
    (ms_b (ms_lf (ms_getf (C := RX11) (T := TX11) (N := 11) hx hb hf hts (fun w h => hAW w (inq_11 w h)) hown hK rfl (by decide) (hts _ (hAW _ qw_858)) rfl (by decide +kernel : decode cX11_undo 5 = .ok (.getfield 85, 3))))
    (ms_b (ms_lf (ms_ivV (C := RX2) (T := TX2) (N := 5) hx hb hml hown hts hgo hEX hf hK rfl (mm_GV hAW (mm_GI hAW gi_22) qw_1038 qw_1039 qw_1040 qw_132) rfl ⟨rfl, hd_22⟩ (mm_rm hRf hRl (Nat.le_of_ble_eq_true rfl)) (by decide +kernel : decode cX11_undo 8 = .ok (.invokevirtual 186, 3))))
    (ms_lf (ms_iret hx hb hr hlk (by decide +kernel : decode cX11_undo 11 = .ok (.ireturn, 1)))))))
set_option maxRecDepth 100000 in
set_option maxHeartbeats 8000000 in
/-- TippedCrates.fewest -/
theorem sd_133 (l : Launch) (f : Nat → Nat) (D : va_G) (cA : FieldType → ClassId) (d : Nat) : mm_Ok2 l f D cA d (yX11_fewest, cX11_fewest, 5, (some .int), mc_133) := by
  intro p e R s m args below meth c C hRf hRl pc
  obtain ⟨hx, hb, hml, hr, hlk, hnm, hown, hts, hEX, hgo, hf⟩ := C
  obtain ⟨hK, hA, hX, hZs, hZc, hZq, hTx, hSR0, hSR1, hAO, hN⟩ := id hEX
  have hAW : ∀ w ∈ mm_AW, w ∈ (Cond.code yX11_fewest cX11_fewest 5 (some .int) :: mm_AW) := fun w h => List.mem_cons_of_mem _ h
  have hown : s.vm.findClass "TippedCrates" = some m.cls := hown
  show mm_S p l e R s m args below meth c f D mm_cl cA 5 _ pc (mc_133 pc)
  unfold mc_133
  exact (ms_b (ms_b (ms_b (ms_b (ms_b (ms_lf (ms_aload_n (k := 0) hx hb rfl (by decide +kernel : decode cX11_fewest 0 = .ok (.aload_n 0, 1))))
    (ms_lf (ms_iload_n (k := 1) hx hb rfl (by decide +kernel : decode cX11_fewest 1 = .ok (.iload_n 1, 1)))))
    (ms_b (ms_lf (ms_ivV (C := RX11) (T := TX11) (N := 11) hx hb hml hown hts hgo hEX hf hK rfl (mm_GV hAW (mm_GI hAW gi_162) qw_932 qw_934 qw_27 qw_117) rfl ⟨rfl, hd_162⟩ (mm_rm hRf hRl (Nat.le_of_ble_eq_true rfl)) (by decide +kernel : decode cX11_fewest 2 = .ok (.invokevirtual 131, 3))))
    (ms_lf (ms_if_eq hx hb (by decide) (by decide +kernel : decode cX11_fewest 5 = .ok (.ifCond .eq 18, 3))))))
    (ms_b (ms_b (ms_lf (ms_aload_n (k := 0) hx hb rfl (by decide +kernel : decode cX11_fewest 8 = .ok (.aload_n 0, 1))))
    (ms_lf (ms_iload_n (k := 2) hx hb rfl (by decide +kernel : decode cX11_fewest 9 = .ok (.iload_n 2, 1)))))
    (ms_b (ms_lf (ms_ivV (C := RX11) (T := TX11) (N := 11) hx hb hml hown hts hgo hEX hf hK rfl (mm_GV hAW (mm_GI hAW gi_163) qw_915 qw_917 qw_26 qw_117) rfl ⟨rfl, hd_163⟩ (mm_rm hRf hRl (Nat.le_of_ble_eq_true rfl)) (by decide +kernel : decode cX11_fewest 10 = .ok (.invokevirtual 116, 3))))
    (ms_lf (ms_if_eq hx hb (by decide) (by decide +kernel : decode cX11_fewest 13 = .ok (.ifCond .eq 10, 3)))))))
    (ms_b (ms_b (ms_b (ms_lf (ms_iload_n (k := 3) hx hb rfl (by decide +kernel : decode cX11_fewest 16 = .ok (.iload_n 3, 1))))
    (ms_lf (ms_ivS hx hb hml hown hts hgo hEX (mm_GS hAW (mm_GI hAW gi_164) qw_1008 qw_1009 qw_117) rfl hd_164 (mm_rm hRf hRl (Nat.le_of_ble_eq_true rfl)) (by decide +kernel : decode cX11_fewest 17 = .ok (.invokestatic 174, 3)))))
    (ms_b (ms_lf (ms_if_ne hx hb (by decide) (by decide +kernel : decode cX11_fewest 20 = .ok (.ifCond .ne 5, 3))))
    (ms_lf (ms_iconst hx hb (by decide) (by decide +kernel : decode cX11_fewest 23 = .ok (.iconst (-1), 1))))))
    (ms_b (ms_b (ms_lf (ms_iret hx hb hr hlk (by decide +kernel : decode cX11_fewest 24 = .ok (.ireturn, 1))))
    (ms_lf (ms_aload_n (k := 0) hx hb rfl (by decide +kernel : decode cX11_fewest 25 = .ok (.aload_n 0, 1)))))
    (ms_b (ms_lf (ms_getf (C := RX11) (T := TX11) (N := 11) hx hb hf hts (fun w h => hAW w (inq_11 w h)) hown hK rfl (by decide) (hts _ (hAW _ qw_854)) rfl (by decide +kernel : decode cX11_fewest 26 = .ok (.getfield 53, 3))))
    (ms_lf (ms_aload_n (k := 0) hx hb rfl (by decide +kernel : decode cX11_fewest 29 = .ok (.aload_n 0, 1))))))))
    (ms_b (ms_b (ms_b (ms_b (ms_lf (ms_getf (C := RX11) (T := TX11) (N := 11) hx hb hf hts (fun w h => hAW w (inq_11 w h)) hown hK rfl (by decide) (hts _ (hAW _ qw_858)) rfl (by decide +kernel : decode cX11_fewest 30 = .ok (.getfield 85, 3))))
    (ms_lf (ms_iload_n (k := 1) hx hb rfl (by decide +kernel : decode cX11_fewest 33 = .ok (.iload_n 1, 1)))))
    (ms_b (ms_lf (ms_ivV (C := RX6) (T := TX6) (N := 5) hx hb hml hown hts hgo hEX hf hK rfl (mm_GV hAW (mm_GI hAW gi_70) qw_1046 qw_1047 qw_1048 qw_129) rfl ⟨rfl, hd_70⟩ (mm_rm hRf hRl (Nat.le_of_ble_eq_true rfl)) (by decide +kernel : decode cX11_fewest 34 = .ok (.invokevirtual 190, 3))))
    (ms_lf (ms_aload_n (k := 0) hx hb rfl (by decide +kernel : decode cX11_fewest 37 = .ok (.aload_n 0, 1))))))
    (ms_b (ms_b (ms_lf (ms_getf (C := RX11) (T := TX11) (N := 11) hx hb hf hts (fun w h => hAW w (inq_11 w h)) hown hK rfl (by decide) (hts _ (hAW _ qw_855)) rfl (by decide +kernel : decode cX11_fewest 38 = .ok (.getfield 62, 3))))
    (ms_lf (ms_ivV (C := RX10) (T := TX10) (N := 13) hx hb hml hown hts hgo hEX hf hK rfl (mm_GV hAW (mm_GI hAW gi_105) qw_1056 qw_1057 qw_1058 qw_130) rfl ⟨rfl, hd_105⟩ (mm_rm hRf hRl (Nat.le_of_ble_eq_true rfl)) (by decide +kernel : decode cX11_fewest 41 = .ok (.invokevirtual 194, 3)))))
    (ms_b (ms_lf (ms_aload_n (k := 0) hx hb rfl (by decide +kernel : decode cX11_fewest 44 = .ok (.aload_n 0, 1))))
    (ms_lf (ms_getf (C := RX11) (T := TX11) (N := 11) hx hb hf hts (fun w h => hAW w (inq_11 w h)) hown hK rfl (by decide) (hts _ (hAW _ qw_855)) rfl (by decide +kernel : decode cX11_fewest 45 = .ok (.getfield 62, 3)))))))
    (ms_b (ms_b (ms_b (ms_lf (ms_aload_n (k := 0) hx hb rfl (by decide +kernel : decode cX11_fewest 48 = .ok (.aload_n 0, 1))))
    (ms_lf (ms_getf (C := RX11) (T := TX11) (N := 11) hx hb hf hts (fun w h => hAW w (inq_11 w h)) hown hK rfl (by decide) (hts _ (hAW _ qw_855)) rfl (by decide +kernel : decode cX11_fewest 49 = .ok (.getfield 62, 3)))))
    (ms_b (ms_lf (ms_iload_n (k := 2) hx hb rfl (by decide +kernel : decode cX11_fewest 52 = .ok (.iload_n 2, 1))))
    (ms_lf (ms_iload_n (k := 3) hx hb rfl (by decide +kernel : decode cX11_fewest 53 = .ok (.iload_n 3, 1))))))
    (ms_b (ms_b (ms_lf (ms_ivV (C := RX10) (T := TX10) (N := 13) hx hb hml hown hts hgo hEX hf hK rfl (mm_GV hAW (mm_GI hAW gi_107) qw_1069 qw_1070 qw_1071 qw_130) rfl ⟨rfl, hd_107⟩ (mm_rm hRf hRl (Nat.le_of_ble_eq_true rfl)) (by decide +kernel : decode cX11_fewest 54 = .ok (.invokevirtual 197, 3))))
    (ms_lf (ms_iload hx hb (by decide +kernel : decode cX11_fewest 57 = .ok (.iload 4, 2)))))
    (ms_b (ms_lf (ms_ivV (C := RX10) (T := TX10) (N := 13) hx hb hml hown hts hgo hEX hf hK rfl (mm_GV hAW (mm_GI hAW gi_108) qw_1077 qw_1078 qw_1079 qw_130) rfl ⟨rfl, hd_108⟩ (mm_rm hRf hRl (Nat.le_of_ble_eq_true rfl)) (by decide +kernel : decode cX11_fewest 59 = .ok (.invokevirtual 201, 3))))
    (ms_lf (ms_iret hx hb hr hlk (by decide +kernel : decode cX11_fewest 62 = .ok (.ireturn, 1)))))))))
set_option maxRecDepth 100000 in
set_option maxHeartbeats 8000000 in
/-- TippedCrates.cheapest -/
theorem sd_134 (l : Launch) (f : Nat → Nat) (D : va_G) (cA : FieldType → ClassId) (d : Nat) : mm_Ok2 l f D cA d (yX11_cheapest, cX11_cheapest, 3, (some .int), mc_134) := by
  intro p e R s m args below meth c C hRf hRl pc
  obtain ⟨hx, hb, hml, hr, hlk, hnm, hown, hts, hEX, hgo, hf⟩ := C
  obtain ⟨hK, hA, hX, hZs, hZc, hZq, hTx, hSR0, hSR1, hAO, hN⟩ := id hEX
  have hAW : ∀ w ∈ mm_AW, w ∈ (Cond.code yX11_cheapest cX11_cheapest 3 (some .int) :: mm_AW) := fun w h => List.mem_cons_of_mem _ h
  have hown : s.vm.findClass "TippedCrates" = some m.cls := hown
  show mm_S p l e R s m args below meth c f D mm_cl cA 3 _ pc (mc_134 pc)
  unfold mc_134
  exact (ms_b (ms_b (ms_b (ms_b (ms_lf (ms_aload_n (k := 0) hx hb rfl (by decide +kernel : decode cX11_cheapest 0 = .ok (.aload_n 0, 1))))
    (ms_b (ms_lf (ms_iload_n (k := 1) hx hb rfl (by decide +kernel : decode cX11_cheapest 1 = .ok (.iload_n 1, 1))))
    (ms_lf (ms_ivV (C := RX11) (T := TX11) (N := 11) hx hb hml hown hts hgo hEX hf hK rfl (mm_GV hAW (mm_GI hAW gi_162) qw_932 qw_934 qw_27 qw_117) rfl ⟨rfl, hd_162⟩ (mm_rm hRf hRl (Nat.le_of_ble_eq_true rfl)) (by decide +kernel : decode cX11_cheapest 2 = .ok (.invokevirtual 131, 3))))))
    (ms_b (ms_lf (ms_if_eq hx hb (by decide) (by decide +kernel : decode cX11_cheapest 5 = .ok (.ifCond .eq 11, 3))))
    (ms_b (ms_lf (ms_aload_n (k := 0) hx hb rfl (by decide +kernel : decode cX11_cheapest 8 = .ok (.aload_n 0, 1))))
    (ms_lf (ms_iload_n (k := 2) hx hb rfl (by decide +kernel : decode cX11_cheapest 9 = .ok (.iload_n 2, 1)))))))
    (ms_b (ms_b (ms_lf (ms_ivV (C := RX11) (T := TX11) (N := 11) hx hb hml hown hts hgo hEX hf hK rfl (mm_GV hAW (mm_GI hAW gi_163) qw_915 qw_917 qw_26 qw_117) rfl ⟨rfl, hd_163⟩ (mm_rm hRf hRl (Nat.le_of_ble_eq_true rfl)) (by decide +kernel : decode cX11_cheapest 10 = .ok (.invokevirtual 116, 3))))
    (ms_b (ms_lf (ms_if_ne hx hb (by decide) (by decide +kernel : decode cX11_cheapest 13 = .ok (.ifCond .ne 5, 3))))
    (ms_lf (ms_iconst hx hb (by decide) (by decide +kernel : decode cX11_cheapest 16 = .ok (.iconst (-1), 1))))))
    (ms_b (ms_lf (ms_iret hx hb hr hlk (by decide +kernel : decode cX11_cheapest 17 = .ok (.ireturn, 1))))
    (ms_b (ms_lf (ms_aload_n (k := 0) hx hb rfl (by decide +kernel : decode cX11_cheapest 18 = .ok (.aload_n 0, 1))))
    (ms_lf (ms_getf (C := RX11) (T := TX11) (N := 11) hx hb hf hts (fun w h => hAW w (inq_11 w h)) hown hK rfl (by decide) (hts _ (hAW _ qw_854)) rfl (by decide +kernel : decode cX11_cheapest 19 = .ok (.getfield 53, 3))))))))
    (ms_b (ms_b (ms_b (ms_lf (ms_aload_n (k := 0) hx hb rfl (by decide +kernel : decode cX11_cheapest 22 = .ok (.aload_n 0, 1))))
    (ms_b (ms_lf (ms_getf (C := RX11) (T := TX11) (N := 11) hx hb hf hts (fun w h => hAW w (inq_11 w h)) hown hK rfl (by decide) (hts _ (hAW _ qw_858)) rfl (by decide +kernel : decode cX11_cheapest 23 = .ok (.getfield 85, 3))))
    (ms_lf (ms_iload_n (k := 1) hx hb rfl (by decide +kernel : decode cX11_cheapest 26 = .ok (.iload_n 1, 1))))))
    (ms_b (ms_lf (ms_ivV (C := RX6) (T := TX6) (N := 5) hx hb hml hown hts hgo hEX hf hK rfl (mm_GV hAW (mm_GI hAW gi_70) qw_1046 qw_1047 qw_1048 qw_129) rfl ⟨rfl, hd_70⟩ (mm_rm hRf hRl (Nat.le_of_ble_eq_true rfl)) (by decide +kernel : decode cX11_cheapest 27 = .ok (.invokevirtual 190, 3))))
    (ms_b (ms_lf (ms_aload_n (k := 0) hx hb rfl (by decide +kernel : decode cX11_cheapest 30 = .ok (.aload_n 0, 1))))
    (ms_lf (ms_getf (C := RX11) (T := TX11) (N := 11) hx hb hf hts (fun w h => hAW w (inq_11 w h)) hown hK rfl (by decide) (hts _ (hAW _ qw_855)) rfl (by decide +kernel : decode cX11_cheapest 31 = .ok (.getfield 62, 3)))))))
    (ms_b (ms_b (ms_lf (ms_aload_n (k := 0) hx hb rfl (by decide +kernel : decode cX11_cheapest 34 = .ok (.aload_n 0, 1))))
    (ms_b (ms_lf (ms_getf (C := RX11) (T := TX11) (N := 11) hx hb hf hts (fun w h => hAW w (inq_11 w h)) hown hK rfl (by decide) (hts _ (hAW _ qw_858)) rfl (by decide +kernel : decode cX11_cheapest 35 = .ok (.getfield 85, 3))))
    (ms_lf (ms_iload_n (k := 1) hx hb rfl (by decide +kernel : decode cX11_cheapest 38 = .ok (.iload_n 1, 1))))))
    (ms_b (ms_lf (ms_iload_n (k := 2) hx hb rfl (by decide +kernel : decode cX11_cheapest 39 = .ok (.iload_n 2, 1))))
    (ms_b (ms_lf (ms_ivV (C := RX10) (T := TX10) (N := 13) hx hb hml hown hts hgo hEX hf hK rfl (mm_GV hAW (mm_GI hAW gi_115) qw_1085 qw_1086 qw_1087 qw_130) rfl ⟨rfl, hd_115⟩ (mm_rm hRf hRl (Nat.le_of_ble_eq_true rfl)) (by decide +kernel : decode cX11_cheapest 40 = .ok (.invokevirtual 204, 3))))
    (ms_lf (ms_iret hx hb hr hlk (by decide +kernel : decode cX11_cheapest 43 = .ok (.ireturn, 1)))))))))
set_option maxRecDepth 100000 in
set_option maxHeartbeats 8000000 in
/-- TippedCrates.never -/
theorem sd_135 (l : Launch) (f : Nat → Nat) (D : va_G) (cA : FieldType → ClassId) (d : Nat) : mm_Ok2 l f D cA d (yX11_never, cX11_never, 3, (some .int), mc_135) := by
  intro p e R s m args below meth c C hRf hRl pc
  obtain ⟨hx, hb, hml, hr, hlk, hnm, hown, hts, hEX, hgo, hf⟩ := C
  obtain ⟨hK, hA, hX, hZs, hZc, hZq, hTx, hSR0, hSR1, hAO, hN⟩ := id hEX
  have hAW : ∀ w ∈ mm_AW, w ∈ (Cond.code yX11_never cX11_never 3 (some .int) :: mm_AW) := fun w h => List.mem_cons_of_mem _ h
  have hown : s.vm.findClass "TippedCrates" = some m.cls := hown
  show mm_S p l e R s m args below meth c f D mm_cl cA 3 _ pc (mc_135 pc)
  unfold mc_135
  exact (ms_b (ms_b (ms_b (ms_b (ms_lf (ms_aload_n (k := 0) hx hb rfl (by decide +kernel : decode cX11_never 0 = .ok (.aload_n 0, 1))))
    (ms_b (ms_lf (ms_iload_n (k := 1) hx hb rfl (by decide +kernel : decode cX11_never 1 = .ok (.iload_n 1, 1))))
    (ms_lf (ms_ivV (C := RX11) (T := TX11) (N := 11) hx hb hml hown hts hgo hEX hf hK rfl (mm_GV hAW (mm_GI hAW gi_162) qw_932 qw_934 qw_27 qw_117) rfl ⟨rfl, hd_162⟩ (mm_rm hRf hRl (Nat.le_of_ble_eq_true rfl)) (by decide +kernel : decode cX11_never 2 = .ok (.invokevirtual 131, 3))))))
    (ms_b (ms_b (ms_lf (ms_if_eq hx hb (by decide) (by decide +kernel : decode cX11_never 5 = .ok (.ifCond .eq 10, 3))))
    (ms_lf (ms_iload_n (k := 2) hx hb rfl (by decide +kernel : decode cX11_never 8 = .ok (.iload_n 2, 1)))))
    (ms_b (ms_lf (ms_ivS hx hb hml hown hts hgo hEX (mm_GS hAW (mm_GI hAW gi_164) qw_1008 qw_1009 qw_117) rfl hd_164 (mm_rm hRf hRl (Nat.le_of_ble_eq_true rfl)) (by decide +kernel : decode cX11_never 9 = .ok (.invokestatic 174, 3))))
    (ms_lf (ms_if_ne hx hb (by decide) (by decide +kernel : decode cX11_never 12 = .ok (.ifCond .ne 5, 3)))))))
    (ms_b (ms_b (ms_lf (ms_iconst hx hb (by decide) (by decide +kernel : decode cX11_never 15 = .ok (.iconst (-1), 1))))
    (ms_b (ms_lf (ms_iret hx hb hr hlk (by decide +kernel : decode cX11_never 16 = .ok (.ireturn, 1))))
    (ms_lf (ms_aload_n (k := 0) hx hb rfl (by decide +kernel : decode cX11_never 17 = .ok (.aload_n 0, 1))))))
    (ms_b (ms_b (ms_lf (ms_getf (C := RX11) (T := TX11) (N := 11) hx hb hf hts (fun w h => hAW w (inq_11 w h)) hown hK rfl (by decide) (hts _ (hAW _ qw_854)) rfl (by decide +kernel : decode cX11_never 18 = .ok (.getfield 53, 3))))
    (ms_lf (ms_aload_n (k := 0) hx hb rfl (by decide +kernel : decode cX11_never 21 = .ok (.aload_n 0, 1)))))
    (ms_b (ms_lf (ms_getf (C := RX11) (T := TX11) (N := 11) hx hb hf hts (fun w h => hAW w (inq_11 w h)) hown hK rfl (by decide) (hts _ (hAW _ qw_858)) rfl (by decide +kernel : decode cX11_never 22 = .ok (.getfield 85, 3))))
    (ms_lf (ms_iload_n (k := 1) hx hb rfl (by decide +kernel : decode cX11_never 25 = .ok (.iload_n 1, 1))))))))
    (ms_b (ms_b (ms_b (ms_lf (ms_ivV (C := RX6) (T := TX6) (N := 5) hx hb hml hown hts hgo hEX hf hK rfl (mm_GV hAW (mm_GI hAW gi_70) qw_1046 qw_1047 qw_1048 qw_129) rfl ⟨rfl, hd_70⟩ (mm_rm hRf hRl (Nat.le_of_ble_eq_true rfl)) (by decide +kernel : decode cX11_never 26 = .ok (.invokevirtual 190, 3))))
    (ms_b (ms_lf (ms_aload_n (k := 0) hx hb rfl (by decide +kernel : decode cX11_never 29 = .ok (.aload_n 0, 1))))
    (ms_lf (ms_getf (C := RX11) (T := TX11) (N := 11) hx hb hf hts (fun w h => hAW w (inq_11 w h)) hown hK rfl (by decide) (hts _ (hAW _ qw_855)) rfl (by decide +kernel : decode cX11_never 30 = .ok (.getfield 62, 3))))))
    (ms_b (ms_b (ms_lf (ms_ivV (C := RX10) (T := TX10) (N := 13) hx hb hml hown hts hgo hEX hf hK rfl (mm_GV hAW (mm_GI hAW gi_105) qw_1056 qw_1057 qw_1058 qw_130) rfl ⟨rfl, hd_105⟩ (mm_rm hRf hRl (Nat.le_of_ble_eq_true rfl)) (by decide +kernel : decode cX11_never 33 = .ok (.invokevirtual 194, 3))))
    (ms_lf (ms_aload_n (k := 0) hx hb rfl (by decide +kernel : decode cX11_never 36 = .ok (.aload_n 0, 1)))))
    (ms_b (ms_lf (ms_getf (C := RX11) (T := TX11) (N := 11) hx hb hf hts (fun w h => hAW w (inq_11 w h)) hown hK rfl (by decide) (hts _ (hAW _ qw_850)) rfl (by decide +kernel : decode cX11_never 37 = .ok (.getfield 19, 3))))
    (ms_lf (ms_ivV (C := RX3) (T := TX3) (N := 12) hx hb hml hown hts hgo hEX hf hK rfl (mm_GV hAW (mm_GI hAW gi_32) qw_1113 qw_1114 qw_1115 qw_123) rfl ⟨rfl, hd_32⟩ (mm_rm hRf hRl (Nat.le_of_ble_eq_true rfl)) (by decide +kernel : decode cX11_never 40 = .ok (.invokevirtual 208, 3)))))))
    (ms_b (ms_b (ms_b (ms_lf (ms_aload_n (k := 0) hx hb rfl (by decide +kernel : decode cX11_never 43 = .ok (.aload_n 0, 1))))
    (ms_lf (ms_getf (C := RX11) (T := TX11) (N := 11) hx hb hf hts (fun w h => hAW w (inq_11 w h)) hown hK rfl (by decide) (hts _ (hAW _ qw_855)) rfl (by decide +kernel : decode cX11_never 44 = .ok (.getfield 62, 3)))))
    (ms_b (ms_lf (ms_iload_n (k := 2) hx hb rfl (by decide +kernel : decode cX11_never 47 = .ok (.iload_n 2, 1))))
    (ms_lf (ms_ivV (C := RX10) (T := TX10) (N := 13) hx hb hml hown hts hgo hEX hf hK rfl (mm_GV hAW (mm_GI hAW gi_109) qw_1117 qw_1118 qw_1119 qw_130) rfl ⟨rfl, hd_109⟩ (mm_rm hRf hRl (Nat.le_of_ble_eq_true rfl)) (by decide +kernel : decode cX11_never 48 = .ok (.invokevirtual 211, 3))))))
    (ms_b (ms_b (ms_lf (ms_iconst hx hb (by decide) (by decide +kernel : decode cX11_never 51 = .ok (.iconst (-1), 1))))
    (ms_lf (ms_ixor hx hb (by decide +kernel : decode cX11_never 52 = .ok (.ixor, 1)))))
    (ms_b (ms_lf (ms_iand hx hb (by decide +kernel : decode cX11_never 53 = .ok (.iand, 1))))
    (ms_lf (ms_iret hx hb hr hlk (by decide +kernel : decode cX11_never 54 = .ok (.ireturn, 1)))))))))
set_option maxRecDepth 100000 in
set_option maxHeartbeats 8000000 in
/-- TippedCrates.nearest -/
theorem sd_136 (l : Launch) (f : Nat → Nat) (D : va_G) (cA : FieldType → ClassId) (d : Nat) : mm_Ok2 l f D cA d (yX11_nearest, cX11_nearest, 4, (some .int), mc_136) := by
  intro p e R s m args below meth c C hRf hRl pc
  obtain ⟨hx, hb, hml, hr, hlk, hnm, hown, hts, hEX, hgo, hf⟩ := C
  obtain ⟨hK, hA, hX, hZs, hZc, hZq, hTx, hSR0, hSR1, hAO, hN⟩ := id hEX
  have hAW : ∀ w ∈ mm_AW, w ∈ (Cond.code yX11_nearest cX11_nearest 4 (some .int) :: mm_AW) := fun w h => List.mem_cons_of_mem _ h
  have hown : s.vm.findClass "TippedCrates" = some m.cls := hown
  show mm_S p l e R s m args below meth c f D mm_cl cA 4 _ pc (mc_136 pc)
  unfold mc_136
  exact (ms_b (ms_b (ms_b (ms_b (ms_lf (ms_aload_n (k := 0) hx hb rfl (by decide +kernel : decode cX11_nearest 0 = .ok (.aload_n 0, 1))))
    (ms_b (ms_lf (ms_iload_n (k := 1) hx hb rfl (by decide +kernel : decode cX11_nearest 1 = .ok (.iload_n 1, 1))))
    (ms_lf (ms_ivV (C := RX11) (T := TX11) (N := 11) hx hb hml hown hts hgo hEX hf hK rfl (mm_GV hAW (mm_GI hAW gi_162) qw_932 qw_934 qw_27 qw_117) rfl ⟨rfl, hd_162⟩ (mm_rm hRf hRl (Nat.le_of_ble_eq_true rfl)) (by decide +kernel : decode cX11_nearest 2 = .ok (.invokevirtual 131, 3))))))
    (ms_b (ms_b (ms_lf (ms_if_eq hx hb (by decide) (by decide +kernel : decode cX11_nearest 5 = .ok (.ifCond .eq 19, 3))))
    (ms_lf (ms_iload_n (k := 2) hx hb rfl (by decide +kernel : decode cX11_nearest 8 = .ok (.iload_n 2, 1)))))
    (ms_b (ms_lf (ms_ivS hx hb hml hown hts hgo hEX (mm_GS hAW (mm_GI hAW gi_164) qw_1008 qw_1009 qw_117) rfl hd_164 (mm_rm hRf hRl (Nat.le_of_ble_eq_true rfl)) (by decide +kernel : decode cX11_nearest 9 = .ok (.invokestatic 174, 3))))
    (ms_lf (ms_if_eq hx hb (by decide) (by decide +kernel : decode cX11_nearest 12 = .ok (.ifCond .eq 12, 3)))))))
    (ms_b (ms_b (ms_lf (ms_iload_n (k := 3) hx hb rfl (by decide +kernel : decode cX11_nearest 15 = .ok (.iload_n 3, 1))))
    (ms_b (ms_lf (ms_iconst hx hb (by decide) (by decide +kernel : decode cX11_nearest 16 = .ok (.iconst 0, 1))))
    (ms_lf (ms_iconst hx hb (by decide) (by decide +kernel : decode cX11_nearest 17 = .ok (.iconst 1, 1))))))
    (ms_b (ms_b (ms_lf (ms_ivS hx hb hml hown hts hgo hEX (mm_GS hAW (mm_GI hAW gi_166) qw_919 qw_748 qw_117) rfl hd_166 (mm_rm hRf hRl (Nat.le_of_ble_eq_true rfl)) (by decide +kernel : decode cX11_nearest 18 = .ok (.invokestatic 140, 3))))
    (ms_lf (ms_if_ne hx hb (by decide) (by decide +kernel : decode cX11_nearest 21 = .ok (.ifCond .ne 5, 3)))))
    (ms_b (ms_lf (ms_iconst hx hb (by decide) (by decide +kernel : decode cX11_nearest 24 = .ok (.iconst (-1), 1))))
    (ms_lf (ms_iret hx hb hr hlk (by decide +kernel : decode cX11_nearest 25 = .ok (.ireturn, 1))))))))
    (ms_b (ms_b (ms_b (ms_lf (ms_aload_n (k := 0) hx hb rfl (by decide +kernel : decode cX11_nearest 26 = .ok (.aload_n 0, 1))))
    (ms_b (ms_lf (ms_getf (C := RX11) (T := TX11) (N := 11) hx hb hf hts (fun w h => hAW w (inq_11 w h)) hown hK rfl (by decide) (hts _ (hAW _ qw_854)) rfl (by decide +kernel : decode cX11_nearest 27 = .ok (.getfield 53, 3))))
    (ms_lf (ms_aload_n (k := 0) hx hb rfl (by decide +kernel : decode cX11_nearest 30 = .ok (.aload_n 0, 1))))))
    (ms_b (ms_b (ms_lf (ms_getf (C := RX11) (T := TX11) (N := 11) hx hb hf hts (fun w h => hAW w (inq_11 w h)) hown hK rfl (by decide) (hts _ (hAW _ qw_858)) rfl (by decide +kernel : decode cX11_nearest 31 = .ok (.getfield 85, 3))))
    (ms_lf (ms_iload_n (k := 1) hx hb rfl (by decide +kernel : decode cX11_nearest 34 = .ok (.iload_n 1, 1)))))
    (ms_b (ms_lf (ms_ivV (C := RX6) (T := TX6) (N := 5) hx hb hml hown hts hgo hEX hf hK rfl (mm_GV hAW (mm_GI hAW gi_70) qw_1046 qw_1047 qw_1048 qw_129) rfl ⟨rfl, hd_70⟩ (mm_rm hRf hRl (Nat.le_of_ble_eq_true rfl)) (by decide +kernel : decode cX11_nearest 35 = .ok (.invokevirtual 190, 3))))
    (ms_lf (ms_aload_n (k := 0) hx hb rfl (by decide +kernel : decode cX11_nearest 38 = .ok (.aload_n 0, 1)))))))
    (ms_b (ms_b (ms_b (ms_lf (ms_getf (C := RX11) (T := TX11) (N := 11) hx hb hf hts (fun w h => hAW w (inq_11 w h)) hown hK rfl (by decide) (hts _ (hAW _ qw_855)) rfl (by decide +kernel : decode cX11_nearest 39 = .ok (.getfield 62, 3))))
    (ms_lf (ms_ivV (C := RX10) (T := TX10) (N := 13) hx hb hml hown hts hgo hEX hf hK rfl (mm_GV hAW (mm_GI hAW gi_105) qw_1056 qw_1057 qw_1058 qw_130) rfl ⟨rfl, hd_105⟩ (mm_rm hRf hRl (Nat.le_of_ble_eq_true rfl)) (by decide +kernel : decode cX11_nearest 42 = .ok (.invokevirtual 194, 3)))))
    (ms_b (ms_lf (ms_aload_n (k := 0) hx hb rfl (by decide +kernel : decode cX11_nearest 45 = .ok (.aload_n 0, 1))))
    (ms_lf (ms_getf (C := RX11) (T := TX11) (N := 11) hx hb hf hts (fun w h => hAW w (inq_11 w h)) hown hK rfl (by decide) (hts _ (hAW _ qw_855)) rfl (by decide +kernel : decode cX11_nearest 46 = .ok (.getfield 62, 3))))))
    (ms_b (ms_b (ms_lf (ms_iload_n (k := 2) hx hb rfl (by decide +kernel : decode cX11_nearest 49 = .ok (.iload_n 2, 1))))
    (ms_lf (ms_iload_n (k := 3) hx hb rfl (by decide +kernel : decode cX11_nearest 50 = .ok (.iload_n 3, 1)))))
    (ms_b (ms_lf (ms_ivV (C := RX10) (T := TX10) (N := 13) hx hb hml hown hts hgo hEX hf hK rfl (mm_GV hAW (mm_GI hAW gi_110) qw_1125 qw_1126 qw_1127 qw_130) rfl ⟨rfl, hd_110⟩ (mm_rm hRf hRl (Nat.le_of_ble_eq_true rfl)) (by decide +kernel : decode cX11_nearest 51 = .ok (.invokevirtual 214, 3))))
    (ms_lf (ms_iret hx hb hr hlk (by decide +kernel : decode cX11_nearest 54 = .ok (.ireturn, 1)))))))))
set_option maxRecDepth 100000 in
set_option maxHeartbeats 8000000 in
/-- TippedCrates.spots -/
theorem sd_137 (l : Launch) (f : Nat → Nat) (D : va_G) (cA : FieldType → ClassId) (d : Nat) : mm_Ok2 l f D cA d (yX11_spots, cX11_spots, 2, (some .int), mc_137) := by
  intro p e R s m args below meth c C hRf hRl pc
  obtain ⟨hx, hb, hml, hr, hlk, hnm, hown, hts, hEX, hgo, hf⟩ := C
  obtain ⟨hK, hA, hX, hZs, hZc, hZq, hTx, hSR0, hSR1, hAO, hN⟩ := id hEX
  have hAW : ∀ w ∈ mm_AW, w ∈ (Cond.code yX11_spots cX11_spots 2 (some .int) :: mm_AW) := fun w h => List.mem_cons_of_mem _ h
  have hown : s.vm.findClass "TippedCrates" = some m.cls := hown
  show mm_S p l e R s m args below meth c f D mm_cl cA 2 _ pc (mc_137 pc)
  unfold mc_137
  exact (ms_b (ms_b (ms_b (ms_b (ms_lf (ms_aload_n (k := 0) hx hb rfl (by decide +kernel : decode cX11_spots 0 = .ok (.aload_n 0, 1))))
    (ms_lf (ms_iload_n (k := 1) hx hb rfl (by decide +kernel : decode cX11_spots 1 = .ok (.iload_n 1, 1)))))
    (ms_b (ms_lf (ms_ivV (C := RX11) (T := TX11) (N := 11) hx hb hml hown hts hgo hEX hf hK rfl (mm_GV hAW (mm_GI hAW gi_162) qw_932 qw_934 qw_27 qw_117) rfl ⟨rfl, hd_162⟩ (mm_rm hRf hRl (Nat.le_of_ble_eq_true rfl)) (by decide +kernel : decode cX11_spots 2 = .ok (.invokevirtual 131, 3))))
    (ms_lf (ms_if_ne hx hb (by decide) (by decide +kernel : decode cX11_spots 5 = .ok (.ifCond .ne 5, 3))))))
    (ms_b (ms_b (ms_lf (ms_iconst hx hb (by decide) (by decide +kernel : decode cX11_spots 8 = .ok (.iconst (-1), 1))))
    (ms_lf (ms_iret hx hb hr hlk (by decide +kernel : decode cX11_spots 9 = .ok (.ireturn, 1)))))
    (ms_b (ms_lf (ms_aload_n (k := 0) hx hb rfl (by decide +kernel : decode cX11_spots 10 = .ok (.aload_n 0, 1))))
    (ms_b (ms_lf (ms_getf (C := RX11) (T := TX11) (N := 11) hx hb hf hts (fun w h => hAW w (inq_11 w h)) hown hK rfl (by decide) (hts _ (hAW _ qw_854)) rfl (by decide +kernel : decode cX11_spots 11 = .ok (.getfield 53, 3))))
    (ms_lf (ms_aload_n (k := 0) hx hb rfl (by decide +kernel : decode cX11_spots 14 = .ok (.aload_n 0, 1))))))))
    (ms_b (ms_b (ms_b (ms_lf (ms_getf (C := RX11) (T := TX11) (N := 11) hx hb hf hts (fun w h => hAW w (inq_11 w h)) hown hK rfl (by decide) (hts _ (hAW _ qw_858)) rfl (by decide +kernel : decode cX11_spots 15 = .ok (.getfield 85, 3))))
    (ms_lf (ms_iload_n (k := 1) hx hb rfl (by decide +kernel : decode cX11_spots 18 = .ok (.iload_n 1, 1)))))
    (ms_b (ms_lf (ms_ivV (C := RX6) (T := TX6) (N := 5) hx hb hml hown hts hgo hEX hf hK rfl (mm_GV hAW (mm_GI hAW gi_70) qw_1046 qw_1047 qw_1048 qw_129) rfl ⟨rfl, hd_70⟩ (mm_rm hRf hRl (Nat.le_of_ble_eq_true rfl)) (by decide +kernel : decode cX11_spots 19 = .ok (.invokevirtual 190, 3))))
    (ms_b (ms_lf (ms_aload_n (k := 0) hx hb rfl (by decide +kernel : decode cX11_spots 22 = .ok (.aload_n 0, 1))))
    (ms_lf (ms_getf (C := RX11) (T := TX11) (N := 11) hx hb hf hts (fun w h => hAW w (inq_11 w h)) hown hK rfl (by decide) (hts _ (hAW _ qw_855)) rfl (by decide +kernel : decode cX11_spots 23 = .ok (.getfield 62, 3)))))))
    (ms_b (ms_b (ms_lf (ms_ivV (C := RX10) (T := TX10) (N := 13) hx hb hml hown hts hgo hEX hf hK rfl (mm_GV hAW (mm_GI hAW gi_105) qw_1056 qw_1057 qw_1058 qw_130) rfl ⟨rfl, hd_105⟩ (mm_rm hRf hRl (Nat.le_of_ble_eq_true rfl)) (by decide +kernel : decode cX11_spots 26 = .ok (.invokevirtual 194, 3))))
    (ms_lf (ms_aload_n (k := 0) hx hb rfl (by decide +kernel : decode cX11_spots 29 = .ok (.aload_n 0, 1)))))
    (ms_b (ms_lf (ms_getf (C := RX11) (T := TX11) (N := 11) hx hb hf hts (fun w h => hAW w (inq_11 w h)) hown hK rfl (by decide) (hts _ (hAW _ qw_855)) rfl (by decide +kernel : decode cX11_spots 30 = .ok (.getfield 62, 3))))
    (ms_b (ms_lf (ms_getf (C := RX10) (T := TX10) (N := 13) hx hb hf hts (fun w h => hAW w (inq_10 w h)) hown hK rfl (by decide) (hts _ (hAW _ qw_467)) rfl (by decide +kernel : decode cX11_spots 33 = .ok (.getfield 217, 3))))
    (ms_lf (ms_iret hx hb hr hlk (by decide +kernel : decode cX11_spots 36 = .ok (.ireturn, 1)))))))))
set_option maxRecDepth 100000 in
set_option maxHeartbeats 8000000 in
/-- TippedCrates.round -/
theorem sd_138 (l : Launch) (f : Nat → Nat) (D : va_G) (cA : FieldType → ClassId) (d : Nat) : mm_Ok2 l f D cA d (yX11_round, cX11_round, 3, (some .int), mc_138) := by
  intro p e R s m args below meth c C hRf hRl pc
  obtain ⟨hx, hb, hml, hr, hlk, hnm, hown, hts, hEX, hgo, hf⟩ := C
  obtain ⟨hK, hA, hX, hZs, hZc, hZq, hTx, hSR0, hSR1, hAO, hN⟩ := id hEX
  have hAW : ∀ w ∈ mm_AW, w ∈ (Cond.code yX11_round cX11_round 3 (some .int) :: mm_AW) := fun w h => List.mem_cons_of_mem _ h
  have hown : s.vm.findClass "TippedCrates" = some m.cls := hown
  show mm_S p l e R s m args below meth c f D mm_cl cA 3 _ pc (mc_138 pc)
  unfold mc_138
  exact (ms_b (ms_b (ms_b (ms_b (ms_lf (ms_aload_n (k := 0) hx hb rfl (by decide +kernel : decode cX11_round 0 = .ok (.aload_n 0, 1))))
    (ms_b (ms_lf (ms_iload_n (k := 1) hx hb rfl (by decide +kernel : decode cX11_round 1 = .ok (.iload_n 1, 1))))
    (ms_lf (ms_ivV (C := RX11) (T := TX11) (N := 11) hx hb hml hown hts hgo hEX hf hK rfl (mm_GV hAW (mm_GI hAW gi_162) qw_932 qw_934 qw_27 qw_117) rfl ⟨rfl, hd_162⟩ (mm_rm hRf hRl (Nat.le_of_ble_eq_true rfl)) (by decide +kernel : decode cX11_round 2 = .ok (.invokevirtual 131, 3))))))
    (ms_b (ms_b (ms_lf (ms_if_eq hx hb (by decide) (by decide +kernel : decode cX11_round 5 = .ok (.ifCond .eq 12, 3))))
    (ms_lf (ms_iload_n (k := 2) hx hb rfl (by decide +kernel : decode cX11_round 8 = .ok (.iload_n 2, 1)))))
    (ms_b (ms_lf (ms_iconst hx hb (by decide) (by decide +kernel : decode cX11_round 9 = .ok (.iconst 0, 1))))
    (ms_lf (ms_iconst hx hb (by decide) (by decide +kernel : decode cX11_round 10 = .ok (.iconst 1, 1)))))))
    (ms_b (ms_b (ms_b (ms_lf (ms_ivS hx hb hml hown hts hgo hEX (mm_GS hAW (mm_GI hAW gi_166) qw_919 qw_748 qw_117) rfl hd_166 (mm_rm hRf hRl (Nat.le_of_ble_eq_true rfl)) (by decide +kernel : decode cX11_round 11 = .ok (.invokestatic 140, 3))))
    (ms_lf (ms_if_ne hx hb (by decide) (by decide +kernel : decode cX11_round 14 = .ok (.ifCond .ne 5, 3)))))
    (ms_b (ms_lf (ms_iconst hx hb (by decide) (by decide +kernel : decode cX11_round 17 = .ok (.iconst (-1), 1))))
    (ms_lf (ms_iret hx hb hr hlk (by decide +kernel : decode cX11_round 18 = .ok (.ireturn, 1))))))
    (ms_b (ms_b (ms_lf (ms_aload_n (k := 0) hx hb rfl (by decide +kernel : decode cX11_round 19 = .ok (.aload_n 0, 1))))
    (ms_lf (ms_getf (C := RX11) (T := TX11) (N := 11) hx hb hf hts (fun w h => hAW w (inq_11 w h)) hown hK rfl (by decide) (hts _ (hAW _ qw_854)) rfl (by decide +kernel : decode cX11_round 20 = .ok (.getfield 53, 3)))))
    (ms_b (ms_lf (ms_aload_n (k := 0) hx hb rfl (by decide +kernel : decode cX11_round 23 = .ok (.aload_n 0, 1))))
    (ms_lf (ms_getf (C := RX11) (T := TX11) (N := 11) hx hb hf hts (fun w h => hAW w (inq_11 w h)) hown hK rfl (by decide) (hts _ (hAW _ qw_858)) rfl (by decide +kernel : decode cX11_round 24 = .ok (.getfield 85, 3))))))))
    (ms_b (ms_b (ms_b (ms_lf (ms_iload_n (k := 1) hx hb rfl (by decide +kernel : decode cX11_round 27 = .ok (.iload_n 1, 1))))
    (ms_b (ms_lf (ms_ivV (C := RX6) (T := TX6) (N := 5) hx hb hml hown hts hgo hEX hf hK rfl (mm_GV hAW (mm_GI hAW gi_70) qw_1046 qw_1047 qw_1048 qw_129) rfl ⟨rfl, hd_70⟩ (mm_rm hRf hRl (Nat.le_of_ble_eq_true rfl)) (by decide +kernel : decode cX11_round 28 = .ok (.invokevirtual 190, 3))))
    (ms_lf (ms_aload_n (k := 0) hx hb rfl (by decide +kernel : decode cX11_round 31 = .ok (.aload_n 0, 1))))))
    (ms_b (ms_b (ms_lf (ms_getf (C := RX11) (T := TX11) (N := 11) hx hb hf hts (fun w h => hAW w (inq_11 w h)) hown hK rfl (by decide) (hts _ (hAW _ qw_855)) rfl (by decide +kernel : decode cX11_round 32 = .ok (.getfield 62, 3))))
    (ms_lf (ms_ivV (C := RX10) (T := TX10) (N := 13) hx hb hml hown hts hgo hEX hf hK rfl (mm_GV hAW (mm_GI hAW gi_105) qw_1056 qw_1057 qw_1058 qw_130) rfl ⟨rfl, hd_105⟩ (mm_rm hRf hRl (Nat.le_of_ble_eq_true rfl)) (by decide +kernel : decode cX11_round 35 = .ok (.invokevirtual 194, 3)))))
    (ms_b (ms_lf (ms_iload_n (k := 2) hx hb rfl (by decide +kernel : decode cX11_round 38 = .ok (.iload_n 2, 1))))
    (ms_lf (ms_if_ne hx hb (by decide) (by decide +kernel : decode cX11_round 39 = .ok (.ifCond .ne 13, 3)))))))
    (ms_b (ms_b (ms_b (ms_lf (ms_aload_n (k := 0) hx hb rfl (by decide +kernel : decode cX11_round 42 = .ok (.aload_n 0, 1))))
    (ms_lf (ms_getf (C := RX11) (T := TX11) (N := 11) hx hb hf hts (fun w h => hAW w (inq_11 w h)) hown hK rfl (by decide) (hts _ (hAW _ qw_855)) rfl (by decide +kernel : decode cX11_round 43 = .ok (.getfield 62, 3)))))
    (ms_b (ms_lf (ms_ivV (C := RX10) (T := TX10) (N := 13) hx hb hml hown hts hgo hEX hf hK rfl (mm_GV hAW (mm_GI hAW gi_111) qw_1137 qw_1138 qw_1139 qw_130) rfl ⟨rfl, hd_111⟩ (mm_rm hRf hRl (Nat.le_of_ble_eq_true rfl)) (by decide +kernel : decode cX11_round 46 = .ok (.invokevirtual 220, 3))))
    (ms_lf (ms_goto hx hb (by decide) (by decide +kernel : decode cX11_round 49 = .ok (.goto 10, 3))))))
    (ms_b (ms_b (ms_lf (ms_aload_n (k := 0) hx hb rfl (by decide +kernel : decode cX11_round 52 = .ok (.aload_n 0, 1))))
    (ms_lf (ms_getf (C := RX11) (T := TX11) (N := 11) hx hb hf hts (fun w h => hAW w (inq_11 w h)) hown hK rfl (by decide) (hts _ (hAW _ qw_855)) rfl (by decide +kernel : decode cX11_round 53 = .ok (.getfield 62, 3)))))
    (ms_b (ms_lf (ms_ivV (C := RX10) (T := TX10) (N := 13) hx hb hml hown hts hgo hEX hf hK rfl (mm_GV hAW (mm_GI hAW gi_112) qw_1141 qw_1142 qw_1143 qw_130) rfl ⟨rfl, hd_112⟩ (mm_rm hRf hRl (Nat.le_of_ble_eq_true rfl)) (by decide +kernel : decode cX11_round 56 = .ok (.invokevirtual 223, 3))))
    (ms_lf (ms_iret hx hb hr hlk (by decide +kernel : decode cX11_round 59 = .ok (.ireturn, 1)))))))))
set_option maxRecDepth 100000 in
set_option maxHeartbeats 8000000 in
/-- TippedCrates.richest -/
theorem sd_139 (l : Launch) (f : Nat → Nat) (D : va_G) (cA : FieldType → ClassId) (d : Nat) : mm_Ok2 l f D cA d (yX11_richest, cX11_richest, 4, (some .int), mc_139) := by
  intro p e R s m args below meth c C hRf hRl pc
  obtain ⟨hx, hb, hml, hr, hlk, hnm, hown, hts, hEX, hgo, hf⟩ := C
  obtain ⟨hK, hA, hX, hZs, hZc, hZq, hTx, hSR0, hSR1, hAO, hN⟩ := id hEX
  have hAW : ∀ w ∈ mm_AW, w ∈ (Cond.code yX11_richest cX11_richest 4 (some .int) :: mm_AW) := fun w h => List.mem_cons_of_mem _ h
  have hown : s.vm.findClass "TippedCrates" = some m.cls := hown
  show mm_S p l e R s m args below meth c f D mm_cl cA 4 _ pc (mc_139 pc)
  unfold mc_139
  exact (ms_b (ms_b (ms_b (ms_b (ms_lf (ms_aload_n (k := 0) hx hb rfl (by decide +kernel : decode cX11_richest 0 = .ok (.aload_n 0, 1))))
    (ms_b (ms_lf (ms_iload_n (k := 1) hx hb rfl (by decide +kernel : decode cX11_richest 1 = .ok (.iload_n 1, 1))))
    (ms_lf (ms_ivV (C := RX11) (T := TX11) (N := 11) hx hb hml hown hts hgo hEX hf hK rfl (mm_GV hAW (mm_GI hAW gi_162) qw_932 qw_934 qw_27 qw_117) rfl ⟨rfl, hd_162⟩ (mm_rm hRf hRl (Nat.le_of_ble_eq_true rfl)) (by decide +kernel : decode cX11_richest 2 = .ok (.invokevirtual 131, 3))))))
    (ms_b (ms_b (ms_lf (ms_if_eq hx hb (by decide) (by decide +kernel : decode cX11_richest 5 = .ok (.ifCond .eq 22, 3))))
    (ms_lf (ms_iload_n (k := 2) hx hb rfl (by decide +kernel : decode cX11_richest 8 = .ok (.iload_n 2, 1)))))
    (ms_b (ms_lf (ms_iconst hx hb (by decide) (by decide +kernel : decode cX11_richest 9 = .ok (.iconst 0, 1))))
    (ms_lf (ms_bipush hx hb (by decide) (by decide +kernel : decode cX11_richest 10 = .ok (.bipush 40, 2)))))))
    (ms_b (ms_b (ms_lf (ms_ivS hx hb hml hown hts hgo hEX (mm_GS hAW (mm_GI hAW gi_166) qw_919 qw_748 qw_117) rfl hd_166 (mm_rm hRf hRl (Nat.le_of_ble_eq_true rfl)) (by decide +kernel : decode cX11_richest 12 = .ok (.invokestatic 140, 3))))
    (ms_b (ms_lf (ms_if_eq hx hb (by decide) (by decide +kernel : decode cX11_richest 15 = .ok (.ifCond .eq 12, 3))))
    (ms_lf (ms_iload_n (k := 3) hx hb rfl (by decide +kernel : decode cX11_richest 18 = .ok (.iload_n 3, 1))))))
    (ms_b (ms_b (ms_lf (ms_iconst hx hb (by decide) (by decide +kernel : decode cX11_richest 19 = .ok (.iconst 0, 1))))
    (ms_lf (ms_iconst hx hb (by decide) (by decide +kernel : decode cX11_richest 20 = .ok (.iconst 1, 1)))))
    (ms_b (ms_lf (ms_ivS hx hb hml hown hts hgo hEX (mm_GS hAW (mm_GI hAW gi_166) qw_919 qw_748 qw_117) rfl hd_166 (mm_rm hRf hRl (Nat.le_of_ble_eq_true rfl)) (by decide +kernel : decode cX11_richest 21 = .ok (.invokestatic 140, 3))))
    (ms_lf (ms_if_ne hx hb (by decide) (by decide +kernel : decode cX11_richest 24 = .ok (.ifCond .ne 5, 3))))))))
    (ms_b (ms_b (ms_b (ms_lf (ms_iconst hx hb (by decide) (by decide +kernel : decode cX11_richest 27 = .ok (.iconst (-1), 1))))
    (ms_b (ms_lf (ms_iret hx hb hr hlk (by decide +kernel : decode cX11_richest 28 = .ok (.ireturn, 1))))
    (ms_lf (ms_aload_n (k := 0) hx hb rfl (by decide +kernel : decode cX11_richest 29 = .ok (.aload_n 0, 1))))))
    (ms_b (ms_b (ms_lf (ms_getf (C := RX11) (T := TX11) (N := 11) hx hb hf hts (fun w h => hAW w (inq_11 w h)) hown hK rfl (by decide) (hts _ (hAW _ qw_854)) rfl (by decide +kernel : decode cX11_richest 30 = .ok (.getfield 53, 3))))
    (ms_lf (ms_aload_n (k := 0) hx hb rfl (by decide +kernel : decode cX11_richest 33 = .ok (.aload_n 0, 1)))))
    (ms_b (ms_lf (ms_getf (C := RX11) (T := TX11) (N := 11) hx hb hf hts (fun w h => hAW w (inq_11 w h)) hown hK rfl (by decide) (hts _ (hAW _ qw_858)) rfl (by decide +kernel : decode cX11_richest 34 = .ok (.getfield 85, 3))))
    (ms_lf (ms_iload_n (k := 1) hx hb rfl (by decide +kernel : decode cX11_richest 37 = .ok (.iload_n 1, 1)))))))
    (ms_b (ms_b (ms_lf (ms_ivV (C := RX6) (T := TX6) (N := 5) hx hb hml hown hts hgo hEX hf hK rfl (mm_GV hAW (mm_GI hAW gi_70) qw_1046 qw_1047 qw_1048 qw_129) rfl ⟨rfl, hd_70⟩ (mm_rm hRf hRl (Nat.le_of_ble_eq_true rfl)) (by decide +kernel : decode cX11_richest 38 = .ok (.invokevirtual 190, 3))))
    (ms_b (ms_lf (ms_aload_n (k := 0) hx hb rfl (by decide +kernel : decode cX11_richest 41 = .ok (.aload_n 0, 1))))
    (ms_lf (ms_getf (C := RX11) (T := TX11) (N := 11) hx hb hf hts (fun w h => hAW w (inq_11 w h)) hown hK rfl (by decide) (hts _ (hAW _ qw_855)) rfl (by decide +kernel : decode cX11_richest 42 = .ok (.getfield 62, 3))))))
    (ms_b (ms_b (ms_lf (ms_iload_n (k := 2) hx hb rfl (by decide +kernel : decode cX11_richest 45 = .ok (.iload_n 2, 1))))
    (ms_lf (ms_iload_n (k := 3) hx hb rfl (by decide +kernel : decode cX11_richest 46 = .ok (.iload_n 3, 1)))))
    (ms_b (ms_lf (ms_ivV (C := RX10) (T := TX10) (N := 13) hx hb hml hown hts hgo hEX hf hK rfl (mm_GV hAW (mm_GI hAW gi_119) qw_1149 qw_1150 qw_1151 qw_130) rfl ⟨rfl, hd_119⟩ (mm_rm hRf hRl (Nat.le_of_ble_eq_true rfl)) (by decide +kernel : decode cX11_richest 47 = .ok (.invokevirtual 226, 3))))
    (ms_lf (ms_iret hx hb hr hlk (by decide +kernel : decode cX11_richest 50 = .ok (.ireturn, 1)))))))))
set_option maxRecDepth 100000 in
set_option maxHeartbeats 8000000 in
/-- TippedCrates.spell -/
theorem sd_140 (l : Launch) (f : Nat → Nat) (D : va_G) (cA : FieldType → ClassId) (d : Nat) : mm_Ok2 l f D cA d (yX11_spell, cX11_spell, 4, (some .int), mc_140) := by
  intro p e R s m args below meth c C hRf hRl pc
  obtain ⟨hx, hb, hml, hr, hlk, hnm, hown, hts, hEX, hgo, hf⟩ := C
  obtain ⟨hK, hA, hX, hZs, hZc, hZq, hTx, hSR0, hSR1, hAO, hN⟩ := id hEX
  have hAW : ∀ w ∈ mm_AW, w ∈ (Cond.code yX11_spell cX11_spell 4 (some .int) :: mm_AW) := fun w h => List.mem_cons_of_mem _ h
  have hown : s.vm.findClass "TippedCrates" = some m.cls := hown
  show mm_S p l e R s m args below meth c f D mm_cl cA 4 _ pc (mc_140 pc)
  unfold mc_140
  exact (ms_b (ms_b (ms_b (ms_b (ms_b (ms_lf (ms_aload_n (k := 0) hx hb rfl (by decide +kernel : decode cX11_spell 0 = .ok (.aload_n 0, 1))))
    (ms_lf (ms_iload_n (k := 1) hx hb rfl (by decide +kernel : decode cX11_spell 1 = .ok (.iload_n 1, 1)))))
    (ms_b (ms_lf (ms_ivV (C := RX11) (T := TX11) (N := 11) hx hb hml hown hts hgo hEX hf hK rfl (mm_GV hAW (mm_GI hAW gi_162) qw_932 qw_934 qw_27 qw_117) rfl ⟨rfl, hd_162⟩ (mm_rm hRf hRl (Nat.le_of_ble_eq_true rfl)) (by decide +kernel : decode cX11_spell 2 = .ok (.invokevirtual 131, 3))))
    (ms_lf (ms_if_eq hx hb (by decide) (by decide +kernel : decode cX11_spell 5 = .ok (.ifCond .eq 13, 3))))))
    (ms_b (ms_b (ms_lf (ms_iload_n (k := 3) hx hb rfl (by decide +kernel : decode cX11_spell 8 = .ok (.iload_n 3, 1))))
    (ms_lf (ms_iconst hx hb (by decide) (by decide +kernel : decode cX11_spell 9 = .ok (.iconst 1, 1)))))
    (ms_b (ms_lf (ms_bipush hx hb (by decide) (by decide +kernel : decode cX11_spell 10 = .ok (.bipush 6, 2))))
    (ms_lf (ms_ivS hx hb hml hown hts hgo hEX (mm_GS hAW (mm_GI hAW gi_166) qw_919 qw_748 qw_117) rfl hd_166 (mm_rm hRf hRl (Nat.le_of_ble_eq_true rfl)) (by decide +kernel : decode cX11_spell 12 = .ok (.invokestatic 140, 3)))))))
    (ms_b (ms_b (ms_b (ms_lf (ms_if_ne hx hb (by decide) (by decide +kernel : decode cX11_spell 15 = .ok (.ifCond .ne 5, 3))))
    (ms_lf (ms_iconst hx hb (by decide) (by decide +kernel : decode cX11_spell 18 = .ok (.iconst (-1), 1)))))
    (ms_b (ms_lf (ms_iret hx hb hr hlk (by decide +kernel : decode cX11_spell 19 = .ok (.ireturn, 1))))
    (ms_lf (ms_iload_n (k := 2) hx hb rfl (by decide +kernel : decode cX11_spell 20 = .ok (.iload_n 2, 1))))))
    (ms_b (ms_b (ms_lf (ms_if_lt hx hb (by decide) (by decide +kernel : decode cX11_spell 21 = .ok (.ifCond .lt 12, 3))))
    (ms_lf (ms_iload_n (k := 2) hx hb rfl (by decide +kernel : decode cX11_spell 24 = .ok (.iload_n 2, 1)))))
    (ms_b (ms_lf (ms_gs hx hb hown (hZs 4 _ rfl) (hts _ (hAW _ qw_1162)) rfl (by decide +kernel : decode cX11_spell 25 = .ok (.getstatic 229, 3))))
    (ms_lf (ms_iload_n (k := 3) hx hb rfl (by decide +kernel : decode cX11_spell 28 = .ok (.iload_n 3, 1))))))))
    (ms_b (ms_b (ms_b (ms_b (ms_lf (ms_iald hx hb hf hA hX (by decide +kernel : decode cX11_spell 29 = .ok (.iaload, 1))))
    (ms_lf (ms_ic_lt hx hb (by decide) (by decide +kernel : decode cX11_spell 30 = .ok (.if_icmp .lt 5, 3)))))
    (ms_b (ms_lf (ms_iconst hx hb (by decide) (by decide +kernel : decode cX11_spell 33 = .ok (.iconst (-1), 1))))
    (ms_lf (ms_iret hx hb hr hlk (by decide +kernel : decode cX11_spell 34 = .ok (.ireturn, 1))))))
    (ms_b (ms_b (ms_lf (ms_aload_n (k := 0) hx hb rfl (by decide +kernel : decode cX11_spell 35 = .ok (.aload_n 0, 1))))
    (ms_lf (ms_getf (C := RX11) (T := TX11) (N := 11) hx hb hf hts (fun w h => hAW w (inq_11 w h)) hown hK rfl (by decide) (hts _ (hAW _ qw_854)) rfl (by decide +kernel : decode cX11_spell 36 = .ok (.getfield 53, 3)))))
    (ms_b (ms_lf (ms_aload_n (k := 0) hx hb rfl (by decide +kernel : decode cX11_spell 39 = .ok (.aload_n 0, 1))))
    (ms_lf (ms_getf (C := RX11) (T := TX11) (N := 11) hx hb hf hts (fun w h => hAW w (inq_11 w h)) hown hK rfl (by decide) (hts _ (hAW _ qw_858)) rfl (by decide +kernel : decode cX11_spell 40 = .ok (.getfield 85, 3)))))))
    (ms_b (ms_b (ms_b (ms_lf (ms_iload_n (k := 1) hx hb rfl (by decide +kernel : decode cX11_spell 43 = .ok (.iload_n 1, 1))))
    (ms_lf (ms_ivV (C := RX6) (T := TX6) (N := 5) hx hb hml hown hts hgo hEX hf hK rfl (mm_GV hAW (mm_GI hAW gi_70) qw_1046 qw_1047 qw_1048 qw_129) rfl ⟨rfl, hd_70⟩ (mm_rm hRf hRl (Nat.le_of_ble_eq_true rfl)) (by decide +kernel : decode cX11_spell 44 = .ok (.invokevirtual 190, 3)))))
    (ms_b (ms_lf (ms_aload_n (k := 0) hx hb rfl (by decide +kernel : decode cX11_spell 47 = .ok (.aload_n 0, 1))))
    (ms_lf (ms_getf (C := RX11) (T := TX11) (N := 11) hx hb hf hts (fun w h => hAW w (inq_11 w h)) hown hK rfl (by decide) (hts _ (hAW _ qw_856)) rfl (by decide +kernel : decode cX11_spell 48 = .ok (.getfield 71, 3))))))
    (ms_b (ms_b (ms_lf (ms_iload_n (k := 2) hx hb rfl (by decide +kernel : decode cX11_spell 51 = .ok (.iload_n 2, 1))))
    (ms_lf (ms_iload_n (k := 3) hx hb rfl (by decide +kernel : decode cX11_spell 52 = .ok (.iload_n 3, 1)))))
    (ms_b (ms_lf (ms_ivV (C := RX5) (T := TX5) (N := 11) hx hb hml hown hts hgo hEX hf hK rfl (mm_GV hAW (mm_GI hAW gi_64) qw_1164 qw_1165 qw_1166 qw_131) rfl ⟨rfl, hd_64⟩ (mm_rm hRf hRl (Nat.le_of_ble_eq_true rfl)) (by decide +kernel : decode cX11_spell 53 = .ok (.invokevirtual 232, 3))))
    (ms_lf (ms_iret hx hb hr hlk (by decide +kernel : decode cX11_spell 56 = .ok (.ireturn, 1)))))))))
set_option maxRecDepth 100000 in
set_option maxHeartbeats 8000000 in
/-- TippedCrates.game -/
theorem sd_141 (l : Launch) (f : Nat → Nat) (D : va_G) (cA : FieldType → ClassId) (d : Nat) : mm_Ok2 l f D cA d (yX11_game, cX11_game, 5, (some .int), mc_141) := by
  intro p e R s m args below meth c C hRf hRl pc
  obtain ⟨hx, hb, hml, hr, hlk, hnm, hown, hts, hEX, hgo, hf⟩ := C
  obtain ⟨hK, hA, hX, hZs, hZc, hZq, hTx, hSR0, hSR1, hAO, hN⟩ := id hEX
  have hAW : ∀ w ∈ mm_AW, w ∈ (Cond.code yX11_game cX11_game 5 (some .int) :: mm_AW) := fun w h => List.mem_cons_of_mem _ h
  have hown : s.vm.findClass "TippedCrates" = some m.cls := hown
  show mm_S p l e R s m args below meth c f D mm_cl cA 5 _ pc (mc_141 pc)
  unfold mc_141
  exact (ms_b (ms_b (ms_b (ms_b (ms_b (ms_lf (ms_aload_n (k := 0) hx hb rfl (by decide +kernel : decode cX11_game 0 = .ok (.aload_n 0, 1))))
    (ms_lf (ms_iload_n (k := 1) hx hb rfl (by decide +kernel : decode cX11_game 1 = .ok (.iload_n 1, 1)))))
    (ms_b (ms_lf (ms_ivV (C := RX11) (T := TX11) (N := 11) hx hb hml hown hts hgo hEX hf hK rfl (mm_GV hAW (mm_GI hAW gi_162) qw_932 qw_934 qw_27 qw_117) rfl ⟨rfl, hd_162⟩ (mm_rm hRf hRl (Nat.le_of_ble_eq_true rfl)) (by decide +kernel : decode cX11_game 2 = .ok (.invokevirtual 131, 3))))
    (ms_lf (ms_if_eq hx hb (by decide) (by decide +kernel : decode cX11_game 5 = .ok (.ifCond .eq 22, 3))))))
    (ms_b (ms_b (ms_lf (ms_iload_n (k := 2) hx hb rfl (by decide +kernel : decode cX11_game 8 = .ok (.iload_n 2, 1))))
    (ms_lf (ms_iconst hx hb (by decide) (by decide +kernel : decode cX11_game 9 = .ok (.iconst 1, 1)))))
    (ms_b (ms_lf (ms_bipush hx hb (by decide) (by decide +kernel : decode cX11_game 10 = .ok (.bipush 6, 2))))
    (ms_b (ms_lf (ms_ivS hx hb hml hown hts hgo hEX (mm_GS hAW (mm_GI hAW gi_166) qw_919 qw_748 qw_117) rfl hd_166 (mm_rm hRf hRl (Nat.le_of_ble_eq_true rfl)) (by decide +kernel : decode cX11_game 12 = .ok (.invokestatic 140, 3))))
    (ms_lf (ms_if_eq hx hb (by decide) (by decide +kernel : decode cX11_game 15 = .ok (.ifCond .eq 12, 3))))))))
    (ms_b (ms_b (ms_b (ms_lf (ms_iload_n (k := 3) hx hb rfl (by decide +kernel : decode cX11_game 18 = .ok (.iload_n 3, 1))))
    (ms_lf (ms_iconst hx hb (by decide) (by decide +kernel : decode cX11_game 19 = .ok (.iconst 0, 1)))))
    (ms_b (ms_lf (ms_iconst hx hb (by decide) (by decide +kernel : decode cX11_game 20 = .ok (.iconst 1, 1))))
    (ms_lf (ms_ivS hx hb hml hown hts hgo hEX (mm_GS hAW (mm_GI hAW gi_166) qw_919 qw_748 qw_117) rfl hd_166 (mm_rm hRf hRl (Nat.le_of_ble_eq_true rfl)) (by decide +kernel : decode cX11_game 21 = .ok (.invokestatic 140, 3))))))
    (ms_b (ms_b (ms_lf (ms_if_ne hx hb (by decide) (by decide +kernel : decode cX11_game 24 = .ok (.ifCond .ne 5, 3))))
    (ms_lf (ms_iconst hx hb (by decide) (by decide +kernel : decode cX11_game 27 = .ok (.iconst (-1), 1)))))
    (ms_b (ms_lf (ms_iret hx hb hr hlk (by decide +kernel : decode cX11_game 28 = .ok (.ireturn, 1))))
    (ms_b (ms_lf (ms_aload_n (k := 0) hx hb rfl (by decide +kernel : decode cX11_game 29 = .ok (.aload_n 0, 1))))
    (ms_lf (ms_getf (C := RX11) (T := TX11) (N := 11) hx hb hf hts (fun w h => hAW w (inq_11 w h)) hown hK rfl (by decide) (hts _ (hAW _ qw_854)) rfl (by decide +kernel : decode cX11_game 30 = .ok (.getfield 53, 3)))))))))
    (ms_b (ms_b (ms_b (ms_b (ms_lf (ms_aload_n (k := 0) hx hb rfl (by decide +kernel : decode cX11_game 33 = .ok (.aload_n 0, 1))))
    (ms_lf (ms_getf (C := RX11) (T := TX11) (N := 11) hx hb hf hts (fun w h => hAW w (inq_11 w h)) hown hK rfl (by decide) (hts _ (hAW _ qw_858)) rfl (by decide +kernel : decode cX11_game 34 = .ok (.getfield 85, 3)))))
    (ms_b (ms_lf (ms_iload_n (k := 1) hx hb rfl (by decide +kernel : decode cX11_game 37 = .ok (.iload_n 1, 1))))
    (ms_lf (ms_ivV (C := RX6) (T := TX6) (N := 5) hx hb hml hown hts hgo hEX hf hK rfl (mm_GV hAW (mm_GI hAW gi_70) qw_1046 qw_1047 qw_1048 qw_129) rfl ⟨rfl, hd_70⟩ (mm_rm hRf hRl (Nat.le_of_ble_eq_true rfl)) (by decide +kernel : decode cX11_game 38 = .ok (.invokevirtual 190, 3))))))
    (ms_b (ms_b (ms_lf (ms_aload_n (k := 0) hx hb rfl (by decide +kernel : decode cX11_game 41 = .ok (.aload_n 0, 1))))
    (ms_lf (ms_getf (C := RX11) (T := TX11) (N := 11) hx hb hf hts (fun w h => hAW w (inq_11 w h)) hown hK rfl (by decide) (hts _ (hAW _ qw_856)) rfl (by decide +kernel : decode cX11_game 42 = .ok (.getfield 71, 3)))))
    (ms_b (ms_lf (ms_iload_n (k := 2) hx hb rfl (by decide +kernel : decode cX11_game 45 = .ok (.iload_n 2, 1))))
    (ms_b (ms_lf (ms_ivV (C := RX5) (T := TX5) (N := 11) hx hb hml hown hts hgo hEX hf hK rfl (mm_GV hAW (mm_GI hAW gi_66) qw_1179 qw_1180 qw_1181 qw_131) rfl ⟨rfl, hd_66⟩ (mm_rm hRf hRl (Nat.le_of_ble_eq_true rfl)) (by decide +kernel : decode cX11_game 46 = .ok (.invokevirtual 235, 3))))
    (ms_lf (ms_istore hx hb (by decide : 4 < 5) (by decide +kernel : decode cX11_game 49 = .ok (.istore 4, 2))))))))
    (ms_b (ms_b (ms_b (ms_lf (ms_iload_n (k := 3) hx hb rfl (by decide +kernel : decode cX11_game 51 = .ok (.iload_n 3, 1))))
    (ms_lf (ms_if_ne hx hb (by decide) (by decide +kernel : decode cX11_game 52 = .ok (.ifCond .ne 8, 3)))))
    (ms_b (ms_lf (ms_iload hx hb (by decide +kernel : decode cX11_game 55 = .ok (.iload 4, 2))))
    (ms_b (ms_lf (ms_goto hx hb (by decide) (by decide +kernel : decode cX11_game 57 = .ok (.goto 13, 3))))
    (ms_lf (ms_aload_n (k := 0) hx hb rfl (by decide +kernel : decode cX11_game 60 = .ok (.aload_n 0, 1)))))))
    (ms_b (ms_b (ms_lf (ms_getf (C := RX11) (T := TX11) (N := 11) hx hb hf hts (fun w h => hAW w (inq_11 w h)) hown hK rfl (by decide) (hts _ (hAW _ qw_856)) rfl (by decide +kernel : decode cX11_game 61 = .ok (.getfield 71, 3))))
    (ms_lf (ms_iload hx hb (by decide +kernel : decode cX11_game 64 = .ok (.iload 4, 2)))))
    (ms_b (ms_lf (ms_iload_n (k := 2) hx hb rfl (by decide +kernel : decode cX11_game 66 = .ok (.iload_n 2, 1))))
    (ms_b (ms_lf (ms_ivV (C := RX5) (T := TX5) (N := 11) hx hb hml hown hts hgo hEX hf hK rfl (mm_GV hAW (mm_GI hAW gi_67) qw_1188 qw_1189 qw_1190 qw_131) rfl ⟨rfl, hd_67⟩ (mm_rm hRf hRl (Nat.le_of_ble_eq_true rfl)) (by decide +kernel : decode cX11_game 67 = .ok (.invokevirtual 238, 3))))
    (ms_lf (ms_iret hx hb hr hlk (by decide +kernel : decode cX11_game 70 = .ok (.ireturn, 1))))))))))
set_option maxRecDepth 100000 in
set_option maxHeartbeats 8000000 in
/-- TippedCrates.tops -/
theorem sd_142 (l : Launch) (f : Nat → Nat) (D : va_G) (cA : FieldType → ClassId) (d : Nat) : mm_Ok2 l f D cA d (yX11_tops, cX11_tops, 2, (some .int), mc_142) := by
  intro p e R s m args below meth c C hRf hRl pc
  obtain ⟨hx, hb, hml, hr, hlk, hnm, hown, hts, hEX, hgo, hf⟩ := C
  obtain ⟨hK, hA, hX, hZs, hZc, hZq, hTx, hSR0, hSR1, hAO, hN⟩ := id hEX
  have hAW : ∀ w ∈ mm_AW, w ∈ (Cond.code yX11_tops cX11_tops 2 (some .int) :: mm_AW) := fun w h => List.mem_cons_of_mem _ h
  have hown : s.vm.findClass "TippedCrates" = some m.cls := hown
  show mm_S p l e R s m args below meth c f D mm_cl cA 2 _ pc (mc_142 pc)
  unfold mc_142
  exact (ms_b (ms_b (ms_b (ms_b (ms_lf (ms_aload_n (k := 0) hx hb rfl (by decide +kernel : decode cX11_tops 0 = .ok (.aload_n 0, 1))))
    (ms_lf (ms_iload_n (k := 1) hx hb rfl (by decide +kernel : decode cX11_tops 1 = .ok (.iload_n 1, 1)))))
    (ms_b (ms_lf (ms_ivV (C := RX11) (T := TX11) (N := 11) hx hb hml hown hts hgo hEX hf hK rfl (mm_GV hAW (mm_GI hAW gi_162) qw_932 qw_934 qw_27 qw_117) rfl ⟨rfl, hd_162⟩ (mm_rm hRf hRl (Nat.le_of_ble_eq_true rfl)) (by decide +kernel : decode cX11_tops 2 = .ok (.invokevirtual 131, 3))))
    (ms_lf (ms_if_ne hx hb (by decide) (by decide +kernel : decode cX11_tops 5 = .ok (.ifCond .ne 5, 3))))))
    (ms_b (ms_b (ms_lf (ms_iconst hx hb (by decide) (by decide +kernel : decode cX11_tops 8 = .ok (.iconst (-1), 1))))
    (ms_lf (ms_iret hx hb hr hlk (by decide +kernel : decode cX11_tops 9 = .ok (.ireturn, 1)))))
    (ms_b (ms_lf (ms_aload_n (k := 0) hx hb rfl (by decide +kernel : decode cX11_tops 10 = .ok (.aload_n 0, 1))))
    (ms_b (ms_lf (ms_getf (C := RX11) (T := TX11) (N := 11) hx hb hf hts (fun w h => hAW w (inq_11 w h)) hown hK rfl (by decide) (hts _ (hAW _ qw_854)) rfl (by decide +kernel : decode cX11_tops 11 = .ok (.getfield 53, 3))))
    (ms_lf (ms_aload_n (k := 0) hx hb rfl (by decide +kernel : decode cX11_tops 14 = .ok (.aload_n 0, 1))))))))
    (ms_b (ms_b (ms_b (ms_lf (ms_getf (C := RX11) (T := TX11) (N := 11) hx hb hf hts (fun w h => hAW w (inq_11 w h)) hown hK rfl (by decide) (hts _ (hAW _ qw_858)) rfl (by decide +kernel : decode cX11_tops 15 = .ok (.getfield 85, 3))))
    (ms_lf (ms_iload_n (k := 1) hx hb rfl (by decide +kernel : decode cX11_tops 18 = .ok (.iload_n 1, 1)))))
    (ms_b (ms_lf (ms_ivV (C := RX6) (T := TX6) (N := 5) hx hb hml hown hts hgo hEX hf hK rfl (mm_GV hAW (mm_GI hAW gi_70) qw_1046 qw_1047 qw_1048 qw_129) rfl ⟨rfl, hd_70⟩ (mm_rm hRf hRl (Nat.le_of_ble_eq_true rfl)) (by decide +kernel : decode cX11_tops 19 = .ok (.invokevirtual 190, 3))))
    (ms_b (ms_lf (ms_aload_n (k := 0) hx hb rfl (by decide +kernel : decode cX11_tops 22 = .ok (.aload_n 0, 1))))
    (ms_lf (ms_getf (C := RX11) (T := TX11) (N := 11) hx hb hf hts (fun w h => hAW w (inq_11 w h)) hown hK rfl (by decide) (hts _ (hAW _ qw_855)) rfl (by decide +kernel : decode cX11_tops 23 = .ok (.getfield 62, 3)))))))
    (ms_b (ms_b (ms_lf (ms_ivV (C := RX10) (T := TX10) (N := 13) hx hb hml hown hts hgo hEX hf hK rfl (mm_GV hAW (mm_GI hAW gi_105) qw_1056 qw_1057 qw_1058 qw_130) rfl ⟨rfl, hd_105⟩ (mm_rm hRf hRl (Nat.le_of_ble_eq_true rfl)) (by decide +kernel : decode cX11_tops 26 = .ok (.invokevirtual 194, 3))))
    (ms_lf (ms_aload_n (k := 0) hx hb rfl (by decide +kernel : decode cX11_tops 29 = .ok (.aload_n 0, 1)))))
    (ms_b (ms_lf (ms_getf (C := RX11) (T := TX11) (N := 11) hx hb hf hts (fun w h => hAW w (inq_11 w h)) hown hK rfl (by decide) (hts _ (hAW _ qw_855)) rfl (by decide +kernel : decode cX11_tops 30 = .ok (.getfield 62, 3))))
    (ms_b (ms_lf (ms_ivV (C := RX10) (T := TX10) (N := 13) hx hb hml hown hts hgo hEX hf hK rfl (mm_GV hAW (mm_GI hAW gi_113) qw_1196 qw_1197 qw_1198 qw_130) rfl ⟨rfl, hd_113⟩ (mm_rm hRf hRl (Nat.le_of_ble_eq_true rfl)) (by decide +kernel : decode cX11_tops 33 = .ok (.invokevirtual 241, 3))))
    (ms_lf (ms_iret hx hb hr hlk (by decide +kernel : decode cX11_tops 36 = .ok (.ireturn, 1)))))))))
set_option maxRecDepth 100000 in
set_option maxHeartbeats 8000000 in
/-- TippedCrates.beside -/
theorem sd_143 (l : Launch) (f : Nat → Nat) (D : va_G) (cA : FieldType → ClassId) (d : Nat) : mm_Ok2 l f D cA d (yX11_beside, cX11_beside, 3, (some .int), mc_143) := by
  intro p e R s m args below meth c C hRf hRl pc
  obtain ⟨hx, hb, hml, hr, hlk, hnm, hown, hts, hEX, hgo, hf⟩ := C
  obtain ⟨hK, hA, hX, hZs, hZc, hZq, hTx, hSR0, hSR1, hAO, hN⟩ := id hEX
  have hAW : ∀ w ∈ mm_AW, w ∈ (Cond.code yX11_beside cX11_beside 3 (some .int) :: mm_AW) := fun w h => List.mem_cons_of_mem _ h
  have hown : s.vm.findClass "TippedCrates" = some m.cls := hown
  show mm_S p l e R s m args below meth c f D mm_cl cA 3 _ pc (mc_143 pc)
  unfold mc_143
  exact (ms_b (ms_b (ms_b (ms_b (ms_lf (ms_aload_n (k := 0) hx hb rfl (by decide +kernel : decode cX11_beside 0 = .ok (.aload_n 0, 1))))
    (ms_b (ms_lf (ms_iload_n (k := 1) hx hb rfl (by decide +kernel : decode cX11_beside 1 = .ok (.iload_n 1, 1))))
    (ms_lf (ms_ivV (C := RX11) (T := TX11) (N := 11) hx hb hml hown hts hgo hEX hf hK rfl (mm_GV hAW (mm_GI hAW gi_162) qw_932 qw_934 qw_27 qw_117) rfl ⟨rfl, hd_162⟩ (mm_rm hRf hRl (Nat.le_of_ble_eq_true rfl)) (by decide +kernel : decode cX11_beside 2 = .ok (.invokevirtual 131, 3))))))
    (ms_b (ms_b (ms_lf (ms_if_eq hx hb (by decide) (by decide +kernel : decode cX11_beside 5 = .ok (.ifCond .eq 16, 3))))
    (ms_lf (ms_aload_n (k := 0) hx hb rfl (by decide +kernel : decode cX11_beside 8 = .ok (.aload_n 0, 1)))))
    (ms_b (ms_lf (ms_iload_n (k := 2) hx hb rfl (by decide +kernel : decode cX11_beside 9 = .ok (.iload_n 2, 1))))
    (ms_lf (ms_ivV (C := RX11) (T := TX11) (N := 11) hx hb hml hown hts hgo hEX hf hK rfl (mm_GV hAW (mm_GI hAW gi_162) qw_932 qw_934 qw_27 qw_117) rfl ⟨rfl, hd_162⟩ (mm_rm hRf hRl (Nat.le_of_ble_eq_true rfl)) (by decide +kernel : decode cX11_beside 10 = .ok (.invokevirtual 131, 3)))))))
    (ms_b (ms_b (ms_b (ms_lf (ms_if_eq hx hb (by decide) (by decide +kernel : decode cX11_beside 13 = .ok (.ifCond .eq 8, 3))))
    (ms_lf (ms_iload_n (k := 1) hx hb rfl (by decide +kernel : decode cX11_beside 16 = .ok (.iload_n 1, 1)))))
    (ms_b (ms_lf (ms_iload_n (k := 2) hx hb rfl (by decide +kernel : decode cX11_beside 17 = .ok (.iload_n 2, 1))))
    (ms_lf (ms_ic_ne hx hb (by decide) (by decide +kernel : decode cX11_beside 18 = .ok (.if_icmp .ne 5, 3))))))
    (ms_b (ms_b (ms_lf (ms_iconst hx hb (by decide) (by decide +kernel : decode cX11_beside 21 = .ok (.iconst (-1), 1))))
    (ms_lf (ms_iret hx hb hr hlk (by decide +kernel : decode cX11_beside 22 = .ok (.ireturn, 1)))))
    (ms_b (ms_lf (ms_aload_n (k := 0) hx hb rfl (by decide +kernel : decode cX11_beside 23 = .ok (.aload_n 0, 1))))
    (ms_lf (ms_getf (C := RX11) (T := TX11) (N := 11) hx hb hf hts (fun w h => hAW w (inq_11 w h)) hown hK rfl (by decide) (hts _ (hAW _ qw_854)) rfl (by decide +kernel : decode cX11_beside 24 = .ok (.getfield 53, 3))))))))
    (ms_b (ms_b (ms_b (ms_b (ms_lf (ms_aload_n (k := 0) hx hb rfl (by decide +kernel : decode cX11_beside 27 = .ok (.aload_n 0, 1))))
    (ms_lf (ms_getf (C := RX11) (T := TX11) (N := 11) hx hb hf hts (fun w h => hAW w (inq_11 w h)) hown hK rfl (by decide) (hts _ (hAW _ qw_858)) rfl (by decide +kernel : decode cX11_beside 28 = .ok (.getfield 85, 3)))))
    (ms_b (ms_lf (ms_iload_n (k := 1) hx hb rfl (by decide +kernel : decode cX11_beside 31 = .ok (.iload_n 1, 1))))
    (ms_lf (ms_ivV (C := RX6) (T := TX6) (N := 5) hx hb hml hown hts hgo hEX hf hK rfl (mm_GV hAW (mm_GI hAW gi_70) qw_1046 qw_1047 qw_1048 qw_129) rfl ⟨rfl, hd_70⟩ (mm_rm hRf hRl (Nat.le_of_ble_eq_true rfl)) (by decide +kernel : decode cX11_beside 32 = .ok (.invokevirtual 190, 3))))))
    (ms_b (ms_b (ms_lf (ms_aload_n (k := 0) hx hb rfl (by decide +kernel : decode cX11_beside 35 = .ok (.aload_n 0, 1))))
    (ms_lf (ms_getf (C := RX11) (T := TX11) (N := 11) hx hb hf hts (fun w h => hAW w (inq_11 w h)) hown hK rfl (by decide) (hts _ (hAW _ qw_855)) rfl (by decide +kernel : decode cX11_beside 36 = .ok (.getfield 62, 3)))))
    (ms_b (ms_lf (ms_ivV (C := RX10) (T := TX10) (N := 13) hx hb hml hown hts hgo hEX hf hK rfl (mm_GV hAW (mm_GI hAW gi_105) qw_1056 qw_1057 qw_1058 qw_130) rfl ⟨rfl, hd_105⟩ (mm_rm hRf hRl (Nat.le_of_ble_eq_true rfl)) (by decide +kernel : decode cX11_beside 39 = .ok (.invokevirtual 194, 3))))
    (ms_lf (ms_aload_n (k := 0) hx hb rfl (by decide +kernel : decode cX11_beside 42 = .ok (.aload_n 0, 1)))))))
    (ms_b (ms_b (ms_b (ms_lf (ms_getf (C := RX11) (T := TX11) (N := 11) hx hb hf hts (fun w h => hAW w (inq_11 w h)) hown hK rfl (by decide) (hts _ (hAW _ qw_855)) rfl (by decide +kernel : decode cX11_beside 43 = .ok (.getfield 62, 3))))
    (ms_lf (ms_aload_n (k := 0) hx hb rfl (by decide +kernel : decode cX11_beside 46 = .ok (.aload_n 0, 1)))))
    (ms_b (ms_lf (ms_getf (C := RX11) (T := TX11) (N := 11) hx hb hf hts (fun w h => hAW w (inq_11 w h)) hown hK rfl (by decide) (hts _ (hAW _ qw_858)) rfl (by decide +kernel : decode cX11_beside 47 = .ok (.getfield 85, 3))))
    (ms_lf (ms_getf (C := RX7) (T := TX7) (N := 7) hx hb hf hts (fun w h => hAW w (inq_7 w h)) hown hK rfl (by decide) (hts _ (hAW _ qw_570)) rfl (by decide +kernel : decode cX11_beside 50 = .ok (.getfield 134, 3))))))
    (ms_b (ms_b (ms_lf (ms_iload_n (k := 2) hx hb rfl (by decide +kernel : decode cX11_beside 53 = .ok (.iload_n 2, 1))))
    (ms_lf (ms_iald hx hb hf hA hX (by decide +kernel : decode cX11_beside 54 = .ok (.iaload, 1)))))
    (ms_b (ms_lf (ms_ivV (C := RX10) (T := TX10) (N := 13) hx hb hml hown hts hgo hEX hf hK rfl (mm_GV hAW (mm_GI hAW gi_114) qw_1204 qw_1205 qw_1206 qw_130) rfl ⟨rfl, hd_114⟩ (mm_rm hRf hRl (Nat.le_of_ble_eq_true rfl)) (by decide +kernel : decode cX11_beside 55 = .ok (.invokevirtual 244, 3))))
    (ms_lf (ms_iret hx hb hr hlk (by decide +kernel : decode cX11_beside 58 = .ok (.ireturn, 1)))))))))
set_option maxRecDepth 100000 in
set_option maxHeartbeats 8000000 in
/-- TippedCrates.alike -/
theorem sd_144 (l : Launch) (f : Nat → Nat) (D : va_G) (cA : FieldType → ClassId) (d : Nat) : mm_Ok2 l f D cA d (yX11_alike, cX11_alike, 3, (some .int), mc_144) := by
  intro p e R s m args below meth c C hRf hRl pc
  obtain ⟨hx, hb, hml, hr, hlk, hnm, hown, hts, hEX, hgo, hf⟩ := C
  obtain ⟨hK, hA, hX, hZs, hZc, hZq, hTx, hSR0, hSR1, hAO, hN⟩ := id hEX
  have hAW : ∀ w ∈ mm_AW, w ∈ (Cond.code yX11_alike cX11_alike 3 (some .int) :: mm_AW) := fun w h => List.mem_cons_of_mem _ h
  have hown : s.vm.findClass "TippedCrates" = some m.cls := hown
  show mm_S p l e R s m args below meth c f D mm_cl cA 3 _ pc (mc_144 pc)
  unfold mc_144
  exact (ms_b (ms_b (ms_b (ms_b (ms_b (ms_lf (ms_aload_n (k := 0) hx hb rfl (by decide +kernel : decode cX11_alike 0 = .ok (.aload_n 0, 1))))
    (ms_lf (ms_iload_n (k := 1) hx hb rfl (by decide +kernel : decode cX11_alike 1 = .ok (.iload_n 1, 1)))))
    (ms_b (ms_lf (ms_ivV (C := RX11) (T := TX11) (N := 11) hx hb hml hown hts hgo hEX hf hK rfl (mm_GV hAW (mm_GI hAW gi_162) qw_932 qw_934 qw_27 qw_117) rfl ⟨rfl, hd_162⟩ (mm_rm hRf hRl (Nat.le_of_ble_eq_true rfl)) (by decide +kernel : decode cX11_alike 2 = .ok (.invokevirtual 131, 3))))
    (ms_lf (ms_if_eq hx hb (by decide) (by decide +kernel : decode cX11_alike 5 = .ok (.ifCond .eq 11, 3))))))
    (ms_b (ms_b (ms_lf (ms_aload_n (k := 0) hx hb rfl (by decide +kernel : decode cX11_alike 8 = .ok (.aload_n 0, 1))))
    (ms_lf (ms_iload_n (k := 2) hx hb rfl (by decide +kernel : decode cX11_alike 9 = .ok (.iload_n 2, 1)))))
    (ms_b (ms_lf (ms_ivV (C := RX11) (T := TX11) (N := 11) hx hb hml hown hts hgo hEX hf hK rfl (mm_GV hAW (mm_GI hAW gi_162) qw_932 qw_934 qw_27 qw_117) rfl ⟨rfl, hd_162⟩ (mm_rm hRf hRl (Nat.le_of_ble_eq_true rfl)) (by decide +kernel : decode cX11_alike 10 = .ok (.invokevirtual 131, 3))))
    (ms_lf (ms_if_ne hx hb (by decide) (by decide +kernel : decode cX11_alike 13 = .ok (.ifCond .ne 5, 3)))))))
    (ms_b (ms_b (ms_b (ms_lf (ms_iconst hx hb (by decide) (by decide +kernel : decode cX11_alike 16 = .ok (.iconst (-1), 1))))
    (ms_lf (ms_iret hx hb hr hlk (by decide +kernel : decode cX11_alike 17 = .ok (.ireturn, 1)))))
    (ms_b (ms_lf (ms_aload_n (k := 0) hx hb rfl (by decide +kernel : decode cX11_alike 18 = .ok (.aload_n 0, 1))))
    (ms_lf (ms_getf (C := RX11) (T := TX11) (N := 11) hx hb hf hts (fun w h => hAW w (inq_11 w h)) hown hK rfl (by decide) (hts _ (hAW _ qw_853)) rfl (by decide +kernel : decode cX11_alike 19 = .ok (.getfield 44, 3))))))
    (ms_b (ms_b (ms_lf (ms_aload_n (k := 0) hx hb rfl (by decide +kernel : decode cX11_alike 22 = .ok (.aload_n 0, 1))))
    (ms_lf (ms_getf (C := RX11) (T := TX11) (N := 11) hx hb hf hts (fun w h => hAW w (inq_11 w h)) hown hK rfl (by decide) (hts _ (hAW _ qw_858)) rfl (by decide +kernel : decode cX11_alike 23 = .ok (.getfield 85, 3)))))
    (ms_b (ms_lf (ms_getf (C := RX7) (T := TX7) (N := 7) hx hb hf hts (fun w h => hAW w (inq_7 w h)) hown hK rfl (by decide) (hts _ (hAW _ qw_574)) rfl (by decide +kernel : decode cX11_alike 26 = .ok (.getfield 144, 3))))
    (ms_lf (ms_iload_n (k := 1) hx hb rfl (by decide +kernel : decode cX11_alike 29 = .ok (.iload_n 1, 1))))))))
    (ms_b (ms_b (ms_b (ms_b (ms_lf (ms_ivV (C := RX9) (T := TX9) (N := 4) hx hb hml hown hts hgo hEX hf hK rfl (mm_GV hAW (mm_GI hAW gi_100) qw_1213 qw_1214 qw_1215 qw_127) rfl ⟨rfl, hd_100⟩ (mm_rm hRf hRl (Nat.le_of_ble_eq_true rfl)) (by decide +kernel : decode cX11_alike 30 = .ok (.invokevirtual 247, 3))))
    (ms_lf (ms_aload_n (k := 0) hx hb rfl (by decide +kernel : decode cX11_alike 33 = .ok (.aload_n 0, 1)))))
    (ms_b (ms_lf (ms_getf (C := RX11) (T := TX11) (N := 11) hx hb hf hts (fun w h => hAW w (inq_11 w h)) hown hK rfl (by decide) (hts _ (hAW _ qw_853)) rfl (by decide +kernel : decode cX11_alike 34 = .ok (.getfield 44, 3))))
    (ms_lf (ms_aload_n (k := 0) hx hb rfl (by decide +kernel : decode cX11_alike 37 = .ok (.aload_n 0, 1))))))
    (ms_b (ms_b (ms_lf (ms_getf (C := RX11) (T := TX11) (N := 11) hx hb hf hts (fun w h => hAW w (inq_11 w h)) hown hK rfl (by decide) (hts _ (hAW _ qw_853)) rfl (by decide +kernel : decode cX11_alike 38 = .ok (.getfield 44, 3))))
    (ms_lf (ms_aload_n (k := 0) hx hb rfl (by decide +kernel : decode cX11_alike 41 = .ok (.aload_n 0, 1)))))
    (ms_b (ms_lf (ms_getf (C := RX11) (T := TX11) (N := 11) hx hb hf hts (fun w h => hAW w (inq_11 w h)) hown hK rfl (by decide) (hts _ (hAW _ qw_858)) rfl (by decide +kernel : decode cX11_alike 42 = .ok (.getfield 85, 3))))
    (ms_lf (ms_getf (C := RX7) (T := TX7) (N := 7) hx hb hf hts (fun w h => hAW w (inq_7 w h)) hown hK rfl (by decide) (hts _ (hAW _ qw_574)) rfl (by decide +kernel : decode cX11_alike 45 = .ok (.getfield 144, 3)))))))
    (ms_b (ms_b (ms_b (ms_lf (ms_iload_n (k := 2) hx hb rfl (by decide +kernel : decode cX11_alike 48 = .ok (.iload_n 2, 1))))
    (ms_lf (ms_iconst hx hb (by decide) (by decide +kernel : decode cX11_alike 49 = .ok (.iconst 0, 1)))))
    (ms_b (ms_lf (ms_ivV (C := RX9) (T := TX9) (N := 4) hx hb hml hown hts hgo hEX hf hK rfl (mm_GV hAW (mm_GI hAW gi_98) qw_1221 qw_1218 qw_1219 qw_127) rfl ⟨rfl, hd_98⟩ (mm_rm hRf hRl (Nat.le_of_ble_eq_true rfl)) (by decide +kernel : decode cX11_alike 50 = .ok (.invokevirtual 251, 3))))
    (ms_lf (ms_ivV (C := RX9) (T := TX9) (N := 4) hx hb hml hown hts hgo hEX hf hK rfl (mm_GV hAW (mm_GI hAW gi_101) qw_1222 qw_1223 qw_1224 qw_127) rfl ⟨rfl, hd_101⟩ (mm_rm hRf hRl (Nat.le_of_ble_eq_true rfl)) (by decide +kernel : decode cX11_alike 53 = .ok (.invokevirtual 255, 3))))))
    (ms_b (ms_b (ms_lf (ms_if_eq hx hb (by decide) (by decide +kernel : decode cX11_alike 56 = .ok (.ifCond .eq 7, 3))))
    (ms_lf (ms_iconst hx hb (by decide) (by decide +kernel : decode cX11_alike 59 = .ok (.iconst 1, 1)))))
    (ms_b (ms_lf (ms_goto hx hb (by decide) (by decide +kernel : decode cX11_alike 60 = .ok (.goto 4, 3))))
    (ms_b (ms_lf (ms_iconst hx hb (by decide) (by decide +kernel : decode cX11_alike 63 = .ok (.iconst 0, 1))))
    (ms_lf (ms_iret hx hb hr hlk (by decide +kernel : decode cX11_alike 64 = .ok (.ireturn, 1))))))))))
set_option maxRecDepth 100000 in
set_option maxHeartbeats 8000000 in
/-- TippedCrates.looks -/
theorem sd_145 (l : Launch) (f : Nat → Nat) (D : va_G) (cA : FieldType → ClassId) (d : Nat) : mm_Ok2 l f D cA d (yX11_looks, cX11_looks, 2, (some .int), mc_145) := by
  intro p e R s m args below meth c C hRf hRl pc
  obtain ⟨hx, hb, hml, hr, hlk, hnm, hown, hts, hEX, hgo, hf⟩ := C
  obtain ⟨hK, hA, hX, hZs, hZc, hZq, hTx, hSR0, hSR1, hAO, hN⟩ := id hEX
  have hAW : ∀ w ∈ mm_AW, w ∈ (Cond.code yX11_looks cX11_looks 2 (some .int) :: mm_AW) := fun w h => List.mem_cons_of_mem _ h
  have hown : s.vm.findClass "TippedCrates" = some m.cls := hown
  show mm_S p l e R s m args below meth c f D mm_cl cA 2 _ pc (mc_145 pc)
  unfold mc_145
  exact (ms_b (ms_b (ms_b (ms_b (ms_lf (ms_aload_n (k := 0) hx hb rfl (by decide +kernel : decode cX11_looks 0 = .ok (.aload_n 0, 1))))
    (ms_lf (ms_iload_n (k := 1) hx hb rfl (by decide +kernel : decode cX11_looks 1 = .ok (.iload_n 1, 1)))))
    (ms_b (ms_lf (ms_ivV (C := RX11) (T := TX11) (N := 11) hx hb hml hown hts hgo hEX hf hK rfl (mm_GV hAW (mm_GI hAW gi_162) qw_932 qw_934 qw_27 qw_117) rfl ⟨rfl, hd_162⟩ (mm_rm hRf hRl (Nat.le_of_ble_eq_true rfl)) (by decide +kernel : decode cX11_looks 2 = .ok (.invokevirtual 131, 3))))
    (ms_lf (ms_if_ne hx hb (by decide) (by decide +kernel : decode cX11_looks 5 = .ok (.ifCond .ne 5, 3))))))
    (ms_b (ms_b (ms_lf (ms_iconst hx hb (by decide) (by decide +kernel : decode cX11_looks 8 = .ok (.iconst (-1), 1))))
    (ms_lf (ms_iret hx hb hr hlk (by decide +kernel : decode cX11_looks 9 = .ok (.ireturn, 1)))))
    (ms_b (ms_lf (ms_aload_n (k := 0) hx hb rfl (by decide +kernel : decode cX11_looks 10 = .ok (.aload_n 0, 1))))
    (ms_lf (ms_getf (C := RX11) (T := TX11) (N := 11) hx hb hf hts (fun w h => hAW w (inq_11 w h)) hown hK rfl (by decide) (hts _ (hAW _ qw_853)) rfl (by decide +kernel : decode cX11_looks 11 = .ok (.getfield 44, 3)))))))
    (ms_b (ms_b (ms_b (ms_lf (ms_aload_n (k := 0) hx hb rfl (by decide +kernel : decode cX11_looks 14 = .ok (.aload_n 0, 1))))
    (ms_lf (ms_getf (C := RX11) (T := TX11) (N := 11) hx hb hf hts (fun w h => hAW w (inq_11 w h)) hown hK rfl (by decide) (hts _ (hAW _ qw_858)) rfl (by decide +kernel : decode cX11_looks 15 = .ok (.getfield 85, 3)))))
    (ms_b (ms_lf (ms_getf (C := RX7) (T := TX7) (N := 7) hx hb hf hts (fun w h => hAW w (inq_7 w h)) hown hK rfl (by decide) (hts _ (hAW _ qw_574)) rfl (by decide +kernel : decode cX11_looks 18 = .ok (.getfield 144, 3))))
    (ms_lf (ms_iload_n (k := 1) hx hb rfl (by decide +kernel : decode cX11_looks 21 = .ok (.iload_n 1, 1))))))
    (ms_b (ms_b (ms_lf (ms_ivV (C := RX9) (T := TX9) (N := 4) hx hb hml hown hts hgo hEX hf hK rfl (mm_GV hAW (mm_GI hAW gi_100) qw_1213 qw_1214 qw_1215 qw_127) rfl ⟨rfl, hd_100⟩ (mm_rm hRf hRl (Nat.le_of_ble_eq_true rfl)) (by decide +kernel : decode cX11_looks 22 = .ok (.invokevirtual 247, 3))))
    (ms_lf (ms_aload_n (k := 0) hx hb rfl (by decide +kernel : decode cX11_looks 25 = .ok (.aload_n 0, 1)))))
    (ms_b (ms_lf (ms_getf (C := RX11) (T := TX11) (N := 11) hx hb hf hts (fun w h => hAW w (inq_11 w h)) hown hK rfl (by decide) (hts _ (hAW _ qw_853)) rfl (by decide +kernel : decode cX11_looks 26 = .ok (.getfield 44, 3))))
    (ms_b (ms_lf (ms_ivV (C := RX9) (T := TX9) (N := 4) hx hb hml hown hts hgo hEX hf hK rfl (mm_GV hAW (mm_GI hAW gi_102) qw_1234 qw_1235 qw_1236 qw_127) rfl ⟨rfl, hd_102⟩ (mm_rm hRf hRl (Nat.le_of_ble_eq_true rfl)) (by decide +kernel : decode cX11_looks 29 = .ok (.invokevirtual 258, 3))))
    (ms_lf (ms_iret hx hb hr hlk (by decide +kernel : decode cX11_looks 32 = .ok (.ireturn, 1)))))))))
set_option maxRecDepth 100000 in
set_option maxHeartbeats 8000000 in
/-- TippedCrates.mirror -/
theorem sd_146 (l : Launch) (f : Nat → Nat) (D : va_G) (cA : FieldType → ClassId) (d : Nat) : mm_Ok2 l f D cA d (yX11_mirror, cX11_mirror, 2, (some .int), mc_146) := by
  intro p e R s m args below meth c C hRf hRl pc
  obtain ⟨hx, hb, hml, hr, hlk, hnm, hown, hts, hEX, hgo, hf⟩ := C
  obtain ⟨hK, hA, hX, hZs, hZc, hZq, hTx, hSR0, hSR1, hAO, hN⟩ := id hEX
  have hAW : ∀ w ∈ mm_AW, w ∈ (Cond.code yX11_mirror cX11_mirror 2 (some .int) :: mm_AW) := fun w h => List.mem_cons_of_mem _ h
  have hown : s.vm.findClass "TippedCrates" = some m.cls := hown
  show mm_S p l e R s m args below meth c f D mm_cl cA 2 _ pc (mc_146 pc)
  unfold mc_146
  exact (ms_b (ms_b (ms_b (ms_b (ms_lf (ms_aload_n (k := 0) hx hb rfl (by decide +kernel : decode cX11_mirror 0 = .ok (.aload_n 0, 1))))
    (ms_b (ms_lf (ms_iload_n (k := 1) hx hb rfl (by decide +kernel : decode cX11_mirror 1 = .ok (.iload_n 1, 1))))
    (ms_lf (ms_ivV (C := RX11) (T := TX11) (N := 11) hx hb hml hown hts hgo hEX hf hK rfl (mm_GV hAW (mm_GI hAW gi_162) qw_932 qw_934 qw_27 qw_117) rfl ⟨rfl, hd_162⟩ (mm_rm hRf hRl (Nat.le_of_ble_eq_true rfl)) (by decide +kernel : decode cX11_mirror 2 = .ok (.invokevirtual 131, 3))))))
    (ms_b (ms_b (ms_lf (ms_if_ne hx hb (by decide) (by decide +kernel : decode cX11_mirror 5 = .ok (.ifCond .ne 5, 3))))
    (ms_lf (ms_iconst hx hb (by decide) (by decide +kernel : decode cX11_mirror 8 = .ok (.iconst (-1), 1)))))
    (ms_b (ms_lf (ms_iret hx hb hr hlk (by decide +kernel : decode cX11_mirror 9 = .ok (.ireturn, 1))))
    (ms_lf (ms_aload_n (k := 0) hx hb rfl (by decide +kernel : decode cX11_mirror 10 = .ok (.aload_n 0, 1)))))))
    (ms_b (ms_b (ms_lf (ms_getf (C := RX11) (T := TX11) (N := 11) hx hb hf hts (fun w h => hAW w (inq_11 w h)) hown hK rfl (by decide) (hts _ (hAW _ qw_853)) rfl (by decide +kernel : decode cX11_mirror 11 = .ok (.getfield 44, 3))))
    (ms_b (ms_lf (ms_aload_n (k := 0) hx hb rfl (by decide +kernel : decode cX11_mirror 14 = .ok (.aload_n 0, 1))))
    (ms_lf (ms_getf (C := RX11) (T := TX11) (N := 11) hx hb hf hts (fun w h => hAW w (inq_11 w h)) hown hK rfl (by decide) (hts _ (hAW _ qw_858)) rfl (by decide +kernel : decode cX11_mirror 15 = .ok (.getfield 85, 3))))))
    (ms_b (ms_b (ms_lf (ms_getf (C := RX7) (T := TX7) (N := 7) hx hb hf hts (fun w h => hAW w (inq_7 w h)) hown hK rfl (by decide) (hts _ (hAW _ qw_574)) rfl (by decide +kernel : decode cX11_mirror 18 = .ok (.getfield 144, 3))))
    (ms_lf (ms_iload_n (k := 1) hx hb rfl (by decide +kernel : decode cX11_mirror 21 = .ok (.iload_n 1, 1)))))
    (ms_b (ms_lf (ms_ivV (C := RX9) (T := TX9) (N := 4) hx hb hml hown hts hgo hEX hf hK rfl (mm_GV hAW (mm_GI hAW gi_100) qw_1213 qw_1214 qw_1215 qw_127) rfl ⟨rfl, hd_100⟩ (mm_rm hRf hRl (Nat.le_of_ble_eq_true rfl)) (by decide +kernel : decode cX11_mirror 22 = .ok (.invokevirtual 247, 3))))
    (ms_lf (ms_aload_n (k := 0) hx hb rfl (by decide +kernel : decode cX11_mirror 25 = .ok (.aload_n 0, 1))))))))
    (ms_b (ms_b (ms_b (ms_lf (ms_getf (C := RX11) (T := TX11) (N := 11) hx hb hf hts (fun w h => hAW w (inq_11 w h)) hown hK rfl (by decide) (hts _ (hAW _ qw_853)) rfl (by decide +kernel : decode cX11_mirror 26 = .ok (.getfield 44, 3))))
    (ms_b (ms_lf (ms_aload_n (k := 0) hx hb rfl (by decide +kernel : decode cX11_mirror 29 = .ok (.aload_n 0, 1))))
    (ms_lf (ms_getf (C := RX11) (T := TX11) (N := 11) hx hb hf hts (fun w h => hAW w (inq_11 w h)) hown hK rfl (by decide) (hts _ (hAW _ qw_853)) rfl (by decide +kernel : decode cX11_mirror 30 = .ok (.getfield 44, 3))))))
    (ms_b (ms_b (ms_lf (ms_aload_n (k := 0) hx hb rfl (by decide +kernel : decode cX11_mirror 33 = .ok (.aload_n 0, 1))))
    (ms_lf (ms_getf (C := RX11) (T := TX11) (N := 11) hx hb hf hts (fun w h => hAW w (inq_11 w h)) hown hK rfl (by decide) (hts _ (hAW _ qw_858)) rfl (by decide +kernel : decode cX11_mirror 34 = .ok (.getfield 85, 3)))))
    (ms_b (ms_lf (ms_getf (C := RX7) (T := TX7) (N := 7) hx hb hf hts (fun w h => hAW w (inq_7 w h)) hown hK rfl (by decide) (hts _ (hAW _ qw_574)) rfl (by decide +kernel : decode cX11_mirror 37 = .ok (.getfield 144, 3))))
    (ms_lf (ms_iload_n (k := 1) hx hb rfl (by decide +kernel : decode cX11_mirror 40 = .ok (.iload_n 1, 1)))))))
    (ms_b (ms_b (ms_lf (ms_ivV (C := RX9) (T := TX9) (N := 4) hx hb hml hown hts hgo hEX hf hK rfl (mm_GV hAW (mm_GI hAW gi_99) qw_1242 qw_1243 qw_1244 qw_127) rfl ⟨rfl, hd_99⟩ (mm_rm hRf hRl (Nat.le_of_ble_eq_true rfl)) (by decide +kernel : decode cX11_mirror 41 = .ok (.invokevirtual 261, 3))))
    (ms_b (ms_lf (ms_ivV (C := RX9) (T := TX9) (N := 4) hx hb hml hown hts hgo hEX hf hK rfl (mm_GV hAW (mm_GI hAW gi_101) qw_1222 qw_1223 qw_1224 qw_127) rfl ⟨rfl, hd_101⟩ (mm_rm hRf hRl (Nat.le_of_ble_eq_true rfl)) (by decide +kernel : decode cX11_mirror 44 = .ok (.invokevirtual 255, 3))))
    (ms_lf (ms_if_eq hx hb (by decide) (by decide +kernel : decode cX11_mirror 47 = .ok (.ifCond .eq 7, 3))))))
    (ms_b (ms_b (ms_lf (ms_iconst hx hb (by decide) (by decide +kernel : decode cX11_mirror 50 = .ok (.iconst 1, 1))))
    (ms_lf (ms_goto hx hb (by decide) (by decide +kernel : decode cX11_mirror 51 = .ok (.goto 4, 3)))))
    (ms_b (ms_lf (ms_iconst hx hb (by decide) (by decide +kernel : decode cX11_mirror 54 = .ok (.iconst 0, 1))))
    (ms_lf (ms_iret hx hb hr hlk (by decide +kernel : decode cX11_mirror 55 = .ok (.ireturn, 1)))))))))
set_option maxRecDepth 100000 in
set_option maxHeartbeats 8000000 in
/-- TippedCrates.then -/
theorem sd_147 (l : Launch) (f : Nat → Nat) (D : va_G) (cA : FieldType → ClassId) (d : Nat) : mm_Ok2 l f D cA d (yX11_then, cX11_then, 4, (some .int), mc_147) := by
  intro p e R s m args below meth c C hRf hRl pc
  obtain ⟨hx, hb, hml, hr, hlk, hnm, hown, hts, hEX, hgo, hf⟩ := C
  obtain ⟨hK, hA, hX, hZs, hZc, hZq, hTx, hSR0, hSR1, hAO, hN⟩ := id hEX
  have hAW : ∀ w ∈ mm_AW, w ∈ (Cond.code yX11_then cX11_then 4 (some .int) :: mm_AW) := fun w h => List.mem_cons_of_mem _ h
  have hown : s.vm.findClass "TippedCrates" = some m.cls := hown
  show mm_S p l e R s m args below meth c f D mm_cl cA 4 _ pc (mc_147 pc)
  unfold mc_147
  exact (ms_b (ms_b (ms_b (ms_b (ms_b (ms_lf (ms_aload_n (k := 0) hx hb rfl (by decide +kernel : decode cX11_then 0 = .ok (.aload_n 0, 1))))
    (ms_lf (ms_iload_n (k := 1) hx hb rfl (by decide +kernel : decode cX11_then 1 = .ok (.iload_n 1, 1)))))
    (ms_b (ms_lf (ms_ivV (C := RX11) (T := TX11) (N := 11) hx hb hml hown hts hgo hEX hf hK rfl (mm_GV hAW (mm_GI hAW gi_162) qw_932 qw_934 qw_27 qw_117) rfl ⟨rfl, hd_162⟩ (mm_rm hRf hRl (Nat.le_of_ble_eq_true rfl)) (by decide +kernel : decode cX11_then 2 = .ok (.invokevirtual 131, 3))))
    (ms_lf (ms_if_eq hx hb (by decide) (by decide +kernel : decode cX11_then 5 = .ok (.ifCond .eq 22, 3))))))
    (ms_b (ms_b (ms_lf (ms_iload_n (k := 2) hx hb rfl (by decide +kernel : decode cX11_then 8 = .ok (.iload_n 2, 1))))
    (ms_lf (ms_iconst hx hb (by decide) (by decide +kernel : decode cX11_then 9 = .ok (.iconst 0, 1)))))
    (ms_b (ms_lf (ms_bipush hx hb (by decide) (by decide +kernel : decode cX11_then 10 = .ok (.bipush 60, 2))))
    (ms_lf (ms_ivS hx hb hml hown hts hgo hEX (mm_GS hAW (mm_GI hAW gi_166) qw_919 qw_748 qw_117) rfl hd_166 (mm_rm hRf hRl (Nat.le_of_ble_eq_true rfl)) (by decide +kernel : decode cX11_then 12 = .ok (.invokestatic 140, 3)))))))
    (ms_b (ms_b (ms_b (ms_lf (ms_if_eq hx hb (by decide) (by decide +kernel : decode cX11_then 15 = .ok (.ifCond .eq 12, 3))))
    (ms_lf (ms_iload_n (k := 3) hx hb rfl (by decide +kernel : decode cX11_then 18 = .ok (.iload_n 3, 1)))))
    (ms_b (ms_lf (ms_iconst hx hb (by decide) (by decide +kernel : decode cX11_then 19 = .ok (.iconst 0, 1))))
    (ms_lf (ms_iconst hx hb (by decide) (by decide +kernel : decode cX11_then 20 = .ok (.iconst 1, 1))))))
    (ms_b (ms_b (ms_lf (ms_ivS hx hb hml hown hts hgo hEX (mm_GS hAW (mm_GI hAW gi_166) qw_919 qw_748 qw_117) rfl hd_166 (mm_rm hRf hRl (Nat.le_of_ble_eq_true rfl)) (by decide +kernel : decode cX11_then 21 = .ok (.invokestatic 140, 3))))
    (ms_lf (ms_if_ne hx hb (by decide) (by decide +kernel : decode cX11_then 24 = .ok (.ifCond .ne 5, 3)))))
    (ms_b (ms_lf (ms_iconst hx hb (by decide) (by decide +kernel : decode cX11_then 27 = .ok (.iconst (-1), 1))))
    (ms_b (ms_lf (ms_iret hx hb hr hlk (by decide +kernel : decode cX11_then 28 = .ok (.ireturn, 1))))
    (ms_lf (ms_aload_n (k := 0) hx hb rfl (by decide +kernel : decode cX11_then 29 = .ok (.aload_n 0, 1)))))))))
    (ms_b (ms_b (ms_b (ms_b (ms_lf (ms_iload_n (k := 2) hx hb rfl (by decide +kernel : decode cX11_then 30 = .ok (.iload_n 2, 1))))
    (ms_lf (ms_aload_n (k := 0) hx hb rfl (by decide +kernel : decode cX11_then 31 = .ok (.aload_n 0, 1)))))
    (ms_b (ms_lf (ms_getf (C := RX11) (T := TX11) (N := 11) hx hb hf hts (fun w h => hAW w (inq_11 w h)) hown hK rfl (by decide) (hts _ (hAW _ qw_850)) rfl (by decide +kernel : decode cX11_then 32 = .ok (.getfield 19, 3))))
    (ms_lf (ms_getf (C := RX3) (T := TX3) (N := 12) hx hb hf hts (fun w h => hAW w (inq_3 w h)) hown hK rfl (by decide) (hts _ (hAW _ qw_271)) rfl (by decide +kernel : decode cX11_then 35 = .ok (.getfield 177, 3))))))
    (ms_b (ms_b (ms_lf (ms_ivV (C := RX11) (T := TX11) (N := 11) hx hb hml hown hts hgo hEX hf hK rfl (mm_GV hAW (mm_GI hAW gi_160) qw_1250 qw_1252 qw_37 qw_117) rfl ⟨rfl, hd_160⟩ (mm_rm hRf hRl (Nat.le_of_ble_eq_true rfl)) (by decide +kernel : decode cX11_then 38 = .ok (.invokevirtual 265, 3))))
    (ms_lf (ms_iload_n (k := 3) hx hb rfl (by decide +kernel : decode cX11_then 41 = .ok (.iload_n 3, 1)))))
    (ms_b (ms_lf (ms_if_ne hx hb (by decide) (by decide +kernel : decode cX11_then 42 = .ok (.ifCond .ne 15, 3))))
    (ms_b (ms_lf (ms_aload_n (k := 0) hx hb rfl (by decide +kernel : decode cX11_then 45 = .ok (.aload_n 0, 1))))
    (ms_lf (ms_getf (C := RX11) (T := TX11) (N := 11) hx hb hf hts (fun w h => hAW w (inq_11 w h)) hown hK rfl (by decide) (hts _ (hAW _ qw_859)) rfl (by decide +kernel : decode cX11_then 46 = .ok (.getfield 89, 3))))))))
    (ms_b (ms_b (ms_b (ms_lf (ms_getf (C := RX7) (T := TX7) (N := 7) hx hb hf hts (fun w h => hAW w (inq_7 w h)) hown hK rfl (by decide) (hts _ (hAW _ qw_570)) rfl (by decide +kernel : decode cX11_then 49 = .ok (.getfield 134, 3))))
    (ms_lf (ms_iload_n (k := 1) hx hb rfl (by decide +kernel : decode cX11_then 52 = .ok (.iload_n 1, 1)))))
    (ms_b (ms_lf (ms_iald hx hb hf hA hX (by decide +kernel : decode cX11_then 53 = .ok (.iaload, 1))))
    (ms_lf (ms_goto hx hb (by decide) (by decide +kernel : decode cX11_then 54 = .ok (.goto 11, 3))))))
    (ms_b (ms_b (ms_lf (ms_aload_n (k := 0) hx hb rfl (by decide +kernel : decode cX11_then 57 = .ok (.aload_n 0, 1))))
    (ms_lf (ms_getf (C := RX11) (T := TX11) (N := 11) hx hb hf hts (fun w h => hAW w (inq_11 w h)) hown hK rfl (by decide) (hts _ (hAW _ qw_859)) rfl (by decide +kernel : decode cX11_then 58 = .ok (.getfield 89, 3)))))
    (ms_b (ms_lf (ms_iload_n (k := 1) hx hb rfl (by decide +kernel : decode cX11_then 61 = .ok (.iload_n 1, 1))))
    (ms_b (ms_lf (ms_ivV (C := RX7) (T := TX7) (N := 7) hx hb hml hown hts hgo hEX hf hK rfl (mm_GV hAW (mm_GI hAW gi_78) qw_1255 qw_1256 qw_1257 qw_133) rfl ⟨rfl, hd_78⟩ (mm_rm hRf hRl (Nat.le_of_ble_eq_true rfl)) (by decide +kernel : decode cX11_then 62 = .ok (.invokevirtual 269, 3))))
    (ms_lf (ms_iret hx hb hr hlk (by decide +kernel : decode cX11_then 65 = .ok (.ireturn, 1))))))))))
set_option maxRecDepth 100000 in
set_option maxHeartbeats 8000000 in
/-- TippedCrates.flagIn -/
theorem sd_148 (l : Launch) (f : Nat → Nat) (D : va_G) (cA : FieldType → ClassId) (d : Nat) : mm_Ok2 l f D cA d (yX11_flagIn, cX11_flagIn, 3, (some .int), mc_148) := by
  intro p e R s m args below meth c C hRf hRl pc
  obtain ⟨hx, hb, hml, hr, hlk, hnm, hown, hts, hEX, hgo, hf⟩ := C
  obtain ⟨hK, hA, hX, hZs, hZc, hZq, hTx, hSR0, hSR1, hAO, hN⟩ := id hEX
  have hAW : ∀ w ∈ mm_AW, w ∈ (Cond.code yX11_flagIn cX11_flagIn 3 (some .int) :: mm_AW) := fun w h => List.mem_cons_of_mem _ h
  have hown : s.vm.findClass "TippedCrates" = some m.cls := hown
  show mm_S p l e R s m args below meth c f D mm_cl cA 3 _ pc (mc_148 pc)
  unfold mc_148
  exact (ms_b (ms_b (ms_b (ms_b (ms_lf (ms_aload_n (k := 0) hx hb rfl (by decide +kernel : decode cX11_flagIn 0 = .ok (.aload_n 0, 1))))
    (ms_lf (ms_iload_n (k := 1) hx hb rfl (by decide +kernel : decode cX11_flagIn 1 = .ok (.iload_n 1, 1)))))
    (ms_b (ms_lf (ms_ivV (C := RX11) (T := TX11) (N := 11) hx hb hml hown hts hgo hEX hf hK rfl (mm_GV hAW (mm_GI hAW gi_163) qw_915 qw_917 qw_26 qw_117) rfl ⟨rfl, hd_163⟩ (mm_rm hRf hRl (Nat.le_of_ble_eq_true rfl)) (by decide +kernel : decode cX11_flagIn 2 = .ok (.invokevirtual 116, 3))))
    (ms_b (ms_lf (ms_if_eq hx hb (by decide) (by decide +kernel : decode cX11_flagIn 5 = .ok (.ifCond .eq 13, 3))))
    (ms_lf (ms_iload_n (k := 2) hx hb rfl (by decide +kernel : decode cX11_flagIn 8 = .ok (.iload_n 2, 1)))))))
    (ms_b (ms_b (ms_lf (ms_iconst hx hb (by decide) (by decide +kernel : decode cX11_flagIn 9 = .ok (.iconst 0, 1))))
    (ms_b (ms_lf (ms_bipush hx hb (by decide) (by decide +kernel : decode cX11_flagIn 10 = .ok (.bipush 60, 2))))
    (ms_lf (ms_ivS hx hb hml hown hts hgo hEX (mm_GS hAW (mm_GI hAW gi_166) qw_919 qw_748 qw_117) rfl hd_166 (mm_rm hRf hRl (Nat.le_of_ble_eq_true rfl)) (by decide +kernel : decode cX11_flagIn 12 = .ok (.invokestatic 140, 3))))))
    (ms_b (ms_lf (ms_if_ne hx hb (by decide) (by decide +kernel : decode cX11_flagIn 15 = .ok (.ifCond .ne 5, 3))))
    (ms_b (ms_lf (ms_iconst hx hb (by decide) (by decide +kernel : decode cX11_flagIn 18 = .ok (.iconst (-1), 1))))
    (ms_lf (ms_iret hx hb hr hlk (by decide +kernel : decode cX11_flagIn 19 = .ok (.ireturn, 1))))))))
    (ms_b (ms_b (ms_b (ms_lf (ms_aload_n (k := 0) hx hb rfl (by decide +kernel : decode cX11_flagIn 20 = .ok (.aload_n 0, 1))))
    (ms_b (ms_lf (ms_iload_n (k := 2) hx hb rfl (by decide +kernel : decode cX11_flagIn 21 = .ok (.iload_n 2, 1))))
    (ms_lf (ms_aload_n (k := 0) hx hb rfl (by decide +kernel : decode cX11_flagIn 22 = .ok (.aload_n 0, 1))))))
    (ms_b (ms_lf (ms_getf (C := RX11) (T := TX11) (N := 11) hx hb hf hts (fun w h => hAW w (inq_11 w h)) hown hK rfl (by decide) (hts _ (hAW _ qw_850)) rfl (by decide +kernel : decode cX11_flagIn 23 = .ok (.getfield 19, 3))))
    (ms_b (ms_lf (ms_getf (C := RX3) (T := TX3) (N := 12) hx hb hf hts (fun w h => hAW w (inq_3 w h)) hown hK rfl (by decide) (hts _ (hAW _ qw_271)) rfl (by decide +kernel : decode cX11_flagIn 26 = .ok (.getfield 177, 3))))
    (ms_lf (ms_ivV (C := RX11) (T := TX11) (N := 11) hx hb hml hown hts hgo hEX hf hK rfl (mm_GV hAW (mm_GI hAW gi_160) qw_1250 qw_1252 qw_37 qw_117) rfl ⟨rfl, hd_160⟩ (mm_rm hRf hRl (Nat.le_of_ble_eq_true rfl)) (by decide +kernel : decode cX11_flagIn 29 = .ok (.invokevirtual 265, 3)))))))
    (ms_b (ms_b (ms_lf (ms_aload_n (k := 0) hx hb rfl (by decide +kernel : decode cX11_flagIn 32 = .ok (.aload_n 0, 1))))
    (ms_b (ms_lf (ms_getf (C := RX11) (T := TX11) (N := 11) hx hb hf hts (fun w h => hAW w (inq_11 w h)) hown hK rfl (by decide) (hts _ (hAW _ qw_859)) rfl (by decide +kernel : decode cX11_flagIn 33 = .ok (.getfield 89, 3))))
    (ms_lf (ms_getf (C := RX7) (T := TX7) (N := 7) hx hb hf hts (fun w h => hAW w (inq_7 w h)) hown hK rfl (by decide) (hts _ (hAW _ qw_566)) rfl (by decide +kernel : decode cX11_flagIn 36 = .ok (.getfield 120, 3))))))
    (ms_b (ms_lf (ms_iload_n (k := 1) hx hb rfl (by decide +kernel : decode cX11_flagIn 39 = .ok (.iload_n 1, 1))))
    (ms_b (ms_lf (ms_iald hx hb hf hA hX (by decide +kernel : decode cX11_flagIn 40 = .ok (.iaload, 1))))
    (ms_lf (ms_iret hx hb hr hlk (by decide +kernel : decode cX11_flagIn 41 = .ok (.ireturn, 1)))))))))
set_option maxRecDepth 100000 in
set_option maxHeartbeats 8000000 in
/-- TippedCrates.paidIn -/
theorem sd_149 (l : Launch) (f : Nat → Nat) (D : va_G) (cA : FieldType → ClassId) (d : Nat) : mm_Ok2 l f D cA d (yX11_paidIn, cX11_paidIn, 2, (some .int), mc_149) := by
  intro p e R s m args below meth c C hRf hRl pc
  obtain ⟨hx, hb, hml, hr, hlk, hnm, hown, hts, hEX, hgo, hf⟩ := C
  obtain ⟨hK, hA, hX, hZs, hZc, hZq, hTx, hSR0, hSR1, hAO, hN⟩ := id hEX
  have hAW : ∀ w ∈ mm_AW, w ∈ (Cond.code yX11_paidIn cX11_paidIn 2 (some .int) :: mm_AW) := fun w h => List.mem_cons_of_mem _ h
  have hown : s.vm.findClass "TippedCrates" = some m.cls := hown
  show mm_S p l e R s m args below meth c f D mm_cl cA 2 _ pc (mc_149 pc)
  unfold mc_149
  exact (ms_b (ms_b (ms_b (ms_b (ms_lf (ms_iload_n (k := 1) hx hb rfl (by decide +kernel : decode cX11_paidIn 0 = .ok (.iload_n 1, 1))))
    (ms_lf (ms_iconst hx hb (by decide) (by decide +kernel : decode cX11_paidIn 1 = .ok (.iconst 0, 1)))))
    (ms_b (ms_lf (ms_bipush hx hb (by decide) (by decide +kernel : decode cX11_paidIn 2 = .ok (.bipush 60, 2))))
    (ms_lf (ms_ivS hx hb hml hown hts hgo hEX (mm_GS hAW (mm_GI hAW gi_166) qw_919 qw_748 qw_117) rfl hd_166 (mm_rm hRf hRl (Nat.le_of_ble_eq_true rfl)) (by decide +kernel : decode cX11_paidIn 4 = .ok (.invokestatic 140, 3))))))
    (ms_b (ms_b (ms_lf (ms_if_ne hx hb (by decide) (by decide +kernel : decode cX11_paidIn 7 = .ok (.ifCond .ne 5, 3))))
    (ms_lf (ms_iconst hx hb (by decide) (by decide +kernel : decode cX11_paidIn 10 = .ok (.iconst (-1), 1)))))
    (ms_b (ms_lf (ms_iret hx hb hr hlk (by decide +kernel : decode cX11_paidIn 11 = .ok (.ireturn, 1))))
    (ms_lf (ms_aload_n (k := 0) hx hb rfl (by decide +kernel : decode cX11_paidIn 12 = .ok (.aload_n 0, 1)))))))
    (ms_b (ms_b (ms_b (ms_lf (ms_iload_n (k := 1) hx hb rfl (by decide +kernel : decode cX11_paidIn 13 = .ok (.iload_n 1, 1))))
    (ms_lf (ms_aload_n (k := 0) hx hb rfl (by decide +kernel : decode cX11_paidIn 14 = .ok (.aload_n 0, 1)))))
    (ms_b (ms_lf (ms_getf (C := RX11) (T := TX11) (N := 11) hx hb hf hts (fun w h => hAW w (inq_11 w h)) hown hK rfl (by decide) (hts _ (hAW _ qw_850)) rfl (by decide +kernel : decode cX11_paidIn 15 = .ok (.getfield 19, 3))))
    (ms_lf (ms_getf (C := RX3) (T := TX3) (N := 12) hx hb hf hts (fun w h => hAW w (inq_3 w h)) hown hK rfl (by decide) (hts _ (hAW _ qw_271)) rfl (by decide +kernel : decode cX11_paidIn 18 = .ok (.getfield 177, 3))))))
    (ms_b (ms_b (ms_lf (ms_ivV (C := RX11) (T := TX11) (N := 11) hx hb hml hown hts hgo hEX hf hK rfl (mm_GV hAW (mm_GI hAW gi_160) qw_1250 qw_1252 qw_37 qw_117) rfl ⟨rfl, hd_160⟩ (mm_rm hRf hRl (Nat.le_of_ble_eq_true rfl)) (by decide +kernel : decode cX11_paidIn 21 = .ok (.invokevirtual 265, 3))))
    (ms_lf (ms_aload_n (k := 0) hx hb rfl (by decide +kernel : decode cX11_paidIn 24 = .ok (.aload_n 0, 1)))))
    (ms_b (ms_lf (ms_getf (C := RX11) (T := TX11) (N := 11) hx hb hf hts (fun w h => hAW w (inq_11 w h)) hown hK rfl (by decide) (hts _ (hAW _ qw_859)) rfl (by decide +kernel : decode cX11_paidIn 25 = .ok (.getfield 89, 3))))
    (ms_b (ms_lf (ms_getf (C := RX7) (T := TX7) (N := 7) hx hb hf hts (fun w h => hAW w (inq_7 w h)) hown hK rfl (by decide) (hts _ (hAW _ qw_585)) rfl (by decide +kernel : decode cX11_paidIn 28 = .ok (.getfield 272, 3))))
    (ms_lf (ms_iret hx hb hr hlk (by decide +kernel : decode cX11_paidIn 31 = .ok (.ireturn, 1)))))))))
set_option maxRecDepth 100000 in
set_option maxHeartbeats 8000000 in
/-- TippedCrates.year -/
theorem sd_150 (l : Launch) (f : Nat → Nat) (D : va_G) (cA : FieldType → ClassId) (d : Nat) : mm_Ok2 l f D cA d (yX11_year, cX11_year, 7, (some .int), mc_150) := by
  intro p e R s m args below meth c C hRf hRl pc
  obtain ⟨hx, hb, hml, hr, hlk, hnm, hown, hts, hEX, hgo, hf⟩ := C
  obtain ⟨hK, hA, hX, hZs, hZc, hZq, hTx, hSR0, hSR1, hAO, hN⟩ := id hEX
  have hAW : ∀ w ∈ mm_AW, w ∈ (Cond.code yX11_year cX11_year 7 (some .int) :: mm_AW) := fun w h => List.mem_cons_of_mem _ h
  have hown : s.vm.findClass "TippedCrates" = some m.cls := hown
  show mm_S p l e R s m args below meth c f D mm_cl cA 7 _ pc (mc_150 pc)
  unfold mc_150
  exact (ms_b (ms_b (ms_b (ms_b (ms_b (ms_lf (ms_aload_n (k := 0) hx hb rfl (by decide +kernel : decode cX11_year 0 = .ok (.aload_n 0, 1))))
    (ms_lf (ms_iload_n (k := 1) hx hb rfl (by decide +kernel : decode cX11_year 1 = .ok (.iload_n 1, 1)))))
    (ms_b (ms_lf (ms_ivV (C := RX11) (T := TX11) (N := 11) hx hb hml hown hts hgo hEX hf hK rfl (mm_GV hAW (mm_GI hAW gi_162) qw_932 qw_934 qw_27 qw_117) rfl ⟨rfl, hd_162⟩ (mm_rm hRf hRl (Nat.le_of_ble_eq_true rfl)) (by decide +kernel : decode cX11_year 2 = .ok (.invokevirtual 131, 3))))
    (ms_b (ms_lf (ms_if_eq hx hb (by decide) (by decide +kernel : decode cX11_year 5 = .ok (.ifCond .eq 10, 3))))
    (ms_lf (ms_iload_n (k := 2) hx hb rfl (by decide +kernel : decode cX11_year 8 = .ok (.iload_n 2, 1)))))))
    (ms_b (ms_b (ms_lf (ms_ivS hx hb hml hown hts hgo hEX (mm_GS hAW (mm_GI hAW gi_164) qw_1008 qw_1009 qw_117) rfl hd_164 (mm_rm hRf hRl (Nat.le_of_ble_eq_true rfl)) (by decide +kernel : decode cX11_year 9 = .ok (.invokestatic 174, 3))))
    (ms_b (ms_lf (ms_if_ne hx hb (by decide) (by decide +kernel : decode cX11_year 12 = .ok (.ifCond .ne 5, 3))))
    (ms_lf (ms_iconst hx hb (by decide) (by decide +kernel : decode cX11_year 15 = .ok (.iconst (-1), 1))))))
    (ms_b (ms_lf (ms_iret hx hb hr hlk (by decide +kernel : decode cX11_year 16 = .ok (.ireturn, 1))))
    (ms_b (ms_lf (ms_iload_n (k := 3) hx hb rfl (by decide +kernel : decode cX11_year 17 = .ok (.iload_n 3, 1))))
    (ms_lf (ms_iconst hx hb (by decide) (by decide +kernel : decode cX11_year 18 = .ok (.iconst 0, 1))))))))
    (ms_b (ms_b (ms_b (ms_lf (ms_bipush hx hb (by decide) (by decide +kernel : decode cX11_year 19 = .ok (.bipush 60, 2))))
    (ms_b (ms_lf (ms_ivS hx hb hml hown hts hgo hEX (mm_GS hAW (mm_GI hAW gi_166) qw_919 qw_748 qw_117) rfl hd_166 (mm_rm hRf hRl (Nat.le_of_ble_eq_true rfl)) (by decide +kernel : decode cX11_year 21 = .ok (.invokestatic 140, 3))))
    (ms_lf (ms_if_eq hx hb (by decide) (by decide +kernel : decode cX11_year 24 = .ok (.ifCond .eq 14, 3))))))
    (ms_b (ms_lf (ms_iload hx hb (by decide +kernel : decode cX11_year 27 = .ok (.iload 4, 2))))
    (ms_b (ms_lf (ms_iconst hx hb (by decide) (by decide +kernel : decode cX11_year 29 = .ok (.iconst 1, 1))))
    (ms_lf (ms_bipush hx hb (by decide) (by decide +kernel : decode cX11_year 30 = .ok (.bipush 20, 2)))))))
    (ms_b (ms_b (ms_lf (ms_ivS hx hb hml hown hts hgo hEX (mm_GS hAW (mm_GI hAW gi_166) qw_919 qw_748 qw_117) rfl hd_166 (mm_rm hRf hRl (Nat.le_of_ble_eq_true rfl)) (by decide +kernel : decode cX11_year 32 = .ok (.invokestatic 140, 3))))
    (ms_b (ms_lf (ms_if_ne hx hb (by decide) (by decide +kernel : decode cX11_year 35 = .ok (.ifCond .ne 5, 3))))
    (ms_lf (ms_iconst hx hb (by decide) (by decide +kernel : decode cX11_year 38 = .ok (.iconst (-1), 1))))))
    (ms_b (ms_lf (ms_iret hx hb hr hlk (by decide +kernel : decode cX11_year 39 = .ok (.ireturn, 1))))
    (ms_b (ms_lf (ms_iconst hx hb (by decide) (by decide +kernel : decode cX11_year 40 = .ok (.iconst 0, 1))))
    (ms_lf (ms_istore hx hb (by decide : 5 < 7) (by decide +kernel : decode cX11_year 41 = .ok (.istore 5, 2)))))))))
    (ms_b (ms_b (ms_b (ms_b (ms_lf (ms_iconst hx hb (by decide) (by decide +kernel : decode cX11_year 43 = .ok (.iconst 0, 1))))
    (ms_b (ms_lf (ms_istore hx hb (by decide : 6 < 7) (by decide +kernel : decode cX11_year 44 = .ok (.istore 6, 2))))
    (ms_lf (ms_iload hx hb (by decide +kernel : decode cX11_year 46 = .ok (.iload 6, 2))))))
    (ms_b (ms_lf (ms_iload hx hb (by decide +kernel : decode cX11_year 48 = .ok (.iload 4, 2))))
    (ms_b (ms_lf (ms_ic_ge hx hb (by decide) (by decide +kernel : decode cX11_year 50 = .ok (.if_icmp .ge 39, 3))))
    (ms_lf (ms_aload_n (k := 0) hx hb rfl (by decide +kernel : decode cX11_year 53 = .ok (.aload_n 0, 1)))))))
    (ms_b (ms_b (ms_lf (ms_iload_n (k := 3) hx hb rfl (by decide +kernel : decode cX11_year 54 = .ok (.iload_n 3, 1))))
    (ms_b (ms_lf (ms_aload_n (k := 0) hx hb rfl (by decide +kernel : decode cX11_year 55 = .ok (.aload_n 0, 1))))
    (ms_lf (ms_getf (C := RX11) (T := TX11) (N := 11) hx hb hf hts (fun w h => hAW w (inq_11 w h)) hown hK rfl (by decide) (hts _ (hAW _ qw_850)) rfl (by decide +kernel : decode cX11_year 56 = .ok (.getfield 19, 3))))))
    (ms_b (ms_lf (ms_getf (C := RX3) (T := TX3) (N := 12) hx hb hf hts (fun w h => hAW w (inq_3 w h)) hown hK rfl (by decide) (hts _ (hAW _ qw_271)) rfl (by decide +kernel : decode cX11_year 59 = .ok (.getfield 177, 3))))
    (ms_b (ms_lf (ms_iload hx hb (by decide +kernel : decode cX11_year 62 = .ok (.iload 6, 2))))
    (ms_lf (ms_iadd hx hb (by decide +kernel : decode cX11_year 64 = .ok (.iadd, 1))))))))
    (ms_b (ms_b (ms_b (ms_lf (ms_ivV (C := RX11) (T := TX11) (N := 11) hx hb hml hown hts hgo hEX hf hK rfl (mm_GV hAW (mm_GI hAW gi_160) qw_1250 qw_1252 qw_37 qw_117) rfl ⟨rfl, hd_160⟩ (mm_rm hRf hRl (Nat.le_of_ble_eq_true rfl)) (by decide +kernel : decode cX11_year 65 = .ok (.invokevirtual 265, 3))))
    (ms_b (ms_lf (ms_aload_n (k := 0) hx hb rfl (by decide +kernel : decode cX11_year 68 = .ok (.aload_n 0, 1))))
    (ms_lf (ms_getf (C := RX11) (T := TX11) (N := 11) hx hb hf hts (fun w h => hAW w (inq_11 w h)) hown hK rfl (by decide) (hts _ (hAW _ qw_859)) rfl (by decide +kernel : decode cX11_year 69 = .ok (.getfield 89, 3))))))
    (ms_b (ms_lf (ms_iload_n (k := 1) hx hb rfl (by decide +kernel : decode cX11_year 72 = .ok (.iload_n 1, 1))))
    (ms_b (ms_lf (ms_ivV (C := RX7) (T := TX7) (N := 7) hx hb hml hown hts hgo hEX hf hK rfl (mm_GV hAW (mm_GI hAW gi_78) qw_1255 qw_1256 qw_1257 qw_133) rfl ⟨rfl, hd_78⟩ (mm_rm hRf hRl (Nat.le_of_ble_eq_true rfl)) (by decide +kernel : decode cX11_year 73 = .ok (.invokevirtual 269, 3))))
    (ms_lf (ms_iload_n (k := 2) hx hb rfl (by decide +kernel : decode cX11_year 76 = .ok (.iload_n 2, 1)))))))
    (ms_b (ms_b (ms_lf (ms_ic_ne hx hb (by decide) (by decide +kernel : decode cX11_year 77 = .ok (.if_icmp .ne 6, 3))))
    (ms_b (ms_lf (ms_iinc hx hb (by decide) (by decide : 5 < 7) (by decide +kernel : decode cX11_year 80 = .ok (.iinc 5 1, 3))))
    (ms_lf (ms_iinc hx hb (by decide) (by decide : 6 < 7) (by decide +kernel : decode cX11_year 83 = .ok (.iinc 6 1, 3))))))
    (ms_b (ms_lf (ms_goto hx hb (by decide) (by decide +kernel : decode cX11_year 86 = .ok (.goto (-40), 3))))
    (ms_b (ms_lf (ms_iload hx hb (by decide +kernel : decode cX11_year 89 = .ok (.iload 5, 2))))
    (ms_lf (ms_iret hx hb hr hlk (by decide +kernel : decode cX11_year 91 = .ok (.ireturn, 1))))))))))
set_option maxRecDepth 100000 in
set_option maxHeartbeats 8000000 in
/-- TippedCrates.tell -/
theorem sd_151 (l : Launch) (f : Nat → Nat) (D : va_G) (cA : FieldType → ClassId) (d : Nat) : mm_Ok2 l f D cA d (yX11_tell, cX11_tell, 4, (some .int), mc_151) := by
  intro p e R s m args below meth c C hRf hRl pc
  obtain ⟨hx, hb, hml, hr, hlk, hnm, hown, hts, hEX, hgo, hf⟩ := C
  obtain ⟨hK, hA, hX, hZs, hZc, hZq, hTx, hSR0, hSR1, hAO, hN⟩ := id hEX
  have hAW : ∀ w ∈ mm_AW, w ∈ (Cond.code yX11_tell cX11_tell 4 (some .int) :: mm_AW) := fun w h => List.mem_cons_of_mem _ h
  have hown : s.vm.findClass "TippedCrates" = some m.cls := hown
  show mm_S p l e R s m args below meth c f D mm_cl cA 4 _ pc (mc_151 pc)
  unfold mc_151
  exact (ms_b (ms_b (ms_b (ms_b (ms_lf (ms_iload_n (k := 1) hx hb rfl (by decide +kernel : decode cX11_tell 0 = .ok (.iload_n 1, 1))))
    (ms_lf (ms_iconst hx hb (by decide) (by decide +kernel : decode cX11_tell 1 = .ok (.iconst 1, 1)))))
    (ms_b (ms_lf (ms_iconst hx hb (by decide) (by decide +kernel : decode cX11_tell 2 = .ok (.iconst 5, 1))))
    (ms_b (ms_lf (ms_ivS hx hb hml hown hts hgo hEX (mm_GS hAW (mm_GI hAW gi_166) qw_919 qw_748 qw_117) rfl hd_166 (mm_rm hRf hRl (Nat.le_of_ble_eq_true rfl)) (by decide +kernel : decode cX11_tell 3 = .ok (.invokestatic 140, 3))))
    (ms_lf (ms_if_eq hx hb (by decide) (by decide +kernel : decode cX11_tell 6 = .ok (.ifCond .eq 22, 3)))))))
    (ms_b (ms_b (ms_lf (ms_iload_n (k := 2) hx hb rfl (by decide +kernel : decode cX11_tell 9 = .ok (.iload_n 2, 1))))
    (ms_b (ms_lf (ms_ivS hx hb hml hown hts hgo hEX (mm_GS hAW (mm_GI hAW gi_164) qw_1008 qw_1009 qw_117) rfl hd_164 (mm_rm hRf hRl (Nat.le_of_ble_eq_true rfl)) (by decide +kernel : decode cX11_tell 10 = .ok (.invokestatic 174, 3))))
    (ms_lf (ms_if_eq hx hb (by decide) (by decide +kernel : decode cX11_tell 13 = .ok (.ifCond .eq 15, 3))))))
    (ms_b (ms_lf (ms_aload_n (k := 0) hx hb rfl (by decide +kernel : decode cX11_tell 16 = .ok (.aload_n 0, 1))))
    (ms_b (ms_lf (ms_getf (C := RX11) (T := TX11) (N := 11) hx hb hf hts (fun w h => hAW w (inq_11 w h)) hown hK rfl (by decide) (hts _ (hAW _ qw_856)) rfl (by decide +kernel : decode cX11_tell 17 = .ok (.getfield 71, 3))))
    (ms_lf (ms_getf (C := RX5) (T := TX5) (N := 11) hx hb hf hts (fun w h => hAW w (inq_5 w h)) hown hK rfl (by decide) (hts _ (hAW _ qw_514)) rfl (by decide +kernel : decode cX11_tell 20 = .ok (.getfield 275, 3))))))))
    (ms_b (ms_b (ms_b (ms_lf (ms_bipush hx hb (by decide) (by decide +kernel : decode cX11_tell 23 = .ok (.bipush 20, 2))))
    (ms_lf (ms_ic_lt hx hb (by decide) (by decide +kernel : decode cX11_tell 25 = .ok (.if_icmp .lt 5, 3)))))
    (ms_b (ms_lf (ms_iconst hx hb (by decide) (by decide +kernel : decode cX11_tell 28 = .ok (.iconst (-1), 1))))
    (ms_b (ms_lf (ms_iret hx hb hr hlk (by decide +kernel : decode cX11_tell 29 = .ok (.ireturn, 1))))
    (ms_lf (ms_aload_n (k := 0) hx hb rfl (by decide +kernel : decode cX11_tell 30 = .ok (.aload_n 0, 1)))))))
    (ms_b (ms_b (ms_lf (ms_getf (C := RX11) (T := TX11) (N := 11) hx hb hf hts (fun w h => hAW w (inq_11 w h)) hown hK rfl (by decide) (hts _ (hAW _ qw_856)) rfl (by decide +kernel : decode cX11_tell 31 = .ok (.getfield 71, 3))))
    (ms_b (ms_lf (ms_iload_n (k := 1) hx hb rfl (by decide +kernel : decode cX11_tell 34 = .ok (.iload_n 1, 1))))
    (ms_lf (ms_iload_n (k := 2) hx hb rfl (by decide +kernel : decode cX11_tell 35 = .ok (.iload_n 2, 1))))))
    (ms_b (ms_lf (ms_iload_n (k := 3) hx hb rfl (by decide +kernel : decode cX11_tell 36 = .ok (.iload_n 3, 1))))
    (ms_b (ms_lf (ms_ivV (C := RX5) (T := TX5) (N := 11) hx hb hml hown hts hgo hEX hf hK rfl (mm_GV hAW (mm_GI hAW gi_56) qw_1275 qw_1276 qw_1277 qw_131) rfl ⟨rfl, hd_56⟩ (mm_rm hRf hRl (Nat.le_of_ble_eq_true rfl)) (by decide +kernel : decode cX11_tell 37 = .ok (.invokevirtual 278, 3))))
    (ms_lf (ms_iret hx hb hr hlk (by decide +kernel : decode cX11_tell 40 = .ok (.ireturn, 1)))))))))
set_option maxRecDepth 100000 in
set_option maxHeartbeats 8000000 in
/-- TippedCrates.forget -/
theorem sd_152 (l : Launch) (f : Nat → Nat) (D : va_G) (cA : FieldType → ClassId) (d : Nat) : mm_Ok2 l f D cA d (yX11_forget, cX11_forget, 1, (some .int), mc_152) := by
  intro p e R s m args below meth c C hRf hRl pc
  obtain ⟨hx, hb, hml, hr, hlk, hnm, hown, hts, hEX, hgo, hf⟩ := C
  obtain ⟨hK, hA, hX, hZs, hZc, hZq, hTx, hSR0, hSR1, hAO, hN⟩ := id hEX
  have hAW : ∀ w ∈ mm_AW, w ∈ (Cond.code yX11_forget cX11_forget 1 (some .int) :: mm_AW) := fun w h => List.mem_cons_of_mem _ h
  have hown : s.vm.findClass "TippedCrates" = some m.cls := hown
  show mm_S p l e R s m args below meth c f D mm_cl cA 1 _ pc (mc_152 pc)
  unfold mc_152
  exact (ms_b (ms_b (ms_lf (ms_aload_n (k := 0) hx hb rfl (by decide +kernel : decode cX11_forget 0 = .ok (.aload_n 0, 1))))
    (ms_lf (ms_getf (C := RX11) (T := TX11) (N := 11) hx hb hf hts (fun w h => hAW w (inq_11 w h)) hown hK rfl (by decide) (hts _ (hAW _ qw_856)) rfl (by decide +kernel : decode cX11_forget 1 = .ok (.getfield 71, 3)))))
    (ms_b (ms_lf (ms_ivV (C := RX5) (T := TX5) (N := 11) hx hb hml hown hts hgo hEX hf hK rfl (mm_GV hAW (mm_GI hAW gi_57) qw_903 qw_904 qw_905 qw_131) rfl ⟨rfl, hd_57⟩ (mm_rm hRf hRl (Nat.le_of_ble_eq_true rfl)) (by decide +kernel : decode cX11_forget 4 = .ok (.invokevirtual 110, 3))))
    (ms_lf (ms_iret hx hb hr hlk (by decide +kernel : decode cX11_forget 7 = .ok (.ireturn, 1))))))
set_option maxRecDepth 100000 in
set_option maxHeartbeats 8000000 in
/-- TippedCrates.rows -/
theorem sd_153 (l : Launch) (f : Nat → Nat) (D : va_G) (cA : FieldType → ClassId) (d : Nat) : mm_Ok2 l f D cA d (yX11_rows, cX11_rows, 5, (some .int), mc_153) := by
  intro p e R s m args below meth c C hRf hRl pc
  obtain ⟨hx, hb, hml, hr, hlk, hnm, hown, hts, hEX, hgo, hf⟩ := C
  obtain ⟨hK, hA, hX, hZs, hZc, hZq, hTx, hSR0, hSR1, hAO, hN⟩ := id hEX
  have hAW : ∀ w ∈ mm_AW, w ∈ (Cond.code yX11_rows cX11_rows 5 (some .int) :: mm_AW) := fun w h => List.mem_cons_of_mem _ h
  have hown : s.vm.findClass "TippedCrates" = some m.cls := hown
  show mm_S p l e R s m args below meth c f D mm_cl cA 5 _ pc (mc_153 pc)
  unfold mc_153
  exact (ms_b (ms_b (ms_b (ms_b (ms_b (ms_lf (ms_aload_n (k := 0) hx hb rfl (by decide +kernel : decode cX11_rows 0 = .ok (.aload_n 0, 1))))
    (ms_lf (ms_iload_n (k := 1) hx hb rfl (by decide +kernel : decode cX11_rows 1 = .ok (.iload_n 1, 1)))))
    (ms_b (ms_lf (ms_iload_n (k := 2) hx hb rfl (by decide +kernel : decode cX11_rows 2 = .ok (.iload_n 2, 1))))
    (ms_lf (ms_iload_n (k := 3) hx hb rfl (by decide +kernel : decode cX11_rows 3 = .ok (.iload_n 3, 1))))))
    (ms_b (ms_b (ms_lf (ms_ivV (C := RX11) (T := TX11) (N := 11) hx hb hml hown hts hgo hEX hf hK rfl (mm_GV hAW (mm_GI hAW gi_161) qw_1287 qw_1289 qw_38 qw_117) rfl ⟨rfl, hd_161⟩ (mm_rm hRf hRl (Nat.le_of_ble_eq_true rfl)) (by decide +kernel : decode cX11_rows 4 = .ok (.invokevirtual 282, 3))))
    (ms_lf (ms_if_eq hx hb (by decide) (by decide +kernel : decode cX11_rows 7 = .ok (.ifCond .eq 13, 3)))))
    (ms_b (ms_lf (ms_iload hx hb (by decide +kernel : decode cX11_rows 10 = .ok (.iload 4, 2))))
    (ms_lf (ms_iconst hx hb (by decide) (by decide +kernel : decode cX11_rows 12 = .ok (.iconst 0, 1)))))))
    (ms_b (ms_b (ms_b (ms_lf (ms_iconst hx hb (by decide) (by decide +kernel : decode cX11_rows 13 = .ok (.iconst 1, 1))))
    (ms_lf (ms_ivS hx hb hml hown hts hgo hEX (mm_GS hAW (mm_GI hAW gi_166) qw_919 qw_748 qw_117) rfl hd_166 (mm_rm hRf hRl (Nat.le_of_ble_eq_true rfl)) (by decide +kernel : decode cX11_rows 14 = .ok (.invokestatic 140, 3)))))
    (ms_b (ms_lf (ms_if_ne hx hb (by decide) (by decide +kernel : decode cX11_rows 17 = .ok (.ifCond .ne 5, 3))))
    (ms_lf (ms_iconst hx hb (by decide) (by decide +kernel : decode cX11_rows 20 = .ok (.iconst (-1), 1))))))
    (ms_b (ms_b (ms_lf (ms_iret hx hb hr hlk (by decide +kernel : decode cX11_rows 21 = .ok (.ireturn, 1))))
    (ms_lf (ms_aload_n (k := 0) hx hb rfl (by decide +kernel : decode cX11_rows 22 = .ok (.aload_n 0, 1)))))
    (ms_b (ms_lf (ms_getf (C := RX11) (T := TX11) (N := 11) hx hb hf hts (fun w h => hAW w (inq_11 w h)) hown hK rfl (by decide) (hts _ (hAW _ qw_854)) rfl (by decide +kernel : decode cX11_rows 23 = .ok (.getfield 53, 3))))
    (ms_b (ms_lf (ms_aload_n (k := 0) hx hb rfl (by decide +kernel : decode cX11_rows 26 = .ok (.aload_n 0, 1))))
    (ms_lf (ms_getf (C := RX11) (T := TX11) (N := 11) hx hb hf hts (fun w h => hAW w (inq_11 w h)) hown hK rfl (by decide) (hts _ (hAW _ qw_858)) rfl (by decide +kernel : decode cX11_rows 27 = .ok (.getfield 85, 3)))))))))
    (ms_b (ms_b (ms_b (ms_b (ms_lf (ms_iload_n (k := 2) hx hb rfl (by decide +kernel : decode cX11_rows 30 = .ok (.iload_n 2, 1))))
    (ms_lf (ms_ivV (C := RX6) (T := TX6) (N := 5) hx hb hml hown hts hgo hEX hf hK rfl (mm_GV hAW (mm_GI hAW gi_70) qw_1046 qw_1047 qw_1048 qw_129) rfl ⟨rfl, hd_70⟩ (mm_rm hRf hRl (Nat.le_of_ble_eq_true rfl)) (by decide +kernel : decode cX11_rows 31 = .ok (.invokevirtual 190, 3)))))
    (ms_b (ms_lf (ms_aload_n (k := 0) hx hb rfl (by decide +kernel : decode cX11_rows 34 = .ok (.aload_n 0, 1))))
    (ms_lf (ms_getf (C := RX11) (T := TX11) (N := 11) hx hb hf hts (fun w h => hAW w (inq_11 w h)) hown hK rfl (by decide) (hts _ (hAW _ qw_856)) rfl (by decide +kernel : decode cX11_rows 35 = .ok (.getfield 71, 3))))))
    (ms_b (ms_b (ms_lf (ms_iload_n (k := 1) hx hb rfl (by decide +kernel : decode cX11_rows 38 = .ok (.iload_n 1, 1))))
    (ms_lf (ms_iload_n (k := 3) hx hb rfl (by decide +kernel : decode cX11_rows 39 = .ok (.iload_n 3, 1)))))
    (ms_b (ms_lf (ms_ivV (C := RX5) (T := TX5) (N := 11) hx hb hml hown hts hgo hEX hf hK rfl (mm_GV hAW (mm_GI hAW gi_58) qw_1291 qw_1292 qw_1293 qw_131) rfl ⟨rfl, hd_58⟩ (mm_rm hRf hRl (Nat.le_of_ble_eq_true rfl)) (by decide +kernel : decode cX11_rows 40 = .ok (.invokevirtual 285, 3))))
    (ms_lf (ms_iload hx hb (by decide +kernel : decode cX11_rows 43 = .ok (.iload 4, 2)))))))
    (ms_b (ms_b (ms_b (ms_lf (ms_if_ne hx hb (by decide) (by decide +kernel : decode cX11_rows 45 = .ok (.ifCond .ne 13, 3))))
    (ms_lf (ms_aload_n (k := 0) hx hb rfl (by decide +kernel : decode cX11_rows 48 = .ok (.aload_n 0, 1)))))
    (ms_b (ms_lf (ms_getf (C := RX11) (T := TX11) (N := 11) hx hb hf hts (fun w h => hAW w (inq_11 w h)) hown hK rfl (by decide) (hts _ (hAW _ qw_856)) rfl (by decide +kernel : decode cX11_rows 49 = .ok (.getfield 71, 3))))
    (ms_lf (ms_getf (C := RX5) (T := TX5) (N := 11) hx hb hf hts (fun w h => hAW w (inq_5 w h)) hown hK rfl (by decide) (hts _ (hAW _ qw_516)) rfl (by decide +kernel : decode cX11_rows 52 = .ok (.getfield 288, 3))))))
    (ms_b (ms_b (ms_lf (ms_goto hx hb (by decide) (by decide +kernel : decode cX11_rows 55 = .ok (.goto 10, 3))))
    (ms_lf (ms_aload_n (k := 0) hx hb rfl (by decide +kernel : decode cX11_rows 58 = .ok (.aload_n 0, 1)))))
    (ms_b (ms_lf (ms_getf (C := RX11) (T := TX11) (N := 11) hx hb hf hts (fun w h => hAW w (inq_11 w h)) hown hK rfl (by decide) (hts _ (hAW _ qw_856)) rfl (by decide +kernel : decode cX11_rows 59 = .ok (.getfield 71, 3))))
    (ms_b (ms_lf (ms_getf (C := RX5) (T := TX5) (N := 11) hx hb hf hts (fun w h => hAW w (inq_5 w h)) hown hK rfl (by decide) (hts _ (hAW _ qw_518)) rfl (by decide +kernel : decode cX11_rows 62 = .ok (.getfield 291, 3))))
    (ms_lf (ms_iret hx hb hr hlk (by decide +kernel : decode cX11_rows 65 = .ok (.ireturn, 1))))))))))
set_option maxRecDepth 100000 in
set_option maxHeartbeats 8000000 in
/-- TippedCrates.listen -/
theorem sd_154 (l : Launch) (f : Nat → Nat) (D : va_G) (cA : FieldType → ClassId) (d : Nat) : mm_Ok2 l f D cA d (yX11_listen, cX11_listen, 4, (some .int), mc_154) := by
  intro p e R s m args below meth c C hRf hRl pc
  obtain ⟨hx, hb, hml, hr, hlk, hnm, hown, hts, hEX, hgo, hf⟩ := C
  obtain ⟨hK, hA, hX, hZs, hZc, hZq, hTx, hSR0, hSR1, hAO, hN⟩ := id hEX
  have hAW : ∀ w ∈ mm_AW, w ∈ (Cond.code yX11_listen cX11_listen 4 (some .int) :: mm_AW) := fun w h => List.mem_cons_of_mem _ h
  have hown : s.vm.findClass "TippedCrates" = some m.cls := hown
  show mm_S p l e R s m args below meth c f D mm_cl cA 4 _ pc (mc_154 pc)
  unfold mc_154
  exact (ms_b (ms_b (ms_b (ms_b (ms_lf (ms_aload_n (k := 0) hx hb rfl (by decide +kernel : decode cX11_listen 0 = .ok (.aload_n 0, 1))))
    (ms_b (ms_lf (ms_iload_n (k := 1) hx hb rfl (by decide +kernel : decode cX11_listen 1 = .ok (.iload_n 1, 1))))
    (ms_lf (ms_iload_n (k := 2) hx hb rfl (by decide +kernel : decode cX11_listen 2 = .ok (.iload_n 2, 1))))))
    (ms_b (ms_lf (ms_iload_n (k := 3) hx hb rfl (by decide +kernel : decode cX11_listen 3 = .ok (.iload_n 3, 1))))
    (ms_b (ms_lf (ms_ivV (C := RX11) (T := TX11) (N := 11) hx hb hml hown hts hgo hEX hf hK rfl (mm_GV hAW (mm_GI hAW gi_161) qw_1287 qw_1289 qw_38 qw_117) rfl ⟨rfl, hd_161⟩ (mm_rm hRf hRl (Nat.le_of_ble_eq_true rfl)) (by decide +kernel : decode cX11_listen 4 = .ok (.invokevirtual 282, 3))))
    (ms_lf (ms_if_ne hx hb (by decide) (by decide +kernel : decode cX11_listen 7 = .ok (.ifCond .ne 5, 3)))))))
    (ms_b (ms_b (ms_lf (ms_iconst hx hb (by decide) (by decide +kernel : decode cX11_listen 10 = .ok (.iconst (-1), 1))))
    (ms_b (ms_lf (ms_iret hx hb hr hlk (by decide +kernel : decode cX11_listen 11 = .ok (.ireturn, 1))))
    (ms_lf (ms_aload_n (k := 0) hx hb rfl (by decide +kernel : decode cX11_listen 12 = .ok (.aload_n 0, 1))))))
    (ms_b (ms_lf (ms_getf (C := RX11) (T := TX11) (N := 11) hx hb hf hts (fun w h => hAW w (inq_11 w h)) hown hK rfl (by decide) (hts _ (hAW _ qw_854)) rfl (by decide +kernel : decode cX11_listen 13 = .ok (.getfield 53, 3))))
    (ms_b (ms_lf (ms_aload_n (k := 0) hx hb rfl (by decide +kernel : decode cX11_listen 16 = .ok (.aload_n 0, 1))))
    (ms_lf (ms_getf (C := RX11) (T := TX11) (N := 11) hx hb hf hts (fun w h => hAW w (inq_11 w h)) hown hK rfl (by decide) (hts _ (hAW _ qw_858)) rfl (by decide +kernel : decode cX11_listen 17 = .ok (.getfield 85, 3))))))))
    (ms_b (ms_b (ms_b (ms_lf (ms_iload_n (k := 2) hx hb rfl (by decide +kernel : decode cX11_listen 20 = .ok (.iload_n 2, 1))))
    (ms_b (ms_lf (ms_ivV (C := RX6) (T := TX6) (N := 5) hx hb hml hown hts hgo hEX hf hK rfl (mm_GV hAW (mm_GI hAW gi_70) qw_1046 qw_1047 qw_1048 qw_129) rfl ⟨rfl, hd_70⟩ (mm_rm hRf hRl (Nat.le_of_ble_eq_true rfl)) (by decide +kernel : decode cX11_listen 21 = .ok (.invokevirtual 190, 3))))
    (ms_lf (ms_aload_n (k := 0) hx hb rfl (by decide +kernel : decode cX11_listen 24 = .ok (.aload_n 0, 1))))))
    (ms_b (ms_lf (ms_getf (C := RX11) (T := TX11) (N := 11) hx hb hf hts (fun w h => hAW w (inq_11 w h)) hown hK rfl (by decide) (hts _ (hAW _ qw_856)) rfl (by decide +kernel : decode cX11_listen 25 = .ok (.getfield 71, 3))))
    (ms_b (ms_lf (ms_iload_n (k := 1) hx hb rfl (by decide +kernel : decode cX11_listen 28 = .ok (.iload_n 1, 1))))
    (ms_lf (ms_iload_n (k := 3) hx hb rfl (by decide +kernel : decode cX11_listen 29 = .ok (.iload_n 3, 1)))))))
    (ms_b (ms_b (ms_lf (ms_ivV (C := RX5) (T := TX5) (N := 11) hx hb hml hown hts hgo hEX hf hK rfl (mm_GV hAW (mm_GI hAW gi_58) qw_1291 qw_1292 qw_1293 qw_131) rfl ⟨rfl, hd_58⟩ (mm_rm hRf hRl (Nat.le_of_ble_eq_true rfl)) (by decide +kernel : decode cX11_listen 30 = .ok (.invokevirtual 285, 3))))
    (ms_b (ms_lf (ms_aload_n (k := 0) hx hb rfl (by decide +kernel : decode cX11_listen 33 = .ok (.aload_n 0, 1))))
    (ms_lf (ms_getf (C := RX11) (T := TX11) (N := 11) hx hb hf hts (fun w h => hAW w (inq_11 w h)) hown hK rfl (by decide) (hts _ (hAW _ qw_856)) rfl (by decide +kernel : decode cX11_listen 34 = .ok (.getfield 71, 3))))))
    (ms_b (ms_lf (ms_iload_n (k := 3) hx hb rfl (by decide +kernel : decode cX11_listen 37 = .ok (.iload_n 3, 1))))
    (ms_b (ms_lf (ms_ivV (C := RX5) (T := TX5) (N := 11) hx hb hml hown hts hgo hEX hf hK rfl (mm_GV hAW (mm_GI hAW gi_62) qw_1312 qw_1313 qw_1314 qw_131) rfl ⟨rfl, hd_62⟩ (mm_rm hRf hRl (Nat.le_of_ble_eq_true rfl)) (by decide +kernel : decode cX11_listen 38 = .ok (.invokevirtual 294, 3))))
    (ms_lf (ms_iret hx hb hr hlk (by decide +kernel : decode cX11_listen 41 = .ok (.ireturn, 1)))))))))
set_option maxRecDepth 100000 in
set_option maxHeartbeats 8000000 in
/-- TippedCrates.hold -/
theorem sd_155 (l : Launch) (f : Nat → Nat) (D : va_G) (cA : FieldType → ClassId) (d : Nat) : mm_Ok2 l f D cA d (yX11_hold, cX11_hold, 2, (some .boolean), mc_155) := by
  intro p e R s m args below meth c C hRf hRl pc
  obtain ⟨hx, hb, hml, hr, hlk, hnm, hown, hts, hEX, hgo, hf⟩ := C
  obtain ⟨hK, hA, hX, hZs, hZc, hZq, hTx, hSR0, hSR1, hAO, hN⟩ := id hEX
  have hAW : ∀ w ∈ mm_AW, w ∈ (Cond.code yX11_hold cX11_hold 2 (some .boolean) :: mm_AW) := fun w h => List.mem_cons_of_mem _ h
  have hown : s.vm.findClass "TippedCrates" = some m.cls := hown
  show mm_S p l e R s m args below meth c f D mm_cl cA 2 _ pc (mc_155 pc)
  unfold mc_155
  exact (ms_b (ms_b (ms_b (ms_lf (ms_iload_n (k := 1) hx hb rfl (by decide +kernel : decode cX11_hold 0 = .ok (.iload_n 1, 1))))
    (ms_b (ms_lf (ms_iconst hx hb (by decide) (by decide +kernel : decode cX11_hold 1 = .ok (.iconst 0, 1))))
    (ms_lf (ms_iconst hx hb (by decide) (by decide +kernel : decode cX11_hold 2 = .ok (.iconst 2, 1))))))
    (ms_b (ms_b (ms_lf (ms_ivS hx hb hml hown hts hgo hEX (mm_GS hAW (mm_GI hAW gi_166) qw_919 qw_748 qw_117) rfl hd_166 (mm_rm hRf hRl (Nat.le_of_ble_eq_true rfl)) (by decide +kernel : decode cX11_hold 3 = .ok (.invokestatic 140, 3))))
    (ms_lf (ms_if_ne hx hb (by decide) (by decide +kernel : decode cX11_hold 6 = .ok (.ifCond .ne 5, 3)))))
    (ms_b (ms_lf (ms_iconst hx hb (by decide) (by decide +kernel : decode cX11_hold 9 = .ok (.iconst 0, 1))))
    (ms_lf (ms_iret hx hb hr hlk (by decide +kernel : decode cX11_hold 10 = .ok (.ireturn, 1)))))))
    (ms_b (ms_b (ms_b (ms_lf (ms_aload_n (k := 0) hx hb rfl (by decide +kernel : decode cX11_hold 11 = .ok (.aload_n 0, 1))))
    (ms_lf (ms_getf (C := RX11) (T := TX11) (N := 11) hx hb hf hts (fun w h => hAW w (inq_11 w h)) hown hK rfl (by decide) (hts _ (hAW _ qw_857)) rfl (by decide +kernel : decode cX11_hold 12 = .ok (.getfield 78, 3)))))
    (ms_b (ms_lf (ms_aload_n (k := 0) hx hb rfl (by decide +kernel : decode cX11_hold 15 = .ok (.aload_n 0, 1))))
    (ms_lf (ms_getf (C := RX11) (T := TX11) (N := 11) hx hb hf hts (fun w h => hAW w (inq_11 w h)) hown hK rfl (by decide) (hts _ (hAW _ qw_858)) rfl (by decide +kernel : decode cX11_hold 16 = .ok (.getfield 85, 3))))))
    (ms_b (ms_b (ms_lf (ms_iload_n (k := 1) hx hb rfl (by decide +kernel : decode cX11_hold 19 = .ok (.iload_n 1, 1))))
    (ms_lf (ms_ivV (C := RX2) (T := TX2) (N := 5) hx hb hml hown hts hgo hEX hf hK rfl (mm_GV hAW (mm_GI hAW gi_23) qw_1325 qw_1326 qw_1327 qw_132) rfl ⟨rfl, hd_23⟩ (mm_rm hRf hRl (Nat.le_of_ble_eq_true rfl)) (by decide +kernel : decode cX11_hold 20 = .ok (.invokevirtual 297, 3)))))
    (ms_b (ms_lf (ms_iconst hx hb (by decide) (by decide +kernel : decode cX11_hold 23 = .ok (.iconst 1, 1))))
    (ms_lf (ms_iret hx hb hr hlk (by decide +kernel : decode cX11_hold 24 = .ok (.ireturn, 1))))))))
set_option maxRecDepth 100000 in
set_option maxHeartbeats 8000000 in
/-- TippedCrates.restore -/
theorem sd_156 (l : Launch) (f : Nat → Nat) (D : va_G) (cA : FieldType → ClassId) (d : Nat) : mm_Ok2 l f D cA d (yX11_restore, cX11_restore, 2, (some .boolean), mc_156) := by
  intro p e R s m args below meth c C hRf hRl pc
  obtain ⟨hx, hb, hml, hr, hlk, hnm, hown, hts, hEX, hgo, hf⟩ := C
  obtain ⟨hK, hA, hX, hZs, hZc, hZq, hTx, hSR0, hSR1, hAO, hN⟩ := id hEX
  have hAW : ∀ w ∈ mm_AW, w ∈ (Cond.code yX11_restore cX11_restore 2 (some .boolean) :: mm_AW) := fun w h => List.mem_cons_of_mem _ h
  have hown : s.vm.findClass "TippedCrates" = some m.cls := hown
  show mm_S p l e R s m args below meth c f D mm_cl cA 2 _ pc (mc_156 pc)
  unfold mc_156
  exact (ms_b (ms_b (ms_b (ms_b (ms_lf (ms_iload_n (k := 1) hx hb rfl (by decide +kernel : decode cX11_restore 0 = .ok (.iload_n 1, 1))))
    (ms_lf (ms_iconst hx hb (by decide) (by decide +kernel : decode cX11_restore 1 = .ok (.iconst 0, 1)))))
    (ms_b (ms_lf (ms_iconst hx hb (by decide) (by decide +kernel : decode cX11_restore 2 = .ok (.iconst 2, 1))))
    (ms_lf (ms_ivS hx hb hml hown hts hgo hEX (mm_GS hAW (mm_GI hAW gi_166) qw_919 qw_748 qw_117) rfl hd_166 (mm_rm hRf hRl (Nat.le_of_ble_eq_true rfl)) (by decide +kernel : decode cX11_restore 3 = .ok (.invokestatic 140, 3))))))
    (ms_b (ms_b (ms_lf (ms_if_eq hx hb (by decide) (by decide +kernel : decode cX11_restore 6 = .ok (.ifCond .eq 22, 3))))
    (ms_lf (ms_aload_n (k := 0) hx hb rfl (by decide +kernel : decode cX11_restore 9 = .ok (.aload_n 0, 1)))))
    (ms_b (ms_lf (ms_getf (C := RX11) (T := TX11) (N := 11) hx hb hf hts (fun w h => hAW w (inq_11 w h)) hown hK rfl (by decide) (hts _ (hAW _ qw_857)) rfl (by decide +kernel : decode cX11_restore 10 = .ok (.getfield 78, 3))))
    (ms_lf (ms_aload_n (k := 0) hx hb rfl (by decide +kernel : decode cX11_restore 13 = .ok (.aload_n 0, 1)))))))
    (ms_b (ms_b (ms_b (ms_lf (ms_getf (C := RX11) (T := TX11) (N := 11) hx hb hf hts (fun w h => hAW w (inq_11 w h)) hown hK rfl (by decide) (hts _ (hAW _ qw_858)) rfl (by decide +kernel : decode cX11_restore 14 = .ok (.getfield 85, 3))))
    (ms_lf (ms_iload_n (k := 1) hx hb rfl (by decide +kernel : decode cX11_restore 17 = .ok (.iload_n 1, 1)))))
    (ms_b (ms_lf (ms_ivV (C := RX2) (T := TX2) (N := 5) hx hb hml hown hts hgo hEX hf hK rfl (mm_GV hAW (mm_GI hAW gi_24) qw_1333 qw_1334 qw_1335 qw_132) rfl ⟨rfl, hd_24⟩ (mm_rm hRf hRl (Nat.le_of_ble_eq_true rfl)) (by decide +kernel : decode cX11_restore 18 = .ok (.invokevirtual 300, 3))))
    (ms_lf (ms_if_eq hx hb (by decide) (by decide +kernel : decode cX11_restore 21 = .ok (.ifCond .eq 7, 3))))))
    (ms_b (ms_b (ms_lf (ms_iconst hx hb (by decide) (by decide +kernel : decode cX11_restore 24 = .ok (.iconst 1, 1))))
    (ms_lf (ms_goto hx hb (by decide) (by decide +kernel : decode cX11_restore 25 = .ok (.goto 4, 3)))))
    (ms_b (ms_lf (ms_iconst hx hb (by decide) (by decide +kernel : decode cX11_restore 28 = .ok (.iconst 0, 1))))
    (ms_lf (ms_iret hx hb hr hlk (by decide +kernel : decode cX11_restore 29 = .ok (.ireturn, 1))))))))
set_option maxRecDepth 100000 in
set_option maxHeartbeats 8000000 in
/-- TippedCrates.count -/
theorem sd_157 (l : Launch) (f : Nat → Nat) (D : va_G) (cA : FieldType → ClassId) (d : Nat) : mm_Ok2 l f D cA d (yX11_count, cX11_count, 2, (some .int), mc_157) := by
  intro p e R s m args below meth c C hRf hRl pc
  obtain ⟨hx, hb, hml, hr, hlk, hnm, hown, hts, hEX, hgo, hf⟩ := C
  obtain ⟨hK, hA, hX, hZs, hZc, hZq, hTx, hSR0, hSR1, hAO, hN⟩ := id hEX
  have hAW : ∀ w ∈ mm_AW, w ∈ (Cond.code yX11_count cX11_count 2 (some .int) :: mm_AW) := fun w h => List.mem_cons_of_mem _ h
  have hown : s.vm.findClass "TippedCrates" = some m.cls := hown
  show mm_S p l e R s m args below meth c f D mm_cl cA 2 _ pc (mc_157 pc)
  unfold mc_157
  exact (ms_b (ms_b (ms_b (ms_b (ms_b (ms_lf (ms_iload_n (k := 1) hx hb rfl (by decide +kernel : decode cX11_count 0 = .ok (.iload_n 1, 1))))
    (ms_lf (ms_tsw hx hb (by decide) (by decide) (by decide +kernel : decode cX11_count 1 = .ok (.tableswitch 143 0 11 #[63, 71, 79, 87, 95, 103, 143, 143, 111, 119, 127, 135], 63)))))
    (ms_b (ms_lf (ms_aload_n (k := 0) hx hb rfl (by decide +kernel : decode cX11_count 64 = .ok (.aload_n 0, 1))))
    (ms_b (ms_lf (ms_getf (C := RX11) (T := TX11) (N := 11) hx hb hf hts (fun w h => hAW w (inq_11 w h)) hown hK rfl (by decide) (hts _ (hAW _ qw_850)) rfl (by decide +kernel : decode cX11_count 65 = .ok (.getfield 19, 3))))
    (ms_lf (ms_getf (C := RX3) (T := TX3) (N := 12) hx hb hf hts (fun w h => hAW w (inq_3 w h)) hown hK rfl (by decide) (hts _ (hAW _ qw_267)) rfl (by decide +kernel : decode cX11_count 68 = .ok (.getfield 304, 3)))))))
    (ms_b (ms_b (ms_lf (ms_iret hx hb hr hlk (by decide +kernel : decode cX11_count 71 = .ok (.ireturn, 1))))
    (ms_b (ms_lf (ms_aload_n (k := 0) hx hb rfl (by decide +kernel : decode cX11_count 72 = .ok (.aload_n 0, 1))))
    (ms_lf (ms_getf (C := RX11) (T := TX11) (N := 11) hx hb hf hts (fun w h => hAW w (inq_11 w h)) hown hK rfl (by decide) (hts _ (hAW _ qw_850)) rfl (by decide +kernel : decode cX11_count 73 = .ok (.getfield 19, 3))))))
    (ms_b (ms_lf (ms_getf (C := RX3) (T := TX3) (N := 12) hx hb hf hts (fun w h => hAW w (inq_3 w h)) hown hK rfl (by decide) (hts _ (hAW _ qw_270)) rfl (by decide +kernel : decode cX11_count 76 = .ok (.getfield 307, 3))))
    (ms_b (ms_lf (ms_iret hx hb hr hlk (by decide +kernel : decode cX11_count 79 = .ok (.ireturn, 1))))
    (ms_lf (ms_aload_n (k := 0) hx hb rfl (by decide +kernel : decode cX11_count 80 = .ok (.aload_n 0, 1))))))))
    (ms_b (ms_b (ms_b (ms_lf (ms_getf (C := RX11) (T := TX11) (N := 11) hx hb hf hts (fun w h => hAW w (inq_11 w h)) hown hK rfl (by decide) (hts _ (hAW _ qw_850)) rfl (by decide +kernel : decode cX11_count 81 = .ok (.getfield 19, 3))))
    (ms_b (ms_lf (ms_getf (C := RX3) (T := TX3) (N := 12) hx hb hf hts (fun w h => hAW w (inq_3 w h)) hown hK rfl (by decide) (hts _ (hAW _ qw_276)) rfl (by decide +kernel : decode cX11_count 84 = .ok (.getfield 310, 3))))
    (ms_lf (ms_iret hx hb hr hlk (by decide +kernel : decode cX11_count 87 = .ok (.ireturn, 1))))))
    (ms_b (ms_lf (ms_aload_n (k := 0) hx hb rfl (by decide +kernel : decode cX11_count 88 = .ok (.aload_n 0, 1))))
    (ms_b (ms_lf (ms_getf (C := RX11) (T := TX11) (N := 11) hx hb hf hts (fun w h => hAW w (inq_11 w h)) hown hK rfl (by decide) (hts _ (hAW _ qw_858)) rfl (by decide +kernel : decode cX11_count 89 = .ok (.getfield 85, 3))))
    (ms_lf (ms_getf (C := RX7) (T := TX7) (N := 7) hx hb hf hts (fun w h => hAW w (inq_7 w h)) hown hK rfl (by decide) (hts _ (hAW _ qw_582)) rfl (by decide +kernel : decode cX11_count 92 = .ok (.getfield 183, 3)))))))
    (ms_b (ms_b (ms_lf (ms_iret hx hb hr hlk (by decide +kernel : decode cX11_count 95 = .ok (.ireturn, 1))))
    (ms_b (ms_lf (ms_aload_n (k := 0) hx hb rfl (by decide +kernel : decode cX11_count 96 = .ok (.aload_n 0, 1))))
    (ms_lf (ms_getf (C := RX11) (T := TX11) (N := 11) hx hb hf hts (fun w h => hAW w (inq_11 w h)) hown hK rfl (by decide) (hts _ (hAW _ qw_858)) rfl (by decide +kernel : decode cX11_count 97 = .ok (.getfield 85, 3))))))
    (ms_b (ms_lf (ms_getf (C := RX7) (T := TX7) (N := 7) hx hb hf hts (fun w h => hAW w (inq_7 w h)) hown hK rfl (by decide) (hts _ (hAW _ qw_585)) rfl (by decide +kernel : decode cX11_count 100 = .ok (.getfield 272, 3))))
    (ms_b (ms_lf (ms_iret hx hb hr hlk (by decide +kernel : decode cX11_count 103 = .ok (.ireturn, 1))))
    (ms_lf (ms_aload_n (k := 0) hx hb rfl (by decide +kernel : decode cX11_count 104 = .ok (.aload_n 0, 1)))))))))
    (ms_b (ms_b (ms_b (ms_b (ms_lf (ms_getf (C := RX11) (T := TX11) (N := 11) hx hb hf hts (fun w h => hAW w (inq_11 w h)) hown hK rfl (by decide) (hts _ (hAW _ qw_850)) rfl (by decide +kernel : decode cX11_count 105 = .ok (.getfield 19, 3))))
    (ms_lf (ms_getf (C := RX3) (T := TX3) (N := 12) hx hb hf hts (fun w h => hAW w (inq_3 w h)) hown hK rfl (by decide) (hts _ (hAW _ qw_280)) rfl (by decide +kernel : decode cX11_count 108 = .ok (.getfield 313, 3)))))
    (ms_b (ms_lf (ms_iret hx hb hr hlk (by decide +kernel : decode cX11_count 111 = .ok (.ireturn, 1))))
    (ms_b (ms_lf (ms_aload_n (k := 0) hx hb rfl (by decide +kernel : decode cX11_count 112 = .ok (.aload_n 0, 1))))
    (ms_lf (ms_getf (C := RX11) (T := TX11) (N := 11) hx hb hf hts (fun w h => hAW w (inq_11 w h)) hown hK rfl (by decide) (hts _ (hAW _ qw_849)) rfl (by decide +kernel : decode cX11_count 113 = .ok (.getfield 10, 3)))))))
    (ms_b (ms_b (ms_lf (ms_getf (C := RX8) (T := TX8) (N := 7) hx hb hf hts (fun w h => hAW w (inq_8 w h)) hown hK rfl (by decide) (hts _ (hAW _ qw_206)) rfl (by decide +kernel : decode cX11_count 116 = .ok (.getfield 99, 3))))
    (ms_b (ms_lf (ms_iret hx hb hr hlk (by decide +kernel : decode cX11_count 119 = .ok (.ireturn, 1))))
    (ms_lf (ms_aload_n (k := 0) hx hb rfl (by decide +kernel : decode cX11_count 120 = .ok (.aload_n 0, 1))))))
    (ms_b (ms_lf (ms_getf (C := RX11) (T := TX11) (N := 11) hx hb hf hts (fun w h => hAW w (inq_11 w h)) hown hK rfl (by decide) (hts _ (hAW _ qw_857)) rfl (by decide +kernel : decode cX11_count 121 = .ok (.getfield 78, 3))))
    (ms_b (ms_lf (ms_getf (C := RX2) (T := TX2) (N := 5) hx hb hf hts (fun w h => hAW w (inq_2 w h)) hown hK rfl (by decide) (hts _ (hAW _ qw_602)) rfl (by decide +kernel : decode cX11_count 124 = .ok (.getfield 316, 3))))
    (ms_lf (ms_iret hx hb hr hlk (by decide +kernel : decode cX11_count 127 = .ok (.ireturn, 1))))))))
    (ms_b (ms_b (ms_b (ms_lf (ms_aload_n (k := 0) hx hb rfl (by decide +kernel : decode cX11_count 128 = .ok (.aload_n 0, 1))))
    (ms_b (ms_lf (ms_getf (C := RX11) (T := TX11) (N := 11) hx hb hf hts (fun w h => hAW w (inq_11 w h)) hown hK rfl (by decide) (hts _ (hAW _ qw_856)) rfl (by decide +kernel : decode cX11_count 129 = .ok (.getfield 71, 3))))
    (ms_lf (ms_getf (C := RX5) (T := TX5) (N := 11) hx hb hf hts (fun w h => hAW w (inq_5 w h)) hown hK rfl (by decide) (hts _ (hAW _ qw_514)) rfl (by decide +kernel : decode cX11_count 132 = .ok (.getfield 275, 3))))))
    (ms_b (ms_lf (ms_iret hx hb hr hlk (by decide +kernel : decode cX11_count 135 = .ok (.ireturn, 1))))
    (ms_b (ms_lf (ms_aload_n (k := 0) hx hb rfl (by decide +kernel : decode cX11_count 136 = .ok (.aload_n 0, 1))))
    (ms_lf (ms_getf (C := RX11) (T := TX11) (N := 11) hx hb hf hts (fun w h => hAW w (inq_11 w h)) hown hK rfl (by decide) (hts _ (hAW _ qw_857)) rfl (by decide +kernel : decode cX11_count 137 = .ok (.getfield 78, 3)))))))
    (ms_b (ms_b (ms_lf (ms_ivV (C := RX2) (T := TX2) (N := 5) hx hb hml hown hts hgo hEX hf hK rfl (mm_GV hAW (mm_GI hAW gi_25) qw_1341 qw_1342 qw_1343 qw_132) rfl ⟨rfl, hd_25⟩ (mm_rm hRf hRl (Nat.le_of_ble_eq_true rfl)) (by decide +kernel : decode cX11_count 140 = .ok (.invokevirtual 317, 3))))
    (ms_b (ms_lf (ms_iret hx hb hr hlk (by decide +kernel : decode cX11_count 143 = .ok (.ireturn, 1))))
    (ms_lf (ms_aload_n (k := 0) hx hb rfl (by decide +kernel : decode cX11_count 144 = .ok (.aload_n 0, 1))))))
    (ms_b (ms_lf (ms_iload_n (k := 1) hx hb rfl (by decide +kernel : decode cX11_count 145 = .ok (.iload_n 1, 1))))
    (ms_b (ms_lf (ms_ivV (C := RX11) (T := TX11) (N := 11) hx hb hml hown hts hgo hEX hf hK rfl (mm_GV hAW (mm_GI hAW gi_158) qw_1345 qw_1347 qw_43 qw_117) rfl ⟨rfl, hd_158⟩ (mm_rm hRf hRl (Nat.le_of_ble_eq_true rfl)) (by decide +kernel : decode cX11_count 146 = .ok (.invokevirtual 320, 3))))
    (ms_lf (ms_iret hx hb hr hlk (by decide +kernel : decode cX11_count 149 = .ok (.ireturn, 1))))))))))
set_option maxRecDepth 100000 in
set_option maxHeartbeats 8000000 in
/-- TippedCrates.countCratesAndFlags -/
theorem sd_158 (l : Launch) (f : Nat → Nat) (D : va_G) (cA : FieldType → ClassId) (d : Nat) : mm_Ok2 l f D cA d (yX11_countCratesAndFlags, cX11_countCratesAndFlags, 2, (some .int), mc_158) := by
  intro p e R s m args below meth c C hRf hRl pc
  obtain ⟨hx, hb, hml, hr, hlk, hnm, hown, hts, hEX, hgo, hf⟩ := C
  obtain ⟨hK, hA, hX, hZs, hZc, hZq, hTx, hSR0, hSR1, hAO, hN⟩ := id hEX
  have hAW : ∀ w ∈ mm_AW, w ∈ (Cond.code yX11_countCratesAndFlags cX11_countCratesAndFlags 2 (some .int) :: mm_AW) := fun w h => List.mem_cons_of_mem _ h
  have hown : s.vm.findClass "TippedCrates" = some m.cls := hown
  show mm_S p l e R s m args below meth c f D mm_cl cA 2 _ pc (mc_158 pc)
  unfold mc_158
  exact (ms_b (ms_b (ms_b (ms_b (ms_lf (ms_iload_n (k := 1) hx hb rfl (by decide +kernel : decode cX11_countCratesAndFlags 0 = .ok (.iload_n 1, 1))))
    (ms_b (ms_lf (ms_tsw hx hb (by decide) (by decide) (by decide +kernel : decode cX11_countCratesAndFlags 1 = .ok (.tableswitch 112 6 16 #[59, 67, 112, 112, 112, 112, 75, 83, 91, 99, 104], 59))))
    (ms_lf (ms_aload_n (k := 0) hx hb rfl (by decide +kernel : decode cX11_countCratesAndFlags 60 = .ok (.aload_n 0, 1))))))
    (ms_b (ms_b (ms_lf (ms_getf (C := RX11) (T := TX11) (N := 11) hx hb hf hts (fun w h => hAW w (inq_11 w h)) hown hK rfl (by decide) (hts _ (hAW _ qw_858)) rfl (by decide +kernel : decode cX11_countCratesAndFlags 61 = .ok (.getfield 85, 3))))
    (ms_lf (ms_ivV (C := RX7) (T := TX7) (N := 7) hx hb hml hown hts hgo hEX hf hK rfl (mm_GV hAW (mm_GI hAW gi_79) qw_1349 qw_1350 qw_1351 qw_133) rfl ⟨rfl, hd_79⟩ (mm_rm hRf hRl (Nat.le_of_ble_eq_true rfl)) (by decide +kernel : decode cX11_countCratesAndFlags 64 = .ok (.invokevirtual 323, 3)))))
    (ms_b (ms_lf (ms_iret hx hb hr hlk (by decide +kernel : decode cX11_countCratesAndFlags 67 = .ok (.ireturn, 1))))
    (ms_lf (ms_aload_n (k := 0) hx hb rfl (by decide +kernel : decode cX11_countCratesAndFlags 68 = .ok (.aload_n 0, 1)))))))
    (ms_b (ms_b (ms_b (ms_lf (ms_getf (C := RX11) (T := TX11) (N := 11) hx hb hf hts (fun w h => hAW w (inq_11 w h)) hown hK rfl (by decide) (hts _ (hAW _ qw_858)) rfl (by decide +kernel : decode cX11_countCratesAndFlags 69 = .ok (.getfield 85, 3))))
    (ms_lf (ms_ivV (C := RX7) (T := TX7) (N := 7) hx hb hml hown hts hgo hEX hf hK rfl (mm_GV hAW (mm_GI hAW gi_80) qw_1353 qw_1354 qw_1355 qw_133) rfl ⟨rfl, hd_80⟩ (mm_rm hRf hRl (Nat.le_of_ble_eq_true rfl)) (by decide +kernel : decode cX11_countCratesAndFlags 72 = .ok (.invokevirtual 326, 3)))))
    (ms_b (ms_lf (ms_iret hx hb hr hlk (by decide +kernel : decode cX11_countCratesAndFlags 75 = .ok (.ireturn, 1))))
    (ms_lf (ms_aload_n (k := 0) hx hb rfl (by decide +kernel : decode cX11_countCratesAndFlags 76 = .ok (.aload_n 0, 1))))))
    (ms_b (ms_b (ms_lf (ms_getf (C := RX11) (T := TX11) (N := 11) hx hb hf hts (fun w h => hAW w (inq_11 w h)) hown hK rfl (by decide) (hts _ (hAW _ qw_858)) rfl (by decide +kernel : decode cX11_countCratesAndFlags 77 = .ok (.getfield 85, 3))))
    (ms_lf (ms_ivV (C := RX7) (T := TX7) (N := 7) hx hb hml hown hts hgo hEX hf hK rfl (mm_GV hAW (mm_GI hAW gi_82) qw_1357 qw_1358 qw_1359 qw_133) rfl ⟨rfl, hd_82⟩ (mm_rm hRf hRl (Nat.le_of_ble_eq_true rfl)) (by decide +kernel : decode cX11_countCratesAndFlags 80 = .ok (.invokevirtual 329, 3)))))
    (ms_b (ms_lf (ms_iret hx hb hr hlk (by decide +kernel : decode cX11_countCratesAndFlags 83 = .ok (.ireturn, 1))))
    (ms_lf (ms_aload_n (k := 0) hx hb rfl (by decide +kernel : decode cX11_countCratesAndFlags 84 = .ok (.aload_n 0, 1))))))))
    (ms_b (ms_b (ms_b (ms_b (ms_lf (ms_getf (C := RX11) (T := TX11) (N := 11) hx hb hf hts (fun w h => hAW w (inq_11 w h)) hown hK rfl (by decide) (hts _ (hAW _ qw_858)) rfl (by decide +kernel : decode cX11_countCratesAndFlags 85 = .ok (.getfield 85, 3))))
    (ms_lf (ms_ivV (C := RX7) (T := TX7) (N := 7) hx hb hml hown hts hgo hEX hf hK rfl (mm_GV hAW (mm_GI hAW gi_83) qw_1361 qw_1052 qw_1053 qw_133) rfl ⟨rfl, hd_83⟩ (mm_rm hRf hRl (Nat.le_of_ble_eq_true rfl)) (by decide +kernel : decode cX11_countCratesAndFlags 88 = .ok (.invokevirtual 332, 3)))))
    (ms_b (ms_lf (ms_iret hx hb hr hlk (by decide +kernel : decode cX11_countCratesAndFlags 91 = .ok (.ireturn, 1))))
    (ms_lf (ms_aload_n (k := 0) hx hb rfl (by decide +kernel : decode cX11_countCratesAndFlags 92 = .ok (.aload_n 0, 1))))))
    (ms_b (ms_b (ms_lf (ms_getf (C := RX11) (T := TX11) (N := 11) hx hb hf hts (fun w h => hAW w (inq_11 w h)) hown hK rfl (by decide) (hts _ (hAW _ qw_858)) rfl (by decide +kernel : decode cX11_countCratesAndFlags 93 = .ok (.getfield 85, 3))))
    (ms_lf (ms_ivV (C := RX7) (T := TX7) (N := 7) hx hb hml hown hts hgo hEX hf hK rfl (mm_GV hAW (mm_GI hAW gi_81) qw_1362 qw_1363 qw_1364 qw_133) rfl ⟨rfl, hd_81⟩ (mm_rm hRf hRl (Nat.le_of_ble_eq_true rfl)) (by decide +kernel : decode cX11_countCratesAndFlags 96 = .ok (.invokevirtual 335, 3)))))
    (ms_b (ms_lf (ms_iret hx hb hr hlk (by decide +kernel : decode cX11_countCratesAndFlags 99 = .ok (.ireturn, 1))))
    (ms_lf (ms_aload_n (k := 0) hx hb rfl (by decide +kernel : decode cX11_countCratesAndFlags 100 = .ok (.aload_n 0, 1)))))))
    (ms_b (ms_b (ms_b (ms_lf (ms_ivV (C := RX11) (T := TX11) (N := 11) hx hb hml hown hts hgo hEX hf hK rfl (mm_GV hAW (mm_GI hAW gi_159) qw_1367 qw_1369 qw_44 qw_117) rfl ⟨rfl, hd_159⟩ (mm_rm hRf hRl (Nat.le_of_ble_eq_true rfl)) (by decide +kernel : decode cX11_countCratesAndFlags 101 = .ok (.invokevirtual 338, 3))))
    (ms_lf (ms_iret hx hb hr hlk (by decide +kernel : decode cX11_countCratesAndFlags 104 = .ok (.ireturn, 1)))))
    (ms_b (ms_lf (ms_aload_n (k := 0) hx hb rfl (by decide +kernel : decode cX11_countCratesAndFlags 105 = .ok (.aload_n 0, 1))))
    (ms_lf (ms_getf (C := RX11) (T := TX11) (N := 11) hx hb hf hts (fun w h => hAW w (inq_11 w h)) hown hK rfl (by decide) (hts _ (hAW _ qw_858)) rfl (by decide +kernel : decode cX11_countCratesAndFlags 106 = .ok (.getfield 85, 3))))))
    (ms_b (ms_b (ms_lf (ms_ivV (C := RX7) (T := TX7) (N := 7) hx hb hml hown hts hgo hEX hf hK rfl (mm_GV hAW (mm_GI hAW gi_84) qw_1371 qw_1372 qw_1373 qw_133) rfl ⟨rfl, hd_84⟩ (mm_rm hRf hRl (Nat.le_of_ble_eq_true rfl)) (by decide +kernel : decode cX11_countCratesAndFlags 109 = .ok (.invokevirtual 341, 3))))
    (ms_lf (ms_iret hx hb hr hlk (by decide +kernel : decode cX11_countCratesAndFlags 112 = .ok (.ireturn, 1)))))
    (ms_b (ms_lf (ms_iconst hx hb (by decide) (by decide +kernel : decode cX11_countCratesAndFlags 113 = .ok (.iconst (-1), 1))))
    (ms_lf (ms_iret hx hb hr hlk (by decide +kernel : decode cX11_countCratesAndFlags 114 = .ok (.ireturn, 1)))))))))
set_option maxRecDepth 100000 in
set_option maxHeartbeats 8000000 in
/-- TippedCrates.stuckCrates -/
theorem sd_159 (l : Launch) (f : Nat → Nat) (D : va_G) (cA : FieldType → ClassId) (d : Nat) : mm_Ok2 l f D cA d (yX11_stuckCrates, cX11_stuckCrates, 5, (some .int), mc_159) := by
  intro p e R s m args below meth c C hRf hRl pc
  obtain ⟨hx, hb, hml, hr, hlk, hnm, hown, hts, hEX, hgo, hf⟩ := C
  obtain ⟨hK, hA, hX, hZs, hZc, hZq, hTx, hSR0, hSR1, hAO, hN⟩ := id hEX
  have hAW : ∀ w ∈ mm_AW, w ∈ (Cond.code yX11_stuckCrates cX11_stuckCrates 5 (some .int) :: mm_AW) := fun w h => List.mem_cons_of_mem _ h
  have hown : s.vm.findClass "TippedCrates" = some m.cls := hown
  show mm_S p l e R s m args below meth c f D mm_cl cA 5 _ pc (mc_159 pc)
  unfold mc_159
  exact (ms_b (ms_b (ms_b (ms_b (ms_b (ms_lf (ms_iconst hx hb (by decide) (by decide +kernel : decode cX11_stuckCrates 0 = .ok (.iconst 0, 1))))
    (ms_lf (ms_istore_n (k := 1) hx hb rfl (by decide : 1 < 5) (by decide +kernel : decode cX11_stuckCrates 1 = .ok (.istore_n 1, 1)))))
    (ms_b (ms_lf (ms_iconst hx hb (by decide) (by decide +kernel : decode cX11_stuckCrates 2 = .ok (.iconst 0, 1))))
    (ms_b (ms_lf (ms_istore_n (k := 2) hx hb rfl (by decide : 2 < 5) (by decide +kernel : decode cX11_stuckCrates 3 = .ok (.istore_n 2, 1))))
    (ms_lf (ms_iload_n (k := 2) hx hb rfl (by decide +kernel : decode cX11_stuckCrates 4 = .ok (.iload_n 2, 1)))))))
    (ms_b (ms_b (ms_lf (ms_aload_n (k := 0) hx hb rfl (by decide +kernel : decode cX11_stuckCrates 5 = .ok (.aload_n 0, 1))))
    (ms_lf (ms_getf (C := RX11) (T := TX11) (N := 11) hx hb hf hts (fun w h => hAW w (inq_11 w h)) hown hK rfl (by decide) (hts _ (hAW _ qw_850)) rfl (by decide +kernel : decode cX11_stuckCrates 6 = .ok (.getfield 19, 3)))))
    (ms_b (ms_lf (ms_getf (C := RX3) (T := TX3) (N := 12) hx hb hf hts (fun w h => hAW w (inq_3 w h)) hown hK rfl (by decide) (hts _ (hAW _ qw_276)) rfl (by decide +kernel : decode cX11_stuckCrates 9 = .ok (.getfield 310, 3))))
    (ms_b (ms_lf (ms_ic_ge hx hb (by decide) (by decide +kernel : decode cX11_stuckCrates 12 = .ok (.if_icmp .ge 53, 3))))
    (ms_lf (ms_iconst hx hb (by decide) (by decide +kernel : decode cX11_stuckCrates 15 = .ok (.iconst 0, 1))))))))
    (ms_b (ms_b (ms_b (ms_lf (ms_istore_n (k := 3) hx hb rfl (by decide : 3 < 5) (by decide +kernel : decode cX11_stuckCrates 16 = .ok (.istore_n 3, 1))))
    (ms_lf (ms_iconst hx hb (by decide) (by decide +kernel : decode cX11_stuckCrates 17 = .ok (.iconst 0, 1)))))
    (ms_b (ms_lf (ms_istore hx hb (by decide : 4 < 5) (by decide +kernel : decode cX11_stuckCrates 18 = .ok (.istore 4, 2))))
    (ms_b (ms_lf (ms_iload hx hb (by decide +kernel : decode cX11_stuckCrates 20 = .ok (.iload 4, 2))))
    (ms_lf (ms_iconst hx hb (by decide) (by decide +kernel : decode cX11_stuckCrates 22 = .ok (.iconst 4, 1)))))))
    (ms_b (ms_b (ms_lf (ms_ic_ge hx hb (by decide) (by decide +kernel : decode cX11_stuckCrates 23 = .ok (.if_icmp .ge 26, 3))))
    (ms_lf (ms_iload_n (k := 3) hx hb rfl (by decide +kernel : decode cX11_stuckCrates 26 = .ok (.iload_n 3, 1)))))
    (ms_b (ms_lf (ms_aload_n (k := 0) hx hb rfl (by decide +kernel : decode cX11_stuckCrates 27 = .ok (.aload_n 0, 1))))
    (ms_b (ms_lf (ms_getf (C := RX11) (T := TX11) (N := 11) hx hb hf hts (fun w h => hAW w (inq_11 w h)) hown hK rfl (by decide) (hts _ (hAW _ qw_852)) rfl (by decide +kernel : decode cX11_stuckCrates 28 = .ok (.getfield 37, 3))))
    (ms_lf (ms_aload_n (k := 0) hx hb rfl (by decide +kernel : decode cX11_stuckCrates 31 = .ok (.aload_n 0, 1)))))))))
    (ms_b (ms_b (ms_b (ms_b (ms_lf (ms_getf (C := RX11) (T := TX11) (N := 11) hx hb hf hts (fun w h => hAW w (inq_11 w h)) hown hK rfl (by decide) (hts _ (hAW _ qw_858)) rfl (by decide +kernel : decode cX11_stuckCrates 32 = .ok (.getfield 85, 3))))
    (ms_lf (ms_iload_n (k := 2) hx hb rfl (by decide +kernel : decode cX11_stuckCrates 35 = .ok (.iload_n 2, 1)))))
    (ms_b (ms_lf (ms_iload hx hb (by decide +kernel : decode cX11_stuckCrates 36 = .ok (.iload 4, 2))))
    (ms_b (ms_lf (ms_ivV (C := RX0) (T := TX0) (N := 1) hx hb hml hown hts hgo hEX hf hK rfl (mm_GV hAW (mm_GI hAW gi_1) qw_959 qw_960 qw_961 qw_126) rfl ⟨rfl, hd_1⟩ (mm_rm hRf hRl (Nat.le_of_ble_eq_true rfl)) (by decide +kernel : decode cX11_stuckCrates 38 = .ok (.invokevirtual 154, 3))))
    (ms_lf (ms_ior hx hb (by decide +kernel : decode cX11_stuckCrates 41 = .ok (.ior, 1)))))))
    (ms_b (ms_b (ms_lf (ms_istore_n (k := 3) hx hb rfl (by decide : 3 < 5) (by decide +kernel : decode cX11_stuckCrates 42 = .ok (.istore_n 3, 1))))
    (ms_lf (ms_iinc hx hb (by decide) (by decide : 4 < 5) (by decide +kernel : decode cX11_stuckCrates 43 = .ok (.iinc 4 1, 3)))))
    (ms_b (ms_lf (ms_goto hx hb (by decide) (by decide +kernel : decode cX11_stuckCrates 46 = .ok (.goto (-26), 3))))
    (ms_b (ms_lf (ms_iload_n (k := 3) hx hb rfl (by decide +kernel : decode cX11_stuckCrates 49 = .ok (.iload_n 3, 1))))
    (ms_lf (ms_if_ne hx hb (by decide) (by decide +kernel : decode cX11_stuckCrates 50 = .ok (.ifCond .ne 9, 3))))))))
    (ms_b (ms_b (ms_b (ms_lf (ms_iload_n (k := 1) hx hb rfl (by decide +kernel : decode cX11_stuckCrates 53 = .ok (.iload_n 1, 1))))
    (ms_lf (ms_iconst hx hb (by decide) (by decide +kernel : decode cX11_stuckCrates 54 = .ok (.iconst 1, 1)))))
    (ms_b (ms_lf (ms_iload_n (k := 2) hx hb rfl (by decide +kernel : decode cX11_stuckCrates 55 = .ok (.iload_n 2, 1))))
    (ms_b (ms_lf (ms_ishl hx hb (by decide +kernel : decode cX11_stuckCrates 56 = .ok (.ishl, 1))))
    (ms_lf (ms_ior hx hb (by decide +kernel : decode cX11_stuckCrates 57 = .ok (.ior, 1)))))))
    (ms_b (ms_b (ms_lf (ms_istore_n (k := 1) hx hb rfl (by decide : 1 < 5) (by decide +kernel : decode cX11_stuckCrates 58 = .ok (.istore_n 1, 1))))
    (ms_lf (ms_iinc hx hb (by decide) (by decide : 2 < 5) (by decide +kernel : decode cX11_stuckCrates 59 = .ok (.iinc 2 1, 3)))))
    (ms_b (ms_lf (ms_goto hx hb (by decide) (by decide +kernel : decode cX11_stuckCrates 62 = .ok (.goto (-58), 3))))
    (ms_b (ms_lf (ms_iload_n (k := 1) hx hb rfl (by decide +kernel : decode cX11_stuckCrates 65 = .ok (.iload_n 1, 1))))
    (ms_lf (ms_iret hx hb hr hlk (by decide +kernel : decode cX11_stuckCrates 66 = .ok (.ireturn, 1))))))))))
set_option maxRecDepth 100000 in
set_option maxHeartbeats 8000000 in
/-- TippedCrates.foresee -/
theorem sd_160 (l : Launch) (f : Nat → Nat) (D : va_G) (cA : FieldType → ClassId) (d : Nat) : mm_Ok2 l f D cA d (yX11_foresee, cX11_foresee, 3, none, mc_160) := by
  intro p e R s m args below meth c C hRf hRl pc
  obtain ⟨hx, hb, hml, hr, hlk, hnm, hown, hts, hEX, hgo, hf⟩ := C
  obtain ⟨hK, hA, hX, hZs, hZc, hZq, hTx, hSR0, hSR1, hAO, hN⟩ := id hEX
  have hAW : ∀ w ∈ mm_AW, w ∈ (Cond.code yX11_foresee cX11_foresee 3 none :: mm_AW) := fun w h => List.mem_cons_of_mem _ h
  have hown : s.vm.findClass "TippedCrates" = some m.cls := hown
  show mm_S p l e R s m args below meth c f D mm_cl cA 3 _ pc (mc_160 pc)
  unfold mc_160
  exact (ms_b (ms_b (ms_b (ms_lf (ms_aload_n (k := 0) hx hb rfl (by decide +kernel : decode cX11_foresee 0 = .ok (.aload_n 0, 1))))
    (ms_b (ms_lf (ms_getf (C := RX11) (T := TX11) (N := 11) hx hb hf hts (fun w h => hAW w (inq_11 w h)) hown hK rfl (by decide) (hts _ (hAW _ qw_859)) rfl (by decide +kernel : decode cX11_foresee 1 = .ok (.getfield 89, 3))))
    (ms_lf (ms_aload_n (k := 0) hx hb rfl (by decide +kernel : decode cX11_foresee 4 = .ok (.aload_n 0, 1))))))
    (ms_b (ms_lf (ms_getf (C := RX11) (T := TX11) (N := 11) hx hb hf hts (fun w h => hAW w (inq_11 w h)) hown hK rfl (by decide) (hts _ (hAW _ qw_858)) rfl (by decide +kernel : decode cX11_foresee 5 = .ok (.getfield 85, 3))))
    (ms_b (ms_lf (ms_ivV (C := RX7) (T := TX7) (N := 7) hx hb hml hown hts hgo hEX hf hK rfl (mm_GV hAW (mm_GI hAW gi_76) qw_1254 qw_992 qw_993 qw_133) rfl ⟨rfl, hd_76⟩ (mm_rm hRf hRl (Nat.le_of_ble_eq_true rfl)) (by decide +kernel : decode cX11_foresee 8 = .ok (.invokevirtual 344, 3))))
    (ms_lf (ms_aload_n (k := 0) hx hb rfl (by decide +kernel : decode cX11_foresee 11 = .ok (.aload_n 0, 1)))))))
    (ms_b (ms_b (ms_lf (ms_getf (C := RX11) (T := TX11) (N := 11) hx hb hf hts (fun w h => hAW w (inq_11 w h)) hown hK rfl (by decide) (hts _ (hAW _ qw_852)) rfl (by decide +kernel : decode cX11_foresee 12 = .ok (.getfield 37, 3))))
    (ms_b (ms_lf (ms_aload_n (k := 0) hx hb rfl (by decide +kernel : decode cX11_foresee 15 = .ok (.aload_n 0, 1))))
    (ms_lf (ms_getf (C := RX11) (T := TX11) (N := 11) hx hb hf hts (fun w h => hAW w (inq_11 w h)) hown hK rfl (by decide) (hts _ (hAW _ qw_859)) rfl (by decide +kernel : decode cX11_foresee 16 = .ok (.getfield 89, 3))))))
    (ms_b (ms_b (ms_lf (ms_iload_n (k := 1) hx hb rfl (by decide +kernel : decode cX11_foresee 19 = .ok (.iload_n 1, 1))))
    (ms_lf (ms_iload_n (k := 2) hx hb rfl (by decide +kernel : decode cX11_foresee 20 = .ok (.iload_n 2, 1)))))
    (ms_b (ms_lf (ms_ivV (C := RX0) (T := TX0) (N := 1) hx hb hml hown hts hgo hEX hf hK rfl (mm_GV hAW (mm_GI hAW gi_8) qw_1015 qw_1016 qw_1017 qw_126) rfl ⟨rfl, hd_8⟩ (mm_rm hRf hRl (Nat.le_of_ble_eq_true rfl)) (by decide +kernel : decode cX11_foresee 21 = .ok (.invokevirtual 180, 3))))
    (ms_lf (ms_ret hx hb hr hlk (by decide +kernel : decode cX11_foresee 24 = .ok (.return_, 1))))))))
set_option maxRecDepth 100000 in
set_option maxHeartbeats 8000000 in
/-- TippedCrates.canAskRows -/
theorem sd_161 (l : Launch) (f : Nat → Nat) (D : va_G) (cA : FieldType → ClassId) (d : Nat) : mm_Ok2 l f D cA d (yX11_canAskRows, cX11_canAskRows, 4, (some .boolean), mc_161) := by
  intro p e R s m args below meth c C hRf hRl pc
  obtain ⟨hx, hb, hml, hr, hlk, hnm, hown, hts, hEX, hgo, hf⟩ := C
  obtain ⟨hK, hA, hX, hZs, hZc, hZq, hTx, hSR0, hSR1, hAO, hN⟩ := id hEX
  have hAW : ∀ w ∈ mm_AW, w ∈ (Cond.code yX11_canAskRows cX11_canAskRows 4 (some .boolean) :: mm_AW) := fun w h => List.mem_cons_of_mem _ h
  have hown : s.vm.findClass "TippedCrates" = some m.cls := hown
  show mm_S p l e R s m args below meth c f D mm_cl cA 4 _ pc (mc_161 pc)
  unfold mc_161
  exact (ms_b (ms_b (ms_b (ms_b (ms_lf (ms_iload_n (k := 1) hx hb rfl (by decide +kernel : decode cX11_canAskRows 0 = .ok (.iload_n 1, 1))))
    (ms_lf (ms_iconst hx hb (by decide) (by decide +kernel : decode cX11_canAskRows 1 = .ok (.iconst 0, 1)))))
    (ms_b (ms_lf (ms_aload_n (k := 0) hx hb rfl (by decide +kernel : decode cX11_canAskRows 2 = .ok (.aload_n 0, 1))))
    (ms_b (ms_lf (ms_getf (C := RX11) (T := TX11) (N := 11) hx hb hf hts (fun w h => hAW w (inq_11 w h)) hown hK rfl (by decide) (hts _ (hAW _ qw_856)) rfl (by decide +kernel : decode cX11_canAskRows 3 = .ok (.getfield 71, 3))))
    (ms_lf (ms_getf (C := RX5) (T := TX5) (N := 11) hx hb hf hts (fun w h => hAW w (inq_5 w h)) hown hK rfl (by decide) (hts _ (hAW _ qw_514)) rfl (by decide +kernel : decode cX11_canAskRows 6 = .ok (.getfield 275, 3)))))))
    (ms_b (ms_b (ms_lf (ms_ivS hx hb hml hown hts hgo hEX (mm_GS hAW (mm_GI hAW gi_166) qw_919 qw_748 qw_117) rfl hd_166 (mm_rm hRf hRl (Nat.le_of_ble_eq_true rfl)) (by decide +kernel : decode cX11_canAskRows 9 = .ok (.invokestatic 140, 3))))
    (ms_lf (ms_if_eq hx hb (by decide) (by decide +kernel : decode cX11_canAskRows 12 = .ok (.ifCond .eq 24, 3)))))
    (ms_b (ms_lf (ms_aload_n (k := 0) hx hb rfl (by decide +kernel : decode cX11_canAskRows 15 = .ok (.aload_n 0, 1))))
    (ms_b (ms_lf (ms_iload_n (k := 2) hx hb rfl (by decide +kernel : decode cX11_canAskRows 16 = .ok (.iload_n 2, 1))))
    (ms_lf (ms_ivV (C := RX11) (T := TX11) (N := 11) hx hb hml hown hts hgo hEX hf hK rfl (mm_GV hAW (mm_GI hAW gi_162) qw_932 qw_934 qw_27 qw_117) rfl ⟨rfl, hd_162⟩ (mm_rm hRf hRl (Nat.le_of_ble_eq_true rfl)) (by decide +kernel : decode cX11_canAskRows 17 = .ok (.invokevirtual 131, 3))))))))
    (ms_b (ms_b (ms_b (ms_lf (ms_if_eq hx hb (by decide) (by decide +kernel : decode cX11_canAskRows 20 = .ok (.ifCond .eq 16, 3))))
    (ms_lf (ms_iload_n (k := 3) hx hb rfl (by decide +kernel : decode cX11_canAskRows 23 = .ok (.iload_n 3, 1)))))
    (ms_b (ms_lf (ms_iconst hx hb (by decide) (by decide +kernel : decode cX11_canAskRows 24 = .ok (.iconst 1, 1))))
    (ms_b (ms_lf (ms_iconst hx hb (by decide) (by decide +kernel : decode cX11_canAskRows 25 = .ok (.iconst 5, 1))))
    (ms_lf (ms_ivS hx hb hml hown hts hgo hEX (mm_GS hAW (mm_GI hAW gi_166) qw_919 qw_748 qw_117) rfl hd_166 (mm_rm hRf hRl (Nat.le_of_ble_eq_true rfl)) (by decide +kernel : decode cX11_canAskRows 26 = .ok (.invokestatic 140, 3)))))))
    (ms_b (ms_b (ms_lf (ms_if_eq hx hb (by decide) (by decide +kernel : decode cX11_canAskRows 29 = .ok (.ifCond .eq 7, 3))))
    (ms_lf (ms_iconst hx hb (by decide) (by decide +kernel : decode cX11_canAskRows 32 = .ok (.iconst 1, 1)))))
    (ms_b (ms_lf (ms_goto hx hb (by decide) (by decide +kernel : decode cX11_canAskRows 33 = .ok (.goto 4, 3))))
    (ms_b (ms_lf (ms_iconst hx hb (by decide) (by decide +kernel : decode cX11_canAskRows 36 = .ok (.iconst 0, 1))))
    (ms_lf (ms_iret hx hb hr hlk (by decide +kernel : decode cX11_canAskRows 37 = .ok (.ireturn, 1)))))))))
set_option maxRecDepth 100000 in
set_option maxHeartbeats 8000000 in
/-- TippedCrates.isCrate -/
theorem sd_162 (l : Launch) (f : Nat → Nat) (D : va_G) (cA : FieldType → ClassId) (d : Nat) : mm_Ok2 l f D cA d (yX11_isCrate, cX11_isCrate, 2, (some .boolean), mc_162) := by
  intro p e R s m args below meth c C hRf hRl pc
  obtain ⟨hx, hb, hml, hr, hlk, hnm, hown, hts, hEX, hgo, hf⟩ := C
  obtain ⟨hK, hA, hX, hZs, hZc, hZq, hTx, hSR0, hSR1, hAO, hN⟩ := id hEX
  have hAW : ∀ w ∈ mm_AW, w ∈ (Cond.code yX11_isCrate cX11_isCrate 2 (some .boolean) :: mm_AW) := fun w h => List.mem_cons_of_mem _ h
  have hown : s.vm.findClass "TippedCrates" = some m.cls := hown
  show mm_S p l e R s m args below meth c f D mm_cl cA 2 _ pc (mc_162 pc)
  unfold mc_162
  exact (ms_b (ms_b (ms_b (ms_lf (ms_iload_n (k := 1) hx hb rfl (by decide +kernel : decode cX11_isCrate 0 = .ok (.iload_n 1, 1))))
    (ms_lf (ms_iconst hx hb (by decide) (by decide +kernel : decode cX11_isCrate 1 = .ok (.iconst 0, 1)))))
    (ms_b (ms_lf (ms_aload_n (k := 0) hx hb rfl (by decide +kernel : decode cX11_isCrate 2 = .ok (.aload_n 0, 1))))
    (ms_lf (ms_getf (C := RX11) (T := TX11) (N := 11) hx hb hf hts (fun w h => hAW w (inq_11 w h)) hown hK rfl (by decide) (hts _ (hAW _ qw_850)) rfl (by decide +kernel : decode cX11_isCrate 3 = .ok (.getfield 19, 3))))))
    (ms_b (ms_b (ms_lf (ms_getf (C := RX3) (T := TX3) (N := 12) hx hb hf hts (fun w h => hAW w (inq_3 w h)) hown hK rfl (by decide) (hts _ (hAW _ qw_276)) rfl (by decide +kernel : decode cX11_isCrate 6 = .ok (.getfield 310, 3))))
    (ms_lf (ms_iconst hx hb (by decide) (by decide +kernel : decode cX11_isCrate 9 = .ok (.iconst 1, 1)))))
    (ms_b (ms_lf (ms_isub hx hb (by decide +kernel : decode cX11_isCrate 10 = .ok (.isub, 1))))
    (ms_b (ms_lf (ms_ivS hx hb hml hown hts hgo hEX (mm_GS hAW (mm_GI hAW gi_166) qw_919 qw_748 qw_117) rfl hd_166 (mm_rm hRf hRl (Nat.le_of_ble_eq_true rfl)) (by decide +kernel : decode cX11_isCrate 11 = .ok (.invokestatic 140, 3))))
    (ms_lf (ms_iret hx hb hr hlk (by decide +kernel : decode cX11_isCrate 14 = .ok (.ireturn, 1))))))))
set_option maxRecDepth 100000 in
set_option maxHeartbeats 8000000 in
/-- TippedCrates.isFlag -/
theorem sd_163 (l : Launch) (f : Nat → Nat) (D : va_G) (cA : FieldType → ClassId) (d : Nat) : mm_Ok2 l f D cA d (yX11_isFlag, cX11_isFlag, 2, (some .boolean), mc_163) := by
  intro p e R s m args below meth c C hRf hRl pc
  obtain ⟨hx, hb, hml, hr, hlk, hnm, hown, hts, hEX, hgo, hf⟩ := C
  obtain ⟨hK, hA, hX, hZs, hZc, hZq, hTx, hSR0, hSR1, hAO, hN⟩ := id hEX
  have hAW : ∀ w ∈ mm_AW, w ∈ (Cond.code yX11_isFlag cX11_isFlag 2 (some .boolean) :: mm_AW) := fun w h => List.mem_cons_of_mem _ h
  have hown : s.vm.findClass "TippedCrates" = some m.cls := hown
  show mm_S p l e R s m args below meth c f D mm_cl cA 2 _ pc (mc_163 pc)
  unfold mc_163
  exact (ms_b (ms_b (ms_b (ms_lf (ms_iload_n (k := 1) hx hb rfl (by decide +kernel : decode cX11_isFlag 0 = .ok (.iload_n 1, 1))))
    (ms_b (ms_lf (ms_iconst hx hb (by decide) (by decide +kernel : decode cX11_isFlag 1 = .ok (.iconst 0, 1))))
    (ms_lf (ms_aload_n (k := 0) hx hb rfl (by decide +kernel : decode cX11_isFlag 2 = .ok (.aload_n 0, 1))))))
    (ms_b (ms_lf (ms_getf (C := RX11) (T := TX11) (N := 11) hx hb hf hts (fun w h => hAW w (inq_11 w h)) hown hK rfl (by decide) (hts _ (hAW _ qw_850)) rfl (by decide +kernel : decode cX11_isFlag 3 = .ok (.getfield 19, 3))))
    (ms_b (ms_lf (ms_getf (C := RX3) (T := TX3) (N := 12) hx hb hf hts (fun w h => hAW w (inq_3 w h)) hown hK rfl (by decide) (hts _ (hAW _ qw_267)) rfl (by decide +kernel : decode cX11_isFlag 6 = .ok (.getfield 304, 3))))
    (ms_lf (ms_aload_n (k := 0) hx hb rfl (by decide +kernel : decode cX11_isFlag 9 = .ok (.aload_n 0, 1)))))))
    (ms_b (ms_b (ms_lf (ms_getf (C := RX11) (T := TX11) (N := 11) hx hb hf hts (fun w h => hAW w (inq_11 w h)) hown hK rfl (by decide) (hts _ (hAW _ qw_850)) rfl (by decide +kernel : decode cX11_isFlag 10 = .ok (.getfield 19, 3))))
    (ms_b (ms_lf (ms_getf (C := RX3) (T := TX3) (N := 12) hx hb hf hts (fun w h => hAW w (inq_3 w h)) hown hK rfl (by decide) (hts _ (hAW _ qw_270)) rfl (by decide +kernel : decode cX11_isFlag 13 = .ok (.getfield 307, 3))))
    (ms_lf (ms_imul hx hb (by decide +kernel : decode cX11_isFlag 16 = .ok (.imul, 1))))))
    (ms_b (ms_b (ms_lf (ms_iconst hx hb (by decide) (by decide +kernel : decode cX11_isFlag 17 = .ok (.iconst 1, 1))))
    (ms_lf (ms_isub hx hb (by decide +kernel : decode cX11_isFlag 18 = .ok (.isub, 1)))))
    (ms_b (ms_lf (ms_ivS hx hb hml hown hts hgo hEX (mm_GS hAW (mm_GI hAW gi_166) qw_919 qw_748 qw_117) rfl hd_166 (mm_rm hRf hRl (Nat.le_of_ble_eq_true rfl)) (by decide +kernel : decode cX11_isFlag 19 = .ok (.invokestatic 140, 3))))
    (ms_lf (ms_iret hx hb hr hlk (by decide +kernel : decode cX11_isFlag 22 = .ok (.ireturn, 1))))))))
set_option maxRecDepth 100000 in
set_option maxHeartbeats 8000000 in
/-- TippedCrates.isMark -/
theorem sd_164 (l : Launch) (f : Nat → Nat) (D : va_G) (cA : FieldType → ClassId) (d : Nat) : mm_Ok2 l f D cA d (yX11_isMark, cX11_isMark, 1, (some .boolean), mc_164) := by
  intro p e R s m args below meth c C hRf hRl pc
  obtain ⟨hx, hb, hml, hr, hlk, hnm, hown, hts, hEX, hgo, hf⟩ := C
  obtain ⟨hK, hA, hX, hZs, hZc, hZq, hTx, hSR0, hSR1, hAO, hN⟩ := id hEX
  have hAW : ∀ w ∈ mm_AW, w ∈ (Cond.code yX11_isMark cX11_isMark 1 (some .boolean) :: mm_AW) := fun w h => List.mem_cons_of_mem _ h
  have hown : s.vm.findClass "TippedCrates" = some m.cls := hown
  show mm_S p l e R s m args below meth c f D mm_cl cA 1 _ pc (mc_164 pc)
  unfold mc_164
  exact (ms_b (ms_b (ms_lf (ms_iload_n (k := 0) hx hb rfl (by decide +kernel : decode cX11_isMark 0 = .ok (.iload_n 0, 1))))
    (ms_lf (ms_iconst hx hb (by decide) (by decide +kernel : decode cX11_isMark 1 = .ok (.iconst 0, 1)))))
    (ms_b (ms_lf (ms_bipush hx hb (by decide) (by decide +kernel : decode cX11_isMark 2 = .ok (.bipush 9, 2))))
    (ms_b (ms_lf (ms_ivS hx hb hml hown hts hgo hEX (mm_GS hAW (mm_GI hAW gi_166) qw_919 qw_748 qw_117) rfl hd_166 (mm_rm hRf hRl (Nat.le_of_ble_eq_true rfl)) (by decide +kernel : decode cX11_isMark 4 = .ok (.invokestatic 140, 3))))
    (ms_lf (ms_iret hx hb hr hlk (by decide +kernel : decode cX11_isMark 7 = .ok (.ireturn, 1)))))))
set_option maxRecDepth 100000 in
set_option maxHeartbeats 8000000 in
/-- TippedCrates.isWay -/
theorem sd_165 (l : Launch) (f : Nat → Nat) (D : va_G) (cA : FieldType → ClassId) (d : Nat) : mm_Ok2 l f D cA d (yX11_isWay, cX11_isWay, 1, (some .boolean), mc_165) := by
  intro p e R s m args below meth c C hRf hRl pc
  obtain ⟨hx, hb, hml, hr, hlk, hnm, hown, hts, hEX, hgo, hf⟩ := C
  obtain ⟨hK, hA, hX, hZs, hZc, hZq, hTx, hSR0, hSR1, hAO, hN⟩ := id hEX
  have hAW : ∀ w ∈ mm_AW, w ∈ (Cond.code yX11_isWay cX11_isWay 1 (some .boolean) :: mm_AW) := fun w h => List.mem_cons_of_mem _ h
  have hown : s.vm.findClass "TippedCrates" = some m.cls := hown
  show mm_S p l e R s m args below meth c f D mm_cl cA 1 _ pc (mc_165 pc)
  unfold mc_165
  exact (ms_b (ms_b (ms_lf (ms_iload_n (k := 0) hx hb rfl (by decide +kernel : decode cX11_isWay 0 = .ok (.iload_n 0, 1))))
    (ms_lf (ms_iconst hx hb (by decide) (by decide +kernel : decode cX11_isWay 1 = .ok (.iconst 0, 1)))))
    (ms_b (ms_lf (ms_iconst hx hb (by decide) (by decide +kernel : decode cX11_isWay 2 = .ok (.iconst 3, 1))))
    (ms_b (ms_lf (ms_ivS hx hb hml hown hts hgo hEX (mm_GS hAW (mm_GI hAW gi_166) qw_919 qw_748 qw_117) rfl hd_166 (mm_rm hRf hRl (Nat.le_of_ble_eq_true rfl)) (by decide +kernel : decode cX11_isWay 3 = .ok (.invokestatic 140, 3))))
    (ms_lf (ms_iret hx hb hr hlk (by decide +kernel : decode cX11_isWay 6 = .ok (.ireturn, 1)))))))
set_option maxRecDepth 100000 in
set_option maxHeartbeats 8000000 in
/-- TippedCrates.within -/
theorem sd_166 (l : Launch) (f : Nat → Nat) (D : va_G) (cA : FieldType → ClassId) (d : Nat) : mm_Ok2 l f D cA d (yX11_within, cX11_within, 3, (some .boolean), mc_166) := by
  intro p e R s m args below meth c C hRf hRl pc
  obtain ⟨hx, hb, hml, hr, hlk, hnm, hown, hts, hEX, hgo, hf⟩ := C
  obtain ⟨hK, hA, hX, hZs, hZc, hZq, hTx, hSR0, hSR1, hAO, hN⟩ := id hEX
  have hAW : ∀ w ∈ mm_AW, w ∈ (Cond.code yX11_within cX11_within 3 (some .boolean) :: mm_AW) := fun w h => List.mem_cons_of_mem _ h
  have hown : s.vm.findClass "TippedCrates" = some m.cls := hown
  show mm_S p l e R s m args below meth c f D mm_cl cA 3 _ pc (mc_166 pc)
  unfold mc_166
  exact (ms_b (ms_b (ms_b (ms_lf (ms_iload_n (k := 0) hx hb rfl (by decide +kernel : decode cX11_within 0 = .ok (.iload_n 0, 1))))
    (ms_lf (ms_iload_n (k := 1) hx hb rfl (by decide +kernel : decode cX11_within 1 = .ok (.iload_n 1, 1)))))
    (ms_b (ms_lf (ms_ic_lt hx hb (by decide) (by decide +kernel : decode cX11_within 2 = .ok (.if_icmp .lt 12, 3))))
    (ms_b (ms_lf (ms_iload_n (k := 0) hx hb rfl (by decide +kernel : decode cX11_within 5 = .ok (.iload_n 0, 1))))
    (ms_lf (ms_iload_n (k := 2) hx hb rfl (by decide +kernel : decode cX11_within 6 = .ok (.iload_n 2, 1)))))))
    (ms_b (ms_b (ms_lf (ms_ic_gt hx hb (by decide) (by decide +kernel : decode cX11_within 7 = .ok (.if_icmp .gt 7, 3))))
    (ms_lf (ms_iconst hx hb (by decide) (by decide +kernel : decode cX11_within 10 = .ok (.iconst 1, 1)))))
    (ms_b (ms_lf (ms_goto hx hb (by decide) (by decide +kernel : decode cX11_within 11 = .ok (.goto 4, 3))))
    (ms_b (ms_lf (ms_iconst hx hb (by decide) (by decide +kernel : decode cX11_within 14 = .ok (.iconst 0, 1))))
    (ms_lf (ms_iret hx hb hr hlk (by decide +kernel : decode cX11_within 15 = .ok (.ireturn, 1))))))))
set_option maxRecDepth 100000 in
set_option maxHeartbeats 8000000 in
/-- TippedCrates.turnFaces -/
theorem sd_167 (l : Launch) (f : Nat → Nat) (D : va_G) (cA : FieldType → ClassId) (d : Nat) : mm_Ok2 l f D cA d (yX11_turnFaces, cX11_turnFaces, 6, none, mc_167) := by
  intro p e R s m args below meth c C hRf hRl pc
  obtain ⟨hx, hb, hml, hr, hlk, hnm, hown, hts, hEX, hgo, hf⟩ := C
  obtain ⟨hK, hA, hX, hZs, hZc, hZq, hTx, hSR0, hSR1, hAO, hN⟩ := id hEX
  have hAW : ∀ w ∈ mm_AW, w ∈ (Cond.code yX11_turnFaces cX11_turnFaces 6 none :: mm_AW) := fun w h => List.mem_cons_of_mem _ h
  have hown : s.vm.findClass "TippedCrates" = some m.cls := hown
  show mm_S p l e R s m args below meth c f D mm_cl cA 6 _ pc (mc_167 pc)
  unfold mc_167
  exact (ms_b (ms_b (ms_b (ms_b (ms_b (ms_lf (ms_iload_n (k := 1) hx hb rfl (by decide +kernel : decode cX11_turnFaces 0 = .ok (.iload_n 1, 1))))
    (ms_lf (ms_gs hx hb hown (hZs 0 _ rfl) (hts _ (hAW _ qw_412)) rfl (by decide +kernel : decode cX11_turnFaces 1 = .ok (.getstatic 347, 3)))))
    (ms_b (ms_lf (ms_iload_n (k := 2) hx hb rfl (by decide +kernel : decode cX11_turnFaces 4 = .ok (.iload_n 2, 1))))
    (ms_b (ms_lf (ms_iald hx hb hf hA hX (by decide +kernel : decode cX11_turnFaces 5 = .ok (.iaload, 1))))
    (ms_lf (ms_iadd hx hb (by decide +kernel : decode cX11_turnFaces 6 = .ok (.iadd, 1)))))))
    (ms_b (ms_b (ms_lf (ms_istore_n (k := 3) hx hb rfl (by decide : 3 < 6) (by decide +kernel : decode cX11_turnFaces 7 = .ok (.istore_n 3, 1))))
    (ms_b (ms_lf (ms_iload_n (k := 1) hx hb rfl (by decide +kernel : decode cX11_turnFaces 8 = .ok (.iload_n 1, 1))))
    (ms_lf (ms_gs hx hb hown (hZs 1 _ rfl) (hts _ (hAW _ qw_414)) rfl (by decide +kernel : decode cX11_turnFaces 9 = .ok (.getstatic 350, 3))))))
    (ms_b (ms_lf (ms_iload_n (k := 2) hx hb rfl (by decide +kernel : decode cX11_turnFaces 12 = .ok (.iload_n 2, 1))))
    (ms_b (ms_lf (ms_iald hx hb hf hA hX (by decide +kernel : decode cX11_turnFaces 13 = .ok (.iaload, 1))))
    (ms_lf (ms_iadd hx hb (by decide +kernel : decode cX11_turnFaces 14 = .ok (.iadd, 1))))))))
    (ms_b (ms_b (ms_b (ms_lf (ms_istore hx hb (by decide : 4 < 6) (by decide +kernel : decode cX11_turnFaces 15 = .ok (.istore 4, 2))))
    (ms_b (ms_lf (ms_aload_n (k := 0) hx hb rfl (by decide +kernel : decode cX11_turnFaces 17 = .ok (.aload_n 0, 1))))
    (ms_lf (ms_iload_n (k := 1) hx hb rfl (by decide +kernel : decode cX11_turnFaces 18 = .ok (.iload_n 1, 1))))))
    (ms_b (ms_lf (ms_iconst hx hb (by decide) (by decide +kernel : decode cX11_turnFaces 19 = .ok (.iconst 0, 1))))
    (ms_b (ms_lf (ms_iadd hx hb (by decide +kernel : decode cX11_turnFaces 20 = .ok (.iadd, 1))))
    (ms_lf (ms_iald hx hb hf hA hX (by decide +kernel : decode cX11_turnFaces 21 = .ok (.iaload, 1)))))))
    (ms_b (ms_b (ms_lf (ms_istore hx hb (by decide : 5 < 6) (by decide +kernel : decode cX11_turnFaces 22 = .ok (.istore 5, 2))))
    (ms_b (ms_lf (ms_aload_n (k := 0) hx hb rfl (by decide +kernel : decode cX11_turnFaces 24 = .ok (.aload_n 0, 1))))
    (ms_lf (ms_iload_n (k := 1) hx hb rfl (by decide +kernel : decode cX11_turnFaces 25 = .ok (.iload_n 1, 1))))))
    (ms_b (ms_lf (ms_iconst hx hb (by decide) (by decide +kernel : decode cX11_turnFaces 26 = .ok (.iconst 0, 1))))
    (ms_b (ms_lf (ms_iadd hx hb (by decide +kernel : decode cX11_turnFaces 27 = .ok (.iadd, 1))))
    (ms_lf (ms_aload_n (k := 0) hx hb rfl (by decide +kernel : decode cX11_turnFaces 28 = .ok (.aload_n 0, 1)))))))))
    (ms_b (ms_b (ms_b (ms_b (ms_lf (ms_iload hx hb (by decide +kernel : decode cX11_turnFaces 29 = .ok (.iload 4, 2))))
    (ms_b (ms_lf (ms_iald hx hb hf hA hX (by decide +kernel : decode cX11_turnFaces 31 = .ok (.iaload, 1))))
    (ms_lf (ms_iast hx hb hf hA (by decide +kernel : decode cX11_turnFaces 32 = .ok (.iastore, 1))))))
    (ms_b (ms_lf (ms_aload_n (k := 0) hx hb rfl (by decide +kernel : decode cX11_turnFaces 33 = .ok (.aload_n 0, 1))))
    (ms_b (ms_lf (ms_iload hx hb (by decide +kernel : decode cX11_turnFaces 34 = .ok (.iload 4, 2))))
    (ms_lf (ms_aload_n (k := 0) hx hb rfl (by decide +kernel : decode cX11_turnFaces 36 = .ok (.aload_n 0, 1)))))))
    (ms_b (ms_b (ms_lf (ms_iload_n (k := 1) hx hb rfl (by decide +kernel : decode cX11_turnFaces 37 = .ok (.iload_n 1, 1))))
    (ms_b (ms_lf (ms_iconst hx hb (by decide) (by decide +kernel : decode cX11_turnFaces 38 = .ok (.iconst 1, 1))))
    (ms_lf (ms_iadd hx hb (by decide +kernel : decode cX11_turnFaces 39 = .ok (.iadd, 1))))))
    (ms_b (ms_lf (ms_iald hx hb hf hA hX (by decide +kernel : decode cX11_turnFaces 40 = .ok (.iaload, 1))))
    (ms_b (ms_lf (ms_iast hx hb hf hA (by decide +kernel : decode cX11_turnFaces 41 = .ok (.iastore, 1))))
    (ms_lf (ms_aload_n (k := 0) hx hb rfl (by decide +kernel : decode cX11_turnFaces 42 = .ok (.aload_n 0, 1))))))))
    (ms_b (ms_b (ms_b (ms_lf (ms_iload_n (k := 1) hx hb rfl (by decide +kernel : decode cX11_turnFaces 43 = .ok (.iload_n 1, 1))))
    (ms_b (ms_lf (ms_iconst hx hb (by decide) (by decide +kernel : decode cX11_turnFaces 44 = .ok (.iconst 1, 1))))
    (ms_lf (ms_iadd hx hb (by decide +kernel : decode cX11_turnFaces 45 = .ok (.iadd, 1))))))
    (ms_b (ms_lf (ms_aload_n (k := 0) hx hb rfl (by decide +kernel : decode cX11_turnFaces 46 = .ok (.aload_n 0, 1))))
    (ms_b (ms_lf (ms_iload_n (k := 3) hx hb rfl (by decide +kernel : decode cX11_turnFaces 47 = .ok (.iload_n 3, 1))))
    (ms_lf (ms_iald hx hb hf hA hX (by decide +kernel : decode cX11_turnFaces 48 = .ok (.iaload, 1)))))))
    (ms_b (ms_b (ms_lf (ms_iast hx hb hf hA (by decide +kernel : decode cX11_turnFaces 49 = .ok (.iastore, 1))))
    (ms_b (ms_lf (ms_aload_n (k := 0) hx hb rfl (by decide +kernel : decode cX11_turnFaces 50 = .ok (.aload_n 0, 1))))
    (ms_lf (ms_iload_n (k := 3) hx hb rfl (by decide +kernel : decode cX11_turnFaces 51 = .ok (.iload_n 3, 1))))))
    (ms_b (ms_lf (ms_iload hx hb (by decide +kernel : decode cX11_turnFaces 52 = .ok (.iload 5, 2))))
    (ms_b (ms_lf (ms_iast hx hb hf hA (by decide +kernel : decode cX11_turnFaces 54 = .ok (.iastore, 1))))
    (ms_lf (ms_ret hx hb hr hlk (by decide +kernel : decode cX11_turnFaces 55 = .ok (.return_, 1))))))))))
