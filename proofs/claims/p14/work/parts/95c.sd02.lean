set_option maxRecDepth 100000 in
set_option maxHeartbeats 8000000 in
/-- TippedCrates$Rows.isAsKnown -/
theorem sd_60 (l : Launch) (f : Nat → Nat) (D : va_G) (cA : FieldType → ClassId) (d : Nat) : mm_Ok2 l f D cA d (yX5_isAsKnown, cX5_isAsKnown, 4, (some .boolean), mc_60) := by
  intro p e R s m args below meth c C hRf hRl pc
  obtain ⟨hx, hb, hml, hr, hlk, hnm, hown, hts, hEX, hgo, hf⟩ := C
  obtain ⟨hK, hA, hX, hZs, hZc, hZq, hTx, hSR0, hSR1, hAO, hN⟩ := id hEX
  have hAW : ∀ w ∈ mm_AW, w ∈ (Cond.code yX5_isAsKnown cX5_isAsKnown 4 (some .boolean) :: mm_AW) := fun w h => List.mem_cons_of_mem _ h
  have hown : s.vm.findClass "TippedCrates$Rows" = some m.cls := hown
  show mm_S p l e R s m args below meth c f D mm_cl cA 4 _ pc (mc_60 pc)
  unfold mc_60
  exact (ms_b (ms_b (ms_b (ms_b (ms_b (ms_lf (ms_iconst hx hb (by decide) (by decide +kernel : decode cX5_isAsKnown 0 = .ok (.iconst 0, 1))))
    (ms_lf (ms_istore_n (k := 3) hx hb rfl (by decide : 3 < 4) (by decide +kernel : decode cX5_isAsKnown 1 = .ok (.istore_n 3, 1)))))
    (ms_b (ms_lf (ms_iload_n (k := 3) hx hb rfl (by decide +kernel : decode cX5_isAsKnown 2 = .ok (.iload_n 3, 1))))
    (ms_lf (ms_aload_n (k := 0) hx hb rfl (by decide +kernel : decode cX5_isAsKnown 3 = .ok (.aload_n 0, 1))))))
    (ms_b (ms_b (ms_lf (ms_getf (C := RX5) (T := TX5) (N := 11) hx hb hf hts (fun w h => hAW w (inq_5 w h)) hown hK rfl (by decide) (hts _ (hAW _ qw_525)) rfl (by decide +kernel : decode cX5_isAsKnown 4 = .ok (.getfield 36, 3))))
    (ms_lf (ms_ic_ge hx hb (by decide) (by decide +kernel : decode cX5_isAsKnown 7 = .ok (.if_icmp .ge 45, 3)))))
    (ms_b (ms_lf (ms_aload_n (k := 0) hx hb rfl (by decide +kernel : decode cX5_isAsKnown 10 = .ok (.aload_n 0, 1))))
    (ms_lf (ms_getf (C := RX5) (T := TX5) (N := 11) hx hb hf hts (fun w h => hAW w (inq_5 w h)) hown hK rfl (by decide) (hts _ (hAW _ qw_520)) rfl (by decide +kernel : decode cX5_isAsKnown 11 = .ok (.getfield 9, 3)))))))
    (ms_b (ms_b (ms_b (ms_lf (ms_iload_n (k := 3) hx hb rfl (by decide +kernel : decode cX5_isAsKnown 14 = .ok (.iload_n 3, 1))))
    (ms_lf (ms_iald hx hb hf hA hX (by decide +kernel : decode cX5_isAsKnown 15 = .ok (.iaload, 1)))))
    (ms_b (ms_lf (ms_iload_n (k := 1) hx hb rfl (by decide +kernel : decode cX5_isAsKnown 16 = .ok (.iload_n 1, 1))))
    (ms_lf (ms_ic_ne hx hb (by decide) (by decide +kernel : decode cX5_isAsKnown 17 = .ok (.if_icmp .ne 29, 3))))))
    (ms_b (ms_b (ms_lf (ms_aload_n (k := 0) hx hb rfl (by decide +kernel : decode cX5_isAsKnown 20 = .ok (.aload_n 0, 1))))
    (ms_lf (ms_getf (C := RX5) (T := TX5) (N := 11) hx hb hf hts (fun w h => hAW w (inq_5 w h)) hown hK rfl (by decide) (hts _ (hAW _ qw_522)) rfl (by decide +kernel : decode cX5_isAsKnown 21 = .ok (.getfield 18, 3)))))
    (ms_b (ms_lf (ms_iload_n (k := 3) hx hb rfl (by decide +kernel : decode cX5_isAsKnown 24 = .ok (.iload_n 3, 1))))
    (ms_lf (ms_bald hx hb hf hA (by decide +kernel : decode cX5_isAsKnown 25 = .ok (.baload, 1))))))))
    (ms_b (ms_b (ms_b (ms_b (ms_lf (ms_aload_n (k := 0) hx hb rfl (by decide +kernel : decode cX5_isAsKnown 26 = .ok (.aload_n 0, 1))))
    (ms_lf (ms_getf (C := RX5) (T := TX5) (N := 11) hx hb hf hts (fun w h => hAW w (inq_5 w h)) hown hK rfl (by decide) (hts _ (hAW _ qw_521)) rfl (by decide +kernel : decode cX5_isAsKnown 27 = .ok (.getfield 15, 3)))))
    (ms_b (ms_lf (ms_iload_n (k := 3) hx hb rfl (by decide +kernel : decode cX5_isAsKnown 30 = .ok (.iload_n 3, 1))))
    (ms_lf (ms_iald hx hb hf hA hX (by decide +kernel : decode cX5_isAsKnown 31 = .ok (.iaload, 1))))))
    (ms_b (ms_b (ms_lf (ms_iload_n (k := 2) hx hb rfl (by decide +kernel : decode cX5_isAsKnown 32 = .ok (.iload_n 2, 1))))
    (ms_lf (ms_ic_ne hx hb (by decide) (by decide +kernel : decode cX5_isAsKnown 33 = .ok (.if_icmp .ne 7, 3)))))
    (ms_b (ms_lf (ms_iconst hx hb (by decide) (by decide +kernel : decode cX5_isAsKnown 36 = .ok (.iconst 1, 1))))
    (ms_lf (ms_goto hx hb (by decide) (by decide +kernel : decode cX5_isAsKnown 37 = .ok (.goto 4, 3)))))))
    (ms_b (ms_b (ms_b (ms_lf (ms_iconst hx hb (by decide) (by decide +kernel : decode cX5_isAsKnown 40 = .ok (.iconst 0, 1))))
    (ms_lf (ms_ic_eq hx hb (by decide) (by decide +kernel : decode cX5_isAsKnown 41 = .ok (.if_icmp .eq 5, 3)))))
    (ms_b (ms_lf (ms_iconst hx hb (by decide) (by decide +kernel : decode cX5_isAsKnown 44 = .ok (.iconst 0, 1))))
    (ms_lf (ms_iret hx hb hr hlk (by decide +kernel : decode cX5_isAsKnown 45 = .ok (.ireturn, 1))))))
    (ms_b (ms_b (ms_lf (ms_iinc hx hb (by decide) (by decide : 3 < 4) (by decide +kernel : decode cX5_isAsKnown 46 = .ok (.iinc 3 1, 3))))
    (ms_lf (ms_goto hx hb (by decide) (by decide +kernel : decode cX5_isAsKnown 49 = .ok (.goto (-47), 3)))))
    (ms_b (ms_lf (ms_iconst hx hb (by decide) (by decide +kernel : decode cX5_isAsKnown 52 = .ok (.iconst 1, 1))))
    (ms_lf (ms_iret hx hb hr hlk (by decide +kernel : decode cX5_isAsKnown 53 = .ok (.ireturn, 1)))))))))
set_option maxRecDepth 100000 in
set_option maxHeartbeats 8000000 in
/-- TippedCrates$Rows.noteRow -/
theorem sd_61 (l : Launch) (f : Nat → Nat) (D : va_G) (cA : FieldType → ClassId) (d : Nat) : mm_Ok2 l f D cA d (yX5_noteRow, cX5_noteRow, 3, none, mc_61) := by
  intro p e R s m args below meth c C hRf hRl pc
  obtain ⟨hx, hb, hml, hr, hlk, hnm, hown, hts, hEX, hgo, hf⟩ := C
  obtain ⟨hK, hA, hX, hZs, hZc, hZq, hTx, hSR0, hSR1, hAO, hN⟩ := id hEX
  have hAW : ∀ w ∈ mm_AW, w ∈ (Cond.code yX5_noteRow cX5_noteRow 3 none :: mm_AW) := fun w h => List.mem_cons_of_mem _ h
  have hown : s.vm.findClass "TippedCrates$Rows" = some m.cls := hown
  show mm_S p l e R s m args below meth c f D mm_cl cA 3 _ pc (mc_61 pc)
  unfold mc_61
  exact (ms_b (ms_b (ms_b (ms_b (ms_b (ms_lf (ms_aload_n (k := 0) hx hb rfl (by decide +kernel : decode cX5_noteRow 0 = .ok (.aload_n 0, 1))))
    (ms_lf (ms_getf (C := RX5) (T := TX5) (N := 11) hx hb hf hts (fun w h => hAW w (inq_5 w h)) hown hK rfl (by decide) (hts _ (hAW _ qw_515)) rfl (by decide +kernel : decode cX5_noteRow 1 = .ok (.getfield 42, 3)))))
    (ms_b (ms_lf (ms_if_ne hx hb (by decide) (by decide +kernel : decode cX5_noteRow 4 = .ok (.ifCond .ne 8, 3))))
    (ms_lf (ms_aload_n (k := 0) hx hb rfl (by decide +kernel : decode cX5_noteRow 7 = .ok (.aload_n 0, 1))))))
    (ms_b (ms_b (ms_lf (ms_iload_n (k := 1) hx hb rfl (by decide +kernel : decode cX5_noteRow 8 = .ok (.iload_n 1, 1))))
    (ms_lf (ms_put (C := RX5) (T := TX5) (N := 11) hx hb hf hts (fun w h => hAW w (inq_5 w h)) tyX5 tyX5_ok nmX5 hown hK rfl (by decide) (hts _ (hAW _ qw_517)) rfl rfl rfl (by decide +kernel : decode cX5_noteRow 9 = .ok (.putfield 45, 3)))))
    (ms_b (ms_lf (ms_aload_n (k := 0) hx hb rfl (by decide +kernel : decode cX5_noteRow 12 = .ok (.aload_n 0, 1))))
    (ms_b (ms_lf (ms_dup hx hb (by decide +kernel : decode cX5_noteRow 13 = .ok (.dup, 1))))
    (ms_lf (ms_getf (C := RX5) (T := TX5) (N := 11) hx hb hf hts (fun w h => hAW w (inq_5 w h)) hown hK rfl (by decide) (hts _ (hAW _ qw_515)) rfl (by decide +kernel : decode cX5_noteRow 14 = .ok (.getfield 42, 3))))))))
    (ms_b (ms_b (ms_b (ms_lf (ms_iconst hx hb (by decide) (by decide +kernel : decode cX5_noteRow 17 = .ok (.iconst 1, 1))))
    (ms_lf (ms_iadd hx hb (by decide +kernel : decode cX5_noteRow 18 = .ok (.iadd, 1)))))
    (ms_b (ms_lf (ms_put (C := RX5) (T := TX5) (N := 11) hx hb hf hts (fun w h => hAW w (inq_5 w h)) tyX5 tyX5_ok nmX5 hown hK rfl (by decide) (hts _ (hAW _ qw_515)) rfl rfl rfl (by decide +kernel : decode cX5_noteRow 19 = .ok (.putfield 42, 3))))
    (ms_lf (ms_iconst hx hb (by decide) (by decide +kernel : decode cX5_noteRow 22 = .ok (.iconst 0, 1))))))
    (ms_b (ms_b (ms_lf (ms_istore_n (k := 2) hx hb rfl (by decide : 2 < 3) (by decide +kernel : decode cX5_noteRow 23 = .ok (.istore_n 2, 1))))
    (ms_lf (ms_iload_n (k := 2) hx hb rfl (by decide +kernel : decode cX5_noteRow 24 = .ok (.iload_n 2, 1)))))
    (ms_b (ms_lf (ms_aload_n (k := 0) hx hb rfl (by decide +kernel : decode cX5_noteRow 25 = .ok (.aload_n 0, 1))))
    (ms_b (ms_lf (ms_getf (C := RX5) (T := TX5) (N := 11) hx hb hf hts (fun w h => hAW w (inq_5 w h)) hown hK rfl (by decide) (hts _ (hAW _ qw_526)) rfl (by decide +kernel : decode cX5_noteRow 26 = .ok (.getfield 39, 3))))
    (ms_lf (ms_ic_ge hx hb (by decide) (by decide +kernel : decode cX5_noteRow 29 = .ok (.if_icmp .ge 29, 3)))))))))
    (ms_b (ms_b (ms_b (ms_b (ms_lf (ms_aload_n (k := 0) hx hb rfl (by decide +kernel : decode cX5_noteRow 32 = .ok (.aload_n 0, 1))))
    (ms_lf (ms_getf (C := RX5) (T := TX5) (N := 11) hx hb hf hts (fun w h => hAW w (inq_5 w h)) hown hK rfl (by decide) (hts _ (hAW _ qw_524)) rfl (by decide +kernel : decode cX5_noteRow 33 = .ok (.getfield 25, 3)))))
    (ms_b (ms_lf (ms_iload_n (k := 2) hx hb rfl (by decide +kernel : decode cX5_noteRow 36 = .ok (.iload_n 2, 1))))
    (ms_lf (ms_bipush hx hb (by decide) (by decide +kernel : decode cX5_noteRow 37 = .ok (.bipush 10, 2))))))
    (ms_b (ms_b (ms_lf (ms_imul hx hb (by decide +kernel : decode cX5_noteRow 39 = .ok (.imul, 1))))
    (ms_lf (ms_aload_n (k := 0) hx hb rfl (by decide +kernel : decode cX5_noteRow 40 = .ok (.aload_n 0, 1)))))
    (ms_b (ms_lf (ms_getf (C := RX5) (T := TX5) (N := 11) hx hb hf hts (fun w h => hAW w (inq_5 w h)) hown hK rfl (by decide) (hts _ (hAW _ qw_523)) rfl (by decide +kernel : decode cX5_noteRow 41 = .ok (.getfield 22, 3))))
    (ms_b (ms_lf (ms_iload_n (k := 2) hx hb rfl (by decide +kernel : decode cX5_noteRow 44 = .ok (.iload_n 2, 1))))
    (ms_lf (ms_iald hx hb hf hA hX (by decide +kernel : decode cX5_noteRow 45 = .ok (.iaload, 1))))))))
    (ms_b (ms_b (ms_b (ms_lf (ms_iadd hx hb (by decide +kernel : decode cX5_noteRow 46 = .ok (.iadd, 1))))
    (ms_lf (ms_dup2 hx hb (by decide +kernel : decode cX5_noteRow 47 = .ok (.dup2, 1)))))
    (ms_b (ms_lf (ms_iald hx hb hf hA hX (by decide +kernel : decode cX5_noteRow 48 = .ok (.iaload, 1))))
    (ms_lf (ms_iconst hx hb (by decide) (by decide +kernel : decode cX5_noteRow 49 = .ok (.iconst 1, 1))))))
    (ms_b (ms_b (ms_lf (ms_iadd hx hb (by decide +kernel : decode cX5_noteRow 50 = .ok (.iadd, 1))))
    (ms_lf (ms_iast hx hb hf hA (by decide +kernel : decode cX5_noteRow 51 = .ok (.iastore, 1)))))
    (ms_b (ms_lf (ms_iinc hx hb (by decide) (by decide : 2 < 3) (by decide +kernel : decode cX5_noteRow 52 = .ok (.iinc 2 1, 3))))
    (ms_b (ms_lf (ms_goto hx hb (by decide) (by decide +kernel : decode cX5_noteRow 55 = .ok (.goto (-31), 3))))
    (ms_lf (ms_ret hx hb hr hlk (by decide +kernel : decode cX5_noteRow 58 = .ok (.return_, 1))))))))))
set_option maxRecDepth 100000 in
set_option maxHeartbeats 8000000 in
/-- TippedCrates$Rows.bestToHear -/
theorem sd_62 (l : Launch) (f : Nat → Nat) (D : va_G) (cA : FieldType → ClassId) (d : Nat) : mm_Ok2 l f D cA d (yX5_bestToHear, cX5_bestToHear, 6, (some .int), mc_62) := by
  intro p e R s m args below meth c C hRf hRl pc
  obtain ⟨hx, hb, hml, hr, hlk, hnm, hown, hts, hEX, hgo, hf⟩ := C
  obtain ⟨hK, hA, hX, hZs, hZc, hZq, hTx, hSR0, hSR1, hAO, hN⟩ := id hEX
  have hAW : ∀ w ∈ mm_AW, w ∈ (Cond.code yX5_bestToHear cX5_bestToHear 6 (some .int) :: mm_AW) := fun w h => List.mem_cons_of_mem _ h
  have hown : s.vm.findClass "TippedCrates$Rows" = some m.cls := hown
  show mm_S p l e R s m args below meth c f D mm_cl cA 6 _ pc (mc_62 pc)
  unfold mc_62
  exact (ms_b (ms_b (ms_b (ms_b (ms_lf (ms_aload_n (k := 0) hx hb rfl (by decide +kernel : decode cX5_bestToHear 0 = .ok (.aload_n 0, 1))))
    (ms_b (ms_lf (ms_getf (C := RX5) (T := TX5) (N := 11) hx hb hf hts (fun w h => hAW w (inq_5 w h)) hown hK rfl (by decide) (hts _ (hAW _ qw_515)) rfl (by decide +kernel : decode cX5_bestToHear 1 = .ok (.getfield 42, 3))))
    (ms_lf (ms_if_ne hx hb (by decide) (by decide +kernel : decode cX5_bestToHear 4 = .ok (.ifCond .ne 6, 3))))))
    (ms_b (ms_b (ms_lf (ms_bipush hx hb (by decide) (by decide +kernel : decode cX5_bestToHear 7 = .ok (.bipush (-2), 2))))
    (ms_lf (ms_iret hx hb hr hlk (by decide +kernel : decode cX5_bestToHear 9 = .ok (.ireturn, 1)))))
    (ms_b (ms_lf (ms_iconst hx hb (by decide) (by decide +kernel : decode cX5_bestToHear 10 = .ok (.iconst (-1), 1))))
    (ms_lf (ms_istore_n (k := 2) hx hb rfl (by decide : 2 < 6) (by decide +kernel : decode cX5_bestToHear 11 = .ok (.istore_n 2, 1)))))))
    (ms_b (ms_b (ms_lf (ms_sipush hx hb (by decide) (by decide +kernel : decode cX5_bestToHear 12 = .ok (.sipush 1025, 3))))
    (ms_b (ms_lf (ms_istore_n (k := 3) hx hb rfl (by decide : 3 < 6) (by decide +kernel : decode cX5_bestToHear 15 = .ok (.istore_n 3, 1))))
    (ms_lf (ms_iconst hx hb (by decide) (by decide +kernel : decode cX5_bestToHear 16 = .ok (.iconst 1, 1))))))
    (ms_b (ms_b (ms_lf (ms_istore hx hb (by decide : 4 < 6) (by decide +kernel : decode cX5_bestToHear 17 = .ok (.istore 4, 2))))
    (ms_lf (ms_iload hx hb (by decide +kernel : decode cX5_bestToHear 19 = .ok (.iload 4, 2)))))
    (ms_b (ms_lf (ms_iload_n (k := 1) hx hb rfl (by decide +kernel : decode cX5_bestToHear 21 = .ok (.iload_n 1, 1))))
    (ms_lf (ms_ic_gt hx hb (by decide) (by decide +kernel : decode cX5_bestToHear 22 = .ok (.if_icmp .gt 29, 3))))))))
    (ms_b (ms_b (ms_b (ms_lf (ms_aload_n (k := 0) hx hb rfl (by decide +kernel : decode cX5_bestToHear 25 = .ok (.aload_n 0, 1))))
    (ms_b (ms_lf (ms_iload hx hb (by decide +kernel : decode cX5_bestToHear 26 = .ok (.iload 4, 2))))
    (ms_lf (ms_ivV (C := RX5) (T := TX5) (N := 11) hx hb hml hown hts hgo hEX hf hK rfl (mm_GV hAW (mm_GI hAW gi_63) qw_1316 qw_1318 qw_42 qw_131) rfl ⟨rfl, hd_63⟩ (mm_rm hRf hRl (Nat.le_of_ble_eq_true rfl)) (by decide +kernel : decode cX5_bestToHear 28 = .ok (.invokevirtual 79, 3))))))
    (ms_b (ms_b (ms_lf (ms_istore hx hb (by decide : 5 < 6) (by decide +kernel : decode cX5_bestToHear 31 = .ok (.istore 5, 2))))
    (ms_lf (ms_iload hx hb (by decide +kernel : decode cX5_bestToHear 33 = .ok (.iload 5, 2)))))
    (ms_b (ms_lf (ms_iload_n (k := 3) hx hb rfl (by decide +kernel : decode cX5_bestToHear 35 = .ok (.iload_n 3, 1))))
    (ms_lf (ms_ic_ge hx hb (by decide) (by decide +kernel : decode cX5_bestToHear 36 = .ok (.if_icmp .ge 9, 3)))))))
    (ms_b (ms_b (ms_b (ms_lf (ms_iload hx hb (by decide +kernel : decode cX5_bestToHear 39 = .ok (.iload 5, 2))))
    (ms_lf (ms_istore_n (k := 3) hx hb rfl (by decide : 3 < 6) (by decide +kernel : decode cX5_bestToHear 41 = .ok (.istore_n 3, 1)))))
    (ms_b (ms_lf (ms_iload hx hb (by decide +kernel : decode cX5_bestToHear 42 = .ok (.iload 4, 2))))
    (ms_lf (ms_istore_n (k := 2) hx hb rfl (by decide : 2 < 6) (by decide +kernel : decode cX5_bestToHear 44 = .ok (.istore_n 2, 1))))))
    (ms_b (ms_b (ms_lf (ms_iinc hx hb (by decide) (by decide : 4 < 6) (by decide +kernel : decode cX5_bestToHear 45 = .ok (.iinc 4 1, 3))))
    (ms_lf (ms_goto hx hb (by decide) (by decide +kernel : decode cX5_bestToHear 48 = .ok (.goto (-29), 3)))))
    (ms_b (ms_lf (ms_iload_n (k := 2) hx hb rfl (by decide +kernel : decode cX5_bestToHear 51 = .ok (.iload_n 2, 1))))
    (ms_lf (ms_iret hx hb hr hlk (by decide +kernel : decode cX5_bestToHear 52 = .ok (.ireturn, 1)))))))))
set_option maxRecDepth 100000 in
set_option maxHeartbeats 8000000 in
/-- TippedCrates$Rows.worstLeft -/
theorem sd_63 (l : Launch) (f : Nat → Nat) (D : va_G) (cA : FieldType → ClassId) (d : Nat) : mm_Ok2 l f D cA d (yX5_worstLeft, cX5_worstLeft, 4, (some .int), mc_63) := by
  intro p e R s m args below meth c C hRf hRl pc
  obtain ⟨hx, hb, hml, hr, hlk, hnm, hown, hts, hEX, hgo, hf⟩ := C
  obtain ⟨hK, hA, hX, hZs, hZc, hZq, hTx, hSR0, hSR1, hAO, hN⟩ := id hEX
  have hAW : ∀ w ∈ mm_AW, w ∈ (Cond.code yX5_worstLeft cX5_worstLeft 4 (some .int) :: mm_AW) := fun w h => List.mem_cons_of_mem _ h
  have hown : s.vm.findClass "TippedCrates$Rows" = some m.cls := hown
  show mm_S p l e R s m args below meth c f D mm_cl cA 4 _ pc (mc_63 pc)
  unfold mc_63
  exact (ms_b (ms_b (ms_b (ms_b (ms_lf (ms_iconst hx hb (by decide) (by decide +kernel : decode cX5_worstLeft 0 = .ok (.iconst 0, 1))))
    (ms_b (ms_lf (ms_istore_n (k := 2) hx hb rfl (by decide : 2 < 4) (by decide +kernel : decode cX5_worstLeft 1 = .ok (.istore_n 2, 1))))
    (ms_lf (ms_iconst hx hb (by decide) (by decide +kernel : decode cX5_worstLeft 2 = .ok (.iconst 0, 1))))))
    (ms_b (ms_lf (ms_istore_n (k := 3) hx hb rfl (by decide : 3 < 4) (by decide +kernel : decode cX5_worstLeft 3 = .ok (.istore_n 3, 1))))
    (ms_b (ms_lf (ms_iload_n (k := 3) hx hb rfl (by decide +kernel : decode cX5_worstLeft 4 = .ok (.iload_n 3, 1))))
    (ms_lf (ms_bipush hx hb (by decide) (by decide +kernel : decode cX5_worstLeft 5 = .ok (.bipush 9, 2)))))))
    (ms_b (ms_b (ms_lf (ms_ic_gt hx hb (by decide) (by decide +kernel : decode cX5_worstLeft 7 = .ok (.if_icmp .gt 27, 3))))
    (ms_b (ms_lf (ms_iload_n (k := 2) hx hb rfl (by decide +kernel : decode cX5_worstLeft 10 = .ok (.iload_n 2, 1))))
    (ms_lf (ms_aload_n (k := 0) hx hb rfl (by decide +kernel : decode cX5_worstLeft 11 = .ok (.aload_n 0, 1))))))
    (ms_b (ms_lf (ms_getf (C := RX5) (T := TX5) (N := 11) hx hb hf hts (fun w h => hAW w (inq_5 w h)) hown hK rfl (by decide) (hts _ (hAW _ qw_524)) rfl (by decide +kernel : decode cX5_worstLeft 12 = .ok (.getfield 25, 3))))
    (ms_b (ms_lf (ms_iload_n (k := 1) hx hb rfl (by decide +kernel : decode cX5_worstLeft 15 = .ok (.iload_n 1, 1))))
    (ms_lf (ms_iconst hx hb (by decide) (by decide +kernel : decode cX5_worstLeft 16 = .ok (.iconst 1, 1))))))))
    (ms_b (ms_b (ms_b (ms_lf (ms_isub hx hb (by decide +kernel : decode cX5_worstLeft 17 = .ok (.isub, 1))))
    (ms_b (ms_lf (ms_bipush hx hb (by decide) (by decide +kernel : decode cX5_worstLeft 18 = .ok (.bipush 10, 2))))
    (ms_lf (ms_imul hx hb (by decide +kernel : decode cX5_worstLeft 20 = .ok (.imul, 1))))))
    (ms_b (ms_lf (ms_iload_n (k := 3) hx hb rfl (by decide +kernel : decode cX5_worstLeft 21 = .ok (.iload_n 3, 1))))
    (ms_b (ms_lf (ms_iadd hx hb (by decide +kernel : decode cX5_worstLeft 22 = .ok (.iadd, 1))))
    (ms_lf (ms_iald hx hb hf hA hX (by decide +kernel : decode cX5_worstLeft 23 = .ok (.iaload, 1)))))))
    (ms_b (ms_b (ms_lf (ms_mmax hx hb hml hown (hts _ (hAW _ qw_1320)) (hts _ (hAW _ qw_688)) (hts _ (hAW _ qw_134)) (hts _ (hAW _ qw_689)) (by omega) (by omega) (by decide +kernel : decode cX5_worstLeft 24 = .ok (.invokestatic 82, 3))))
    (ms_b (ms_lf (ms_istore_n (k := 2) hx hb rfl (by decide : 2 < 4) (by decide +kernel : decode cX5_worstLeft 27 = .ok (.istore_n 2, 1))))
    (ms_lf (ms_iinc hx hb (by decide) (by decide : 3 < 4) (by decide +kernel : decode cX5_worstLeft 28 = .ok (.iinc 3 1, 3))))))
    (ms_b (ms_lf (ms_goto hx hb (by decide) (by decide +kernel : decode cX5_worstLeft 31 = .ok (.goto (-27), 3))))
    (ms_b (ms_lf (ms_iload_n (k := 2) hx hb rfl (by decide +kernel : decode cX5_worstLeft 34 = .ok (.iload_n 2, 1))))
    (ms_lf (ms_iret hx hb hr hlk (by decide +kernel : decode cX5_worstLeft 35 = .ok (.ireturn, 1)))))))))
set_option maxRecDepth 100000 in
set_option maxHeartbeats 8000000 in
/-- TippedCrates$Rows.spellings -/
theorem sd_64 (l : Launch) (f : Nat → Nat) (D : va_G) (cA : FieldType → ClassId) (d : Nat) : mm_Ok2 l f D cA d (yX5_spellings, cX5_spellings, 3, (some .int), mc_64) := by
  intro p e R s m args below meth c C hRf hRl pc
  obtain ⟨hx, hb, hml, hr, hlk, hnm, hown, hts, hEX, hgo, hf⟩ := C
  obtain ⟨hK, hA, hX, hZs, hZc, hZq, hTx, hSR0, hSR1, hAO, hN⟩ := id hEX
  have hAW : ∀ w ∈ mm_AW, w ∈ (Cond.code yX5_spellings cX5_spellings 3 (some .int) :: mm_AW) := fun w h => List.mem_cons_of_mem _ h
  have hown : s.vm.findClass "TippedCrates$Rows" = some m.cls := hown
  show mm_S p l e R s m args below meth c f D mm_cl cA 3 _ pc (mc_64 pc)
  unfold mc_64
  exact (ms_b (ms_b (ms_b (ms_lf (ms_aload_n (k := 0) hx hb rfl (by decide +kernel : decode cX5_spellings 0 = .ok (.aload_n 0, 1))))
    (ms_lf (ms_aload_n (k := 0) hx hb rfl (by decide +kernel : decode cX5_spellings 1 = .ok (.aload_n 0, 1)))))
    (ms_b (ms_lf (ms_getf (C := RX5) (T := TX5) (N := 11) hx hb hf hts (fun w h => hAW w (inq_5 w h)) hown hK rfl (by decide) (hts _ (hAW _ qw_519)) rfl (by decide +kernel : decode cX5_spellings 2 = .ok (.getfield 28, 3))))
    (ms_lf (ms_getf (C := RX6) (T := TX6) (N := 5) hx hb hf hts (fun w h => hAW w (inq_6 w h)) hown hK rfl (by decide) (hts _ (hAW _ qw_445)) rfl (by decide +kernel : decode cX5_spellings 5 = .ok (.getfield 54, 3))))))
    (ms_b (ms_b (ms_lf (ms_iload_n (k := 1) hx hb rfl (by decide +kernel : decode cX5_spellings 8 = .ok (.iload_n 1, 1))))
    (ms_lf (ms_iload_n (k := 2) hx hb rfl (by decide +kernel : decode cX5_spellings 9 = .ok (.iload_n 2, 1)))))
    (ms_b (ms_lf (ms_ivV (C := RX5) (T := TX5) (N := 11) hx hb hml hown hts hgo hEX hf hK rfl (mm_GV hAW (mm_GI hAW gi_65) qw_1168 qw_1170 qw_34 qw_131) rfl ⟨rfl, hd_65⟩ (mm_rm hRf hRl (Nat.le_of_ble_eq_true rfl)) (by decide +kernel : decode cX5_spellings 10 = .ok (.invokevirtual 87, 3))))
    (ms_lf (ms_iret hx hb hr hlk (by decide +kernel : decode cX5_spellings 13 = .ok (.ireturn, 1)))))))
set_option maxRecDepth 100000 in
set_option maxHeartbeats 8000000 in
/-- TippedCrates$Rows.spellFrom -/
theorem sd_65 (l : Launch) (f : Nat → Nat) (D : va_G) (cA : FieldType → ClassId) (d : Nat) : mm_Ok2 l f D cA d (yX5_spellFrom, cX5_spellFrom, 9, (some .int), mc_65) := by
  intro p e R s m args below meth c C hRf hRl pc
  obtain ⟨hx, hb, hml, hr, hlk, hnm, hown, hts, hEX, hgo, hf⟩ := C
  obtain ⟨hK, hA, hX, hZs, hZc, hZq, hTx, hSR0, hSR1, hAO, hN⟩ := id hEX
  have hAW : ∀ w ∈ mm_AW, w ∈ (Cond.code yX5_spellFrom cX5_spellFrom 9 (some .int) :: mm_AW) := fun w h => List.mem_cons_of_mem _ h
  have hown : s.vm.findClass "TippedCrates$Rows" = some m.cls := hown
  show mm_S p l e R s m args below meth c f D mm_cl cA 9 _ pc (mc_65 pc)
  unfold mc_65
  exact (ms_b (ms_b (ms_b (ms_b (ms_b (ms_lf (ms_iload_n (k := 3) hx hb rfl (by decide +kernel : decode cX5_spellFrom 0 = .ok (.iload_n 3, 1))))
    (ms_b (ms_lf (ms_iconst hx hb (by decide) (by decide +kernel : decode cX5_spellFrom 1 = .ok (.iconst 1, 1))))
    (ms_lf (ms_ic_lt hx hb (by decide) (by decide +kernel : decode cX5_spellFrom 2 = .ok (.if_icmp .lt 9, 3))))))
    (ms_b (ms_b (ms_lf (ms_iload_n (k := 3) hx hb rfl (by decide +kernel : decode cX5_spellFrom 5 = .ok (.iload_n 3, 1))))
    (ms_lf (ms_bipush hx hb (by decide) (by decide +kernel : decode cX5_spellFrom 6 = .ok (.bipush 6, 2)))))
    (ms_b (ms_lf (ms_ic_le hx hb (by decide) (by decide +kernel : decode cX5_spellFrom 8 = .ok (.if_icmp .le 5, 3))))
    (ms_lf (ms_iconst hx hb (by decide) (by decide +kernel : decode cX5_spellFrom 11 = .ok (.iconst 1, 1)))))))
    (ms_b (ms_b (ms_b (ms_lf (ms_iret hx hb hr hlk (by decide +kernel : decode cX5_spellFrom 12 = .ok (.ireturn, 1))))
    (ms_lf (ms_iload_n (k := 2) hx hb rfl (by decide +kernel : decode cX5_spellFrom 13 = .ok (.iload_n 2, 1)))))
    (ms_b (ms_lf (ms_gsN hx hb hown (hZs 4 _ rfl) (va_Nw.use rfl (hN.2.2.2.2.2.2.2.2.2.2.2.2.1)) rfl (by decide +kernel : decode cX5_spellFrom 14 = .ok (.getstatic 91, 3))))
    (ms_lf (ms_iload_n (k := 3) hx hb rfl (by decide +kernel : decode cX5_spellFrom 17 = .ok (.iload_n 3, 1))))))
    (ms_b (ms_b (ms_lf (ms_iconst hx hb (by decide) (by decide +kernel : decode cX5_spellFrom 18 = .ok (.iconst 1, 1))))
    (ms_lf (ms_isub hx hb (by decide +kernel : decode cX5_spellFrom 19 = .ok (.isub, 1)))))
    (ms_b (ms_lf (ms_iald hx hb hf hA hX (by decide +kernel : decode cX5_spellFrom 20 = .ok (.iaload, 1))))
    (ms_lf (ms_idiv hx hb (by decide +kernel : decode cX5_spellFrom 21 = .ok (.idiv, 1))))))))
    (ms_b (ms_b (ms_b (ms_lf (ms_istore hx hb (by decide : 4 < 9) (by decide +kernel : decode cX5_spellFrom 22 = .ok (.istore 4, 2))))
    (ms_b (ms_lf (ms_iload_n (k := 2) hx hb rfl (by decide +kernel : decode cX5_spellFrom 24 = .ok (.iload_n 2, 1))))
    (ms_lf (ms_gsN hx hb hown (hZs 4 _ rfl) (va_Nw.use rfl (hN.2.2.2.2.2.2.2.2.2.2.2.2.1)) rfl (by decide +kernel : decode cX5_spellFrom 25 = .ok (.getstatic 91, 3))))))
    (ms_b (ms_b (ms_lf (ms_iload_n (k := 3) hx hb rfl (by decide +kernel : decode cX5_spellFrom 28 = .ok (.iload_n 3, 1))))
    (ms_lf (ms_iconst hx hb (by decide) (by decide +kernel : decode cX5_spellFrom 29 = .ok (.iconst 1, 1)))))
    (ms_b (ms_lf (ms_isub hx hb (by decide +kernel : decode cX5_spellFrom 30 = .ok (.isub, 1))))
    (ms_lf (ms_iald hx hb hf hA hX (by decide +kernel : decode cX5_spellFrom 31 = .ok (.iaload, 1)))))))
    (ms_b (ms_b (ms_b (ms_lf (ms_irem hx hb (by decide +kernel : decode cX5_spellFrom 32 = .ok (.irem, 1))))
    (ms_lf (ms_istore hx hb (by decide : 5 < 9) (by decide +kernel : decode cX5_spellFrom 33 = .ok (.istore 5, 2)))))
    (ms_b (ms_lf (ms_iconst hx hb (by decide) (by decide +kernel : decode cX5_spellFrom 35 = .ok (.iconst 0, 1))))
    (ms_lf (ms_istore hx hb (by decide : 6 < 9) (by decide +kernel : decode cX5_spellFrom 36 = .ok (.istore 6, 2))))))
    (ms_b (ms_b (ms_lf (ms_iconst hx hb (by decide) (by decide +kernel : decode cX5_spellFrom 38 = .ok (.iconst 0, 1))))
    (ms_lf (ms_istore hx hb (by decide : 7 < 9) (by decide +kernel : decode cX5_spellFrom 39 = .ok (.istore 7, 2)))))
    (ms_b (ms_lf (ms_iload hx hb (by decide +kernel : decode cX5_spellFrom 41 = .ok (.iload 7, 2))))
    (ms_lf (ms_iconst hx hb (by decide) (by decide +kernel : decode cX5_spellFrom 43 = .ok (.iconst 4, 1)))))))))
    (ms_b (ms_b (ms_b (ms_b (ms_lf (ms_ic_ge hx hb (by decide) (by decide +kernel : decode cX5_spellFrom 44 = .ok (.if_icmp .ge 57, 3))))
    (ms_b (ms_lf (ms_aload_n (k := 0) hx hb rfl (by decide +kernel : decode cX5_spellFrom 47 = .ok (.aload_n 0, 1))))
    (ms_lf (ms_getf (C := RX5) (T := TX5) (N := 11) hx hb hf hts (fun w h => hAW w (inq_5 w h)) hown hK rfl (by decide) (hts _ (hAW _ qw_519)) rfl (by decide +kernel : decode cX5_spellFrom 48 = .ok (.getfield 28, 3))))))
    (ms_b (ms_b (ms_lf (ms_iload_n (k := 1) hx hb rfl (by decide +kernel : decode cX5_spellFrom 51 = .ok (.iload_n 1, 1))))
    (ms_lf (ms_iload hx hb (by decide +kernel : decode cX5_spellFrom 52 = .ok (.iload 7, 2)))))
    (ms_b (ms_lf (ms_ivV (C := RX6) (T := TX6) (N := 5) hx hb hml hown hts hgo hEX hf hK rfl (mm_GV hAW (mm_GI hAW gi_71) qw_1173 qw_1066 qw_1067 qw_129) rfl ⟨rfl, hd_71⟩ (mm_rm hRf hRl (Nat.le_of_ble_eq_true rfl)) (by decide +kernel : decode cX5_spellFrom 54 = .ok (.invokevirtual 67, 3))))
    (ms_lf (ms_istore hx hb (by decide : 8 < 9) (by decide +kernel : decode cX5_spellFrom 57 = .ok (.istore 8, 2)))))))
    (ms_b (ms_b (ms_b (ms_lf (ms_iload hx hb (by decide +kernel : decode cX5_spellFrom 59 = .ok (.iload 8, 2))))
    (ms_lf (ms_iconst hx hb (by decide) (by decide +kernel : decode cX5_spellFrom 61 = .ok (.iconst (-1), 1)))))
    (ms_b (ms_lf (ms_ic_eq hx hb (by decide) (by decide +kernel : decode cX5_spellFrom 62 = .ok (.if_icmp .eq 33, 3))))
    (ms_lf (ms_aload_n (k := 0) hx hb rfl (by decide +kernel : decode cX5_spellFrom 65 = .ok (.aload_n 0, 1))))))
    (ms_b (ms_b (ms_lf (ms_getf (C := RX5) (T := TX5) (N := 11) hx hb hf hts (fun w h => hAW w (inq_5 w h)) hown hK rfl (by decide) (hts _ (hAW _ qw_519)) rfl (by decide +kernel : decode cX5_spellFrom 66 = .ok (.getfield 28, 3))))
    (ms_lf (ms_iload hx hb (by decide +kernel : decode cX5_spellFrom 69 = .ok (.iload 8, 2)))))
    (ms_b (ms_lf (ms_ivV (C := RX6) (T := TX6) (N := 5) hx hb hml hown hts hgo hEX hf hK rfl (mm_GV hAW (mm_GI hAW gi_73) qw_1174 qw_1104 qw_1105 qw_129) rfl ⟨rfl, hd_73⟩ (mm_rm hRf hRl (Nat.le_of_ble_eq_true rfl)) (by decide +kernel : decode cX5_spellFrom 71 = .ok (.invokevirtual 71, 3))))
    (ms_lf (ms_iload hx hb (by decide +kernel : decode cX5_spellFrom 74 = .ok (.iload 4, 2))))))))
    (ms_b (ms_b (ms_b (ms_lf (ms_ic_ne hx hb (by decide) (by decide +kernel : decode cX5_spellFrom 76 = .ok (.if_icmp .ne 19, 3))))
    (ms_b (ms_lf (ms_iload hx hb (by decide +kernel : decode cX5_spellFrom 79 = .ok (.iload 6, 2))))
    (ms_lf (ms_aload_n (k := 0) hx hb rfl (by decide +kernel : decode cX5_spellFrom 81 = .ok (.aload_n 0, 1))))))
    (ms_b (ms_b (ms_lf (ms_iload hx hb (by decide +kernel : decode cX5_spellFrom 82 = .ok (.iload 8, 2))))
    (ms_lf (ms_iload hx hb (by decide +kernel : decode cX5_spellFrom 84 = .ok (.iload 5, 2)))))
    (ms_b (ms_lf (ms_iload_n (k := 3) hx hb rfl (by decide +kernel : decode cX5_spellFrom 86 = .ok (.iload_n 3, 1))))
    (ms_lf (ms_iconst hx hb (by decide) (by decide +kernel : decode cX5_spellFrom 87 = .ok (.iconst 1, 1)))))))
    (ms_b (ms_b (ms_b (ms_lf (ms_isub hx hb (by decide +kernel : decode cX5_spellFrom 88 = .ok (.isub, 1))))
    (ms_lf (ms_ivV (C := RX5) (T := TX5) (N := 11) hx hb hml hown hts hgo hEX hf hK rfl (mm_GV hAW (mm_GI hAW gi_65) qw_1168 qw_1170 qw_34 qw_131) rfl ⟨rfl, hd_65⟩ (mm_rm hRf hRl (Nat.le_of_ble_eq_true rfl)) (by decide +kernel : decode cX5_spellFrom 89 = .ok (.invokevirtual 87, 3)))))
    (ms_b (ms_lf (ms_iadd hx hb (by decide +kernel : decode cX5_spellFrom 92 = .ok (.iadd, 1))))
    (ms_lf (ms_istore hx hb (by decide : 6 < 9) (by decide +kernel : decode cX5_spellFrom 93 = .ok (.istore 6, 2))))))
    (ms_b (ms_b (ms_lf (ms_iinc hx hb (by decide) (by decide : 7 < 9) (by decide +kernel : decode cX5_spellFrom 95 = .ok (.iinc 7 1, 3))))
    (ms_lf (ms_goto hx hb (by decide) (by decide +kernel : decode cX5_spellFrom 98 = .ok (.goto (-57), 3)))))
    (ms_b (ms_lf (ms_iload hx hb (by decide +kernel : decode cX5_spellFrom 101 = .ok (.iload 6, 2))))
    (ms_lf (ms_iret hx hb hr hlk (by decide +kernel : decode cX5_spellFrom 103 = .ok (.ireturn, 1))))))))))
set_option maxRecDepth 100000 in
set_option maxHeartbeats 8000000 in
/-- TippedCrates$Rows.endOfGame -/
theorem sd_66 (l : Launch) (f : Nat → Nat) (D : va_G) (cA : FieldType → ClassId) (d : Nat) : mm_Ok2 l f D cA d (yX5_endOfGame, cX5_endOfGame, 2, (some .int), mc_66) := by
  intro p e R s m args below meth c C hRf hRl pc
  obtain ⟨hx, hb, hml, hr, hlk, hnm, hown, hts, hEX, hgo, hf⟩ := C
  obtain ⟨hK, hA, hX, hZs, hZc, hZq, hTx, hSR0, hSR1, hAO, hN⟩ := id hEX
  have hAW : ∀ w ∈ mm_AW, w ∈ (Cond.code yX5_endOfGame cX5_endOfGame 2 (some .int) :: mm_AW) := fun w h => List.mem_cons_of_mem _ h
  have hown : s.vm.findClass "TippedCrates$Rows" = some m.cls := hown
  show mm_S p l e R s m args below meth c f D mm_cl cA 2 _ pc (mc_66 pc)
  unfold mc_66
  exact (ms_b (ms_b (ms_b (ms_lf (ms_aload_n (k := 0) hx hb rfl (by decide +kernel : decode cX5_endOfGame 0 = .ok (.aload_n 0, 1))))
    (ms_lf (ms_aload_n (k := 0) hx hb rfl (by decide +kernel : decode cX5_endOfGame 1 = .ok (.aload_n 0, 1)))))
    (ms_b (ms_lf (ms_getf (C := RX5) (T := TX5) (N := 11) hx hb hf hts (fun w h => hAW w (inq_5 w h)) hown hK rfl (by decide) (hts _ (hAW _ qw_519)) rfl (by decide +kernel : decode cX5_endOfGame 2 = .ok (.getfield 28, 3))))
    (ms_lf (ms_getf (C := RX6) (T := TX6) (N := 5) hx hb hf hts (fun w h => hAW w (inq_6 w h)) hown hK rfl (by decide) (hts _ (hAW _ qw_445)) rfl (by decide +kernel : decode cX5_endOfGame 5 = .ok (.getfield 54, 3))))))
    (ms_b (ms_b (ms_lf (ms_iload_n (k := 1) hx hb rfl (by decide +kernel : decode cX5_endOfGame 8 = .ok (.iload_n 1, 1))))
    (ms_lf (ms_iconst hx hb (by decide) (by decide +kernel : decode cX5_endOfGame 9 = .ok (.iconst 1, 1)))))
    (ms_b (ms_lf (ms_ivV (C := RX5) (T := TX5) (N := 11) hx hb hml hown hts hgo hEX hf hK rfl (mm_GV hAW (mm_GI hAW gi_68) qw_1183 qw_1185 qw_35 qw_131) rfl ⟨rfl, hd_68⟩ (mm_rm hRf hRl (Nat.le_of_ble_eq_true rfl)) (by decide +kernel : decode cX5_endOfGame 10 = .ok (.invokevirtual 94, 3))))
    (ms_lf (ms_iret hx hb hr hlk (by decide +kernel : decode cX5_endOfGame 13 = .ok (.ireturn, 1)))))))
set_option maxRecDepth 100000 in
set_option maxHeartbeats 8000000 in
/-- TippedCrates$Rows.openingWay -/
theorem sd_67 (l : Launch) (f : Nat → Nat) (D : va_G) (cA : FieldType → ClassId) (d : Nat) : mm_Ok2 l f D cA d (yX5_openingWay, cX5_openingWay, 5, (some .int), mc_67) := by
  intro p e R s m args below meth c C hRf hRl pc
  obtain ⟨hx, hb, hml, hr, hlk, hnm, hown, hts, hEX, hgo, hf⟩ := C
  obtain ⟨hK, hA, hX, hZs, hZc, hZq, hTx, hSR0, hSR1, hAO, hN⟩ := id hEX
  have hAW : ∀ w ∈ mm_AW, w ∈ (Cond.code yX5_openingWay cX5_openingWay 5 (some .int) :: mm_AW) := fun w h => List.mem_cons_of_mem _ h
  have hown : s.vm.findClass "TippedCrates$Rows" = some m.cls := hown
  show mm_S p l e R s m args below meth c f D mm_cl cA 5 _ pc (mc_67 pc)
  unfold mc_67
  exact (ms_b (ms_b (ms_b (ms_b (ms_lf (ms_iconst hx hb (by decide) (by decide +kernel : decode cX5_openingWay 0 = .ok (.iconst 0, 1))))
    (ms_b (ms_lf (ms_istore_n (k := 3) hx hb rfl (by decide : 3 < 5) (by decide +kernel : decode cX5_openingWay 1 = .ok (.istore_n 3, 1))))
    (ms_lf (ms_iload_n (k := 3) hx hb rfl (by decide +kernel : decode cX5_openingWay 2 = .ok (.iload_n 3, 1))))))
    (ms_b (ms_b (ms_lf (ms_iconst hx hb (by decide) (by decide +kernel : decode cX5_openingWay 3 = .ok (.iconst 4, 1))))
    (ms_lf (ms_ic_ge hx hb (by decide) (by decide +kernel : decode cX5_openingWay 4 = .ok (.if_icmp .ge 48, 3)))))
    (ms_b (ms_lf (ms_aload_n (k := 0) hx hb rfl (by decide +kernel : decode cX5_openingWay 7 = .ok (.aload_n 0, 1))))
    (ms_lf (ms_getf (C := RX5) (T := TX5) (N := 11) hx hb hf hts (fun w h => hAW w (inq_5 w h)) hown hK rfl (by decide) (hts _ (hAW _ qw_519)) rfl (by decide +kernel : decode cX5_openingWay 8 = .ok (.getfield 28, 3)))))))
    (ms_b (ms_b (ms_b (ms_lf (ms_aload_n (k := 0) hx hb rfl (by decide +kernel : decode cX5_openingWay 11 = .ok (.aload_n 0, 1))))
    (ms_lf (ms_getf (C := RX5) (T := TX5) (N := 11) hx hb hf hts (fun w h => hAW w (inq_5 w h)) hown hK rfl (by decide) (hts _ (hAW _ qw_519)) rfl (by decide +kernel : decode cX5_openingWay 12 = .ok (.getfield 28, 3)))))
    (ms_b (ms_lf (ms_getf (C := RX6) (T := TX6) (N := 5) hx hb hf hts (fun w h => hAW w (inq_6 w h)) hown hK rfl (by decide) (hts _ (hAW _ qw_445)) rfl (by decide +kernel : decode cX5_openingWay 15 = .ok (.getfield 54, 3))))
    (ms_lf (ms_iload_n (k := 3) hx hb rfl (by decide +kernel : decode cX5_openingWay 18 = .ok (.iload_n 3, 1))))))
    (ms_b (ms_b (ms_lf (ms_ivV (C := RX6) (T := TX6) (N := 5) hx hb hml hown hts hgo hEX hf hK rfl (mm_GV hAW (mm_GI hAW gi_71) qw_1173 qw_1066 qw_1067 qw_129) rfl ⟨rfl, hd_71⟩ (mm_rm hRf hRl (Nat.le_of_ble_eq_true rfl)) (by decide +kernel : decode cX5_openingWay 19 = .ok (.invokevirtual 67, 3))))
    (ms_lf (ms_istore hx hb (by decide : 4 < 5) (by decide +kernel : decode cX5_openingWay 22 = .ok (.istore 4, 2)))))
    (ms_b (ms_lf (ms_iload hx hb (by decide +kernel : decode cX5_openingWay 24 = .ok (.iload 4, 2))))
    (ms_lf (ms_iconst hx hb (by decide) (by decide +kernel : decode cX5_openingWay 26 = .ok (.iconst (-1), 1))))))))
    (ms_b (ms_b (ms_b (ms_b (ms_lf (ms_ic_eq hx hb (by decide) (by decide +kernel : decode cX5_openingWay 27 = .ok (.if_icmp .eq 19, 3))))
    (ms_lf (ms_aload_n (k := 0) hx hb rfl (by decide +kernel : decode cX5_openingWay 30 = .ok (.aload_n 0, 1)))))
    (ms_b (ms_lf (ms_iload hx hb (by decide +kernel : decode cX5_openingWay 31 = .ok (.iload 4, 2))))
    (ms_lf (ms_iload_n (k := 2) hx hb rfl (by decide +kernel : decode cX5_openingWay 33 = .ok (.iload_n 2, 1))))))
    (ms_b (ms_b (ms_lf (ms_iconst hx hb (by decide) (by decide +kernel : decode cX5_openingWay 34 = .ok (.iconst 1, 1))))
    (ms_lf (ms_isub hx hb (by decide +kernel : decode cX5_openingWay 35 = .ok (.isub, 1)))))
    (ms_b (ms_lf (ms_iconst hx hb (by decide) (by decide +kernel : decode cX5_openingWay 36 = .ok (.iconst 0, 1))))
    (ms_lf (ms_ivV (C := RX5) (T := TX5) (N := 11) hx hb hml hown hts hgo hEX hf hK rfl (mm_GV hAW (mm_GI hAW gi_68) qw_1183 qw_1185 qw_35 qw_131) rfl ⟨rfl, hd_68⟩ (mm_rm hRf hRl (Nat.le_of_ble_eq_true rfl)) (by decide +kernel : decode cX5_openingWay 37 = .ok (.invokevirtual 94, 3)))))))
    (ms_b (ms_b (ms_b (ms_lf (ms_iload_n (k := 1) hx hb rfl (by decide +kernel : decode cX5_openingWay 40 = .ok (.iload_n 1, 1))))
    (ms_lf (ms_ic_ne hx hb (by decide) (by decide +kernel : decode cX5_openingWay 41 = .ok (.if_icmp .ne 5, 3)))))
    (ms_b (ms_lf (ms_iload_n (k := 3) hx hb rfl (by decide +kernel : decode cX5_openingWay 44 = .ok (.iload_n 3, 1))))
    (ms_lf (ms_iret hx hb hr hlk (by decide +kernel : decode cX5_openingWay 45 = .ok (.ireturn, 1))))))
    (ms_b (ms_b (ms_lf (ms_iinc hx hb (by decide) (by decide : 3 < 5) (by decide +kernel : decode cX5_openingWay 46 = .ok (.iinc 3 1, 3))))
    (ms_lf (ms_goto hx hb (by decide) (by decide +kernel : decode cX5_openingWay 49 = .ok (.goto (-47), 3)))))
    (ms_b (ms_lf (ms_bipush hx hb (by decide) (by decide +kernel : decode cX5_openingWay 52 = .ok (.bipush (-2), 2))))
    (ms_lf (ms_iret hx hb hr hlk (by decide +kernel : decode cX5_openingWay 54 = .ok (.ireturn, 1)))))))))
set_option maxRecDepth 100000 in
set_option maxHeartbeats 8000000 in
/-- TippedCrates$Rows.playFrom -/
theorem sd_68 (l : Launch) (f : Nat → Nat) (D : va_G) (cA : FieldType → ClassId) (d : Nat) : mm_Ok2 l f D cA d (yX5_playFrom, cX5_playFrom, 8, (some .int), mc_68) := by
  intro p e R s m args below meth c C hRf hRl pc
  obtain ⟨hx, hb, hml, hr, hlk, hnm, hown, hts, hEX, hgo, hf⟩ := C
  obtain ⟨hK, hA, hX, hZs, hZc, hZq, hTx, hSR0, hSR1, hAO, hN⟩ := id hEX
  have hAW : ∀ w ∈ mm_AW, w ∈ (Cond.code yX5_playFrom cX5_playFrom 8 (some .int) :: mm_AW) := fun w h => List.mem_cons_of_mem _ h
  have hown : s.vm.findClass "TippedCrates$Rows" = some m.cls := hown
  show mm_S p l e R s m args below meth c f D mm_cl cA 8 _ pc (mc_68 pc)
  unfold mc_68
  exact (ms_b (ms_b (ms_b (ms_b (ms_b (ms_lf (ms_iconst hx hb (by decide) (by decide +kernel : decode cX5_playFrom 0 = .ok (.iconst (-1), 1))))
    (ms_b (ms_lf (ms_istore hx hb (by decide : 4 < 8) (by decide +kernel : decode cX5_playFrom 1 = .ok (.istore 4, 2))))
    (ms_lf (ms_iconst hx hb (by decide) (by decide +kernel : decode cX5_playFrom 3 = .ok (.iconst 0, 1))))))
    (ms_b (ms_b (ms_lf (ms_istore hx hb (by decide : 5 < 8) (by decide +kernel : decode cX5_playFrom 4 = .ok (.istore 5, 2))))
    (ms_lf (ms_iload hx hb (by decide +kernel : decode cX5_playFrom 6 = .ok (.iload 5, 2)))))
    (ms_b (ms_lf (ms_iconst hx hb (by decide) (by decide +kernel : decode cX5_playFrom 8 = .ok (.iconst 4, 1))))
    (ms_lf (ms_ic_ge hx hb (by decide) (by decide +kernel : decode cX5_playFrom 9 = .ok (.if_icmp .ge 91, 3)))))))
    (ms_b (ms_b (ms_b (ms_lf (ms_iload_n (k := 2) hx hb rfl (by decide +kernel : decode cX5_playFrom 12 = .ok (.iload_n 2, 1))))
    (ms_lf (ms_if_le hx hb (by decide) (by decide +kernel : decode cX5_playFrom 13 = .ok (.ifCond .le 87, 3)))))
    (ms_b (ms_lf (ms_iload_n (k := 2) hx hb rfl (by decide +kernel : decode cX5_playFrom 16 = .ok (.iload_n 2, 1))))
    (ms_lf (ms_bipush hx hb (by decide) (by decide +kernel : decode cX5_playFrom 17 = .ok (.bipush 6, 2))))))
    (ms_b (ms_b (ms_lf (ms_ic_gt hx hb (by decide) (by decide +kernel : decode cX5_playFrom 19 = .ok (.if_icmp .gt 81, 3))))
    (ms_lf (ms_aload_n (k := 0) hx hb rfl (by decide +kernel : decode cX5_playFrom 22 = .ok (.aload_n 0, 1)))))
    (ms_b (ms_lf (ms_getf (C := RX5) (T := TX5) (N := 11) hx hb hf hts (fun w h => hAW w (inq_5 w h)) hown hK rfl (by decide) (hts _ (hAW _ qw_519)) rfl (by decide +kernel : decode cX5_playFrom 23 = .ok (.getfield 28, 3))))
    (ms_lf (ms_iload_n (k := 1) hx hb rfl (by decide +kernel : decode cX5_playFrom 26 = .ok (.iload_n 1, 1))))))))
    (ms_b (ms_b (ms_b (ms_lf (ms_iload hx hb (by decide +kernel : decode cX5_playFrom 27 = .ok (.iload 5, 2))))
    (ms_b (ms_lf (ms_ivV (C := RX6) (T := TX6) (N := 5) hx hb hml hown hts hgo hEX hf hK rfl (mm_GV hAW (mm_GI hAW gi_71) qw_1173 qw_1066 qw_1067 qw_129) rfl ⟨rfl, hd_71⟩ (mm_rm hRf hRl (Nat.le_of_ble_eq_true rfl)) (by decide +kernel : decode cX5_playFrom 29 = .ok (.invokevirtual 67, 3))))
    (ms_lf (ms_istore hx hb (by decide : 6 < 8) (by decide +kernel : decode cX5_playFrom 32 = .ok (.istore 6, 2))))))
    (ms_b (ms_b (ms_lf (ms_iload hx hb (by decide +kernel : decode cX5_playFrom 34 = .ok (.iload 6, 2))))
    (ms_lf (ms_iconst hx hb (by decide) (by decide +kernel : decode cX5_playFrom 36 = .ok (.iconst (-1), 1)))))
    (ms_b (ms_lf (ms_ic_ne hx hb (by decide) (by decide +kernel : decode cX5_playFrom 37 = .ok (.if_icmp .ne 6, 3))))
    (ms_lf (ms_goto hx hb (by decide) (by decide +kernel : decode cX5_playFrom 40 = .ok (.goto 54, 3)))))))
    (ms_b (ms_b (ms_b (ms_lf (ms_aload_n (k := 0) hx hb rfl (by decide +kernel : decode cX5_playFrom 43 = .ok (.aload_n 0, 1))))
    (ms_lf (ms_iload hx hb (by decide +kernel : decode cX5_playFrom 44 = .ok (.iload 6, 2)))))
    (ms_b (ms_lf (ms_iload_n (k := 2) hx hb rfl (by decide +kernel : decode cX5_playFrom 46 = .ok (.iload_n 2, 1))))
    (ms_lf (ms_iconst hx hb (by decide) (by decide +kernel : decode cX5_playFrom 47 = .ok (.iconst 1, 1))))))
    (ms_b (ms_b (ms_lf (ms_isub hx hb (by decide +kernel : decode cX5_playFrom 48 = .ok (.isub, 1))))
    (ms_lf (ms_iload_n (k := 3) hx hb rfl (by decide +kernel : decode cX5_playFrom 49 = .ok (.iload_n 3, 1)))))
    (ms_b (ms_lf (ms_if_ne hx hb (by decide) (by decide +kernel : decode cX5_playFrom 50 = .ok (.ifCond .ne 7, 3))))
    (ms_lf (ms_iconst hx hb (by decide) (by decide +kernel : decode cX5_playFrom 53 = .ok (.iconst 1, 1)))))))))
    (ms_b (ms_b (ms_b (ms_b (ms_lf (ms_goto hx hb (by decide) (by decide +kernel : decode cX5_playFrom 54 = .ok (.goto 4, 3))))
    (ms_b (ms_lf (ms_iconst hx hb (by decide) (by decide +kernel : decode cX5_playFrom 57 = .ok (.iconst 0, 1))))
    (ms_lf (ms_ivV (C := RX5) (T := TX5) (N := 11) hx hb hml hown hts hgo hEX hf hK rfl (mm_GV hAW (mm_GI hAW gi_68) qw_1183 qw_1185 qw_35 qw_131) rfl ⟨rfl, hd_68⟩ (mm_rm hRf hRl (Nat.le_of_ble_eq_true rfl)) (by decide +kernel : decode cX5_playFrom 58 = .ok (.invokevirtual 94, 3))))))
    (ms_b (ms_b (ms_lf (ms_istore hx hb (by decide : 7 < 8) (by decide +kernel : decode cX5_playFrom 61 = .ok (.istore 7, 2))))
    (ms_lf (ms_iload hx hb (by decide +kernel : decode cX5_playFrom 63 = .ok (.iload 4, 2)))))
    (ms_b (ms_lf (ms_iconst hx hb (by decide) (by decide +kernel : decode cX5_playFrom 65 = .ok (.iconst (-1), 1))))
    (ms_lf (ms_ic_eq hx hb (by decide) (by decide +kernel : decode cX5_playFrom 66 = .ok (.if_icmp .eq 24, 3)))))))
    (ms_b (ms_b (ms_b (ms_lf (ms_iload_n (k := 3) hx hb rfl (by decide +kernel : decode cX5_playFrom 69 = .ok (.iload_n 3, 1))))
    (ms_lf (ms_if_eq hx hb (by decide) (by decide +kernel : decode cX5_playFrom 70 = .ok (.ifCond .eq 13, 3)))))
    (ms_b (ms_lf (ms_iload hx hb (by decide +kernel : decode cX5_playFrom 73 = .ok (.iload 7, 2))))
    (ms_lf (ms_iload hx hb (by decide +kernel : decode cX5_playFrom 75 = .ok (.iload 4, 2))))))
    (ms_b (ms_b (ms_lf (ms_ic_le hx hb (by decide) (by decide +kernel : decode cX5_playFrom 77 = .ok (.if_icmp .le 17, 3))))
    (ms_lf (ms_goto hx hb (by decide) (by decide +kernel : decode cX5_playFrom 80 = .ok (.goto 10, 3)))))
    (ms_b (ms_lf (ms_iload hx hb (by decide +kernel : decode cX5_playFrom 83 = .ok (.iload 7, 2))))
    (ms_lf (ms_iload hx hb (by decide +kernel : decode cX5_playFrom 85 = .ok (.iload 4, 2))))))))
    (ms_b (ms_b (ms_b (ms_lf (ms_ic_ge hx hb (by decide) (by decide +kernel : decode cX5_playFrom 87 = .ok (.if_icmp .ge 7, 3))))
    (ms_b (ms_lf (ms_iload hx hb (by decide +kernel : decode cX5_playFrom 90 = .ok (.iload 7, 2))))
    (ms_lf (ms_istore hx hb (by decide : 4 < 8) (by decide +kernel : decode cX5_playFrom 92 = .ok (.istore 4, 2))))))
    (ms_b (ms_b (ms_lf (ms_iinc hx hb (by decide) (by decide : 5 < 8) (by decide +kernel : decode cX5_playFrom 94 = .ok (.iinc 5 1, 3))))
    (ms_lf (ms_goto hx hb (by decide) (by decide +kernel : decode cX5_playFrom 97 = .ok (.goto (-91), 3)))))
    (ms_b (ms_lf (ms_iload hx hb (by decide +kernel : decode cX5_playFrom 100 = .ok (.iload 4, 2))))
    (ms_lf (ms_iconst hx hb (by decide) (by decide +kernel : decode cX5_playFrom 102 = .ok (.iconst (-1), 1)))))))
    (ms_b (ms_b (ms_b (ms_lf (ms_ic_ne hx hb (by decide) (by decide +kernel : decode cX5_playFrom 103 = .ok (.if_icmp .ne 14, 3))))
    (ms_lf (ms_aload_n (k := 0) hx hb rfl (by decide +kernel : decode cX5_playFrom 106 = .ok (.aload_n 0, 1)))))
    (ms_b (ms_lf (ms_getf (C := RX5) (T := TX5) (N := 11) hx hb hf hts (fun w h => hAW w (inq_5 w h)) hown hK rfl (by decide) (hts _ (hAW _ qw_519)) rfl (by decide +kernel : decode cX5_playFrom 107 = .ok (.getfield 28, 3))))
    (ms_lf (ms_iload_n (k := 1) hx hb rfl (by decide +kernel : decode cX5_playFrom 110 = .ok (.iload_n 1, 1))))))
    (ms_b (ms_b (ms_lf (ms_ivV (C := RX6) (T := TX6) (N := 5) hx hb hml hown hts hgo hEX hf hK rfl (mm_GV hAW (mm_GI hAW gi_72) qw_1187 qw_1074 qw_1075 qw_129) rfl ⟨rfl, hd_72⟩ (mm_rm hRf hRl (Nat.le_of_ble_eq_true rfl)) (by decide +kernel : decode cX5_playFrom 111 = .ok (.invokevirtual 98, 3))))
    (ms_lf (ms_goto hx hb (by decide) (by decide +kernel : decode cX5_playFrom 114 = .ok (.goto 5, 3)))))
    (ms_b (ms_lf (ms_iload hx hb (by decide +kernel : decode cX5_playFrom 117 = .ok (.iload 4, 2))))
    (ms_lf (ms_iret hx hb hr hlk (by decide +kernel : decode cX5_playFrom 119 = .ok (.ireturn, 1))))))))))
set_option maxRecDepth 100000 in
set_option maxHeartbeats 8000000 in
/-- TippedCrates$Standings.<init> -/
theorem sd_69 (l : Launch) (f : Nat → Nat) (D : va_G) (cA : FieldType → ClassId) (d : Nat) : mm_Ok2 l f D cA d (yX6_init, cX6_init, 3, none, mc_69) := by
  intro p e R s m args below meth c C hRf hRl pc
  obtain ⟨hx, hb, hml, hr, hlk, hnm, hown, hts, hEX, hgo, hf⟩ := C
  obtain ⟨hK, hA, hX, hZs, hZc, hZq, hTx, hSR0, hSR1, hAO, hN⟩ := id hEX
  have hAW : ∀ w ∈ mm_AW, w ∈ (Cond.code yX6_init cX6_init 3 none :: mm_AW) := fun w h => List.mem_cons_of_mem _ h
  have hown : s.vm.findClass "TippedCrates$Standings" = some m.cls := hown
  show mm_S p l e R s m args below meth c f D mm_cl cA 3 _ pc (mc_69 pc)
  unfold mc_69
  exact (ms_b (ms_b (ms_b (ms_b (ms_lf (ms_aload_n (k := 0) hx hb rfl (by decide +kernel : decode cX6_init 0 = .ok (.aload_n 0, 1))))
    (ms_lf (ms_oi hx hb hml hown (hts _ (hAW _ qw_440)) (hts _ (hAW _ qw_144)) (hts _ (hAW _ qw_145)) (by omega) (by omega) (by decide +kernel : decode cX6_init 1 = .ok (.invokespecial 3, 3)))))
    (ms_b (ms_lf (ms_aload_n (k := 0) hx hb rfl (by decide +kernel : decode cX6_init 4 = .ok (.aload_n 0, 1))))
    (ms_lf (ms_bipush hx hb (by decide) (by decide +kernel : decode cX6_init 5 = .ok (.bipush 100, 2))))))
    (ms_b (ms_b (ms_lf (ms_na (aty := .int) hx hb hf hA rfl (hts _ (hAW _ qw_233)) rfl rfl rfl (by decide) (by decide +kernel : decode cX6_init 7 = .ok (.newarray .int, 2))))
    (ms_lf (ms_putF (C := RX6) (T := TX6) (N := 5) hx hb hf hts (fun w h => hAW w (inq_6 w h)) tyX6 tyX6_ok nmX6 hown hK rfl (by decide) (hts _ (hAW _ qw_447)) rfl rfl hnm rfl rfl (by decide +kernel : decode cX6_init 9 = .ok (.putfield 9, 3)))))
    (ms_b (ms_lf (ms_aload_n (k := 0) hx hb rfl (by decide +kernel : decode cX6_init 12 = .ok (.aload_n 0, 1))))
    (ms_lf (ms_bipush hx hb (by decide) (by decide +kernel : decode cX6_init 13 = .ok (.bipush 6, 2)))))))
    (ms_b (ms_b (ms_b (ms_lf (ms_na (aty := .int) hx hb hf hA rfl (hts _ (hAW _ qw_233)) rfl rfl rfl (by decide) (by decide +kernel : decode cX6_init 15 = .ok (.newarray .int, 2))))
    (ms_lf (ms_putF (C := RX6) (T := TX6) (N := 5) hx hb hf hts (fun w h => hAW w (inq_6 w h)) tyX6 tyX6_ok nmX6 hown hK rfl (by decide) (hts _ (hAW _ qw_448)) rfl rfl hnm rfl rfl (by decide +kernel : decode cX6_init 17 = .ok (.putfield 15, 3)))))
    (ms_b (ms_lf (ms_aload_n (k := 0) hx hb rfl (by decide +kernel : decode cX6_init 20 = .ok (.aload_n 0, 1))))
    (ms_lf (ms_aload_n (k := 1) hx hb rfl (by decide +kernel : decode cX6_init 21 = .ok (.aload_n 1, 1))))))
    (ms_b (ms_b (ms_lf (ms_putF (C := RX6) (T := TX6) (N := 5) hx hb hf hts (fun w h => hAW w (inq_6 w h)) tyX6 tyX6_ok nmX6 hown hK rfl (by decide) (hts _ (hAW _ qw_441)) rfl rfl hnm rfl rfl (by decide +kernel : decode cX6_init 22 = .ok (.putfield 18, 3))))
    (ms_lf (ms_aload_n (k := 0) hx hb rfl (by decide +kernel : decode cX6_init 25 = .ok (.aload_n 0, 1)))))
    (ms_b (ms_lf (ms_aload_n (k := 2) hx hb rfl (by decide +kernel : decode cX6_init 26 = .ok (.aload_n 2, 1))))
    (ms_b (ms_lf (ms_putF (C := RX6) (T := TX6) (N := 5) hx hb hf hts (fun w h => hAW w (inq_6 w h)) tyX6 tyX6_ok nmX6 hown hK rfl (by decide) (hts _ (hAW _ qw_446)) rfl rfl hnm rfl rfl (by decide +kernel : decode cX6_init 27 = .ok (.putfield 22, 3))))
    (ms_lf (ms_ret hx hb hr hlk (by decide +kernel : decode cX6_init 30 = .ok (.return_, 1)))))))))
set_option maxRecDepth 100000 in
set_option maxHeartbeats 8000000 in
/-- TippedCrates$Standings.stand -/
theorem sd_70 (l : Launch) (f : Nat → Nat) (D : va_G) (cA : FieldType → ClassId) (d : Nat) : mm_Ok2 l f D cA d (yX6_stand, cX6_stand, 8, none, mc_70) := by
  intro p e R s m args below meth c C hRf hRl pc
  obtain ⟨hx, hb, hml, hr, hlk, hnm, hown, hts, hEX, hgo, hf⟩ := C
  obtain ⟨hK, hA, hX, hZs, hZc, hZq, hTx, hSR0, hSR1, hAO, hN⟩ := id hEX
  have hAW : ∀ w ∈ mm_AW, w ∈ (Cond.code yX6_stand cX6_stand 8 none :: mm_AW) := fun w h => List.mem_cons_of_mem _ h
  have hown : s.vm.findClass "TippedCrates$Standings" = some m.cls := hown
  show mm_S p l e R s m args below meth c f D mm_cl cA 8 _ pc (mc_70 pc)
  unfold mc_70
  exact (ms_b (ms_b (ms_b (ms_b (ms_b (ms_b (ms_lf (ms_aload_n (k := 0) hx hb rfl (by decide +kernel : decode cX6_stand 0 = .ok (.aload_n 0, 1))))
    (ms_lf (ms_aload_n (k := 1) hx hb rfl (by decide +kernel : decode cX6_stand 1 = .ok (.aload_n 1, 1)))))
    (ms_b (ms_lf (ms_getf (C := RX7) (T := TX7) (N := 7) hx hb hf hts (fun w h => hAW w (inq_7 w h)) hown hK rfl (by decide) (hts _ (hAW _ qw_568)) rfl (by decide +kernel : decode cX6_stand 2 = .ok (.getfield 26, 3))))
    (ms_b (ms_lf (ms_iload_n (k := 2) hx hb rfl (by decide +kernel : decode cX6_stand 5 = .ok (.iload_n 2, 1))))
    (ms_lf (ms_iald hx hb hf hA hX (by decide +kernel : decode cX6_stand 6 = .ok (.iaload, 1)))))))
    (ms_b (ms_b (ms_lf (ms_bipush hx hb (by decide) (by decide +kernel : decode cX6_stand 7 = .ok (.bipush 24, 2))))
    (ms_lf (ms_imul hx hb (by decide +kernel : decode cX6_stand 9 = .ok (.imul, 1)))))
    (ms_b (ms_lf (ms_put (C := RX6) (T := TX6) (N := 5) hx hb hf hts (fun w h => hAW w (inq_6 w h)) tyX6 tyX6_ok nmX6 hown hK rfl (by decide) (hts _ (hAW _ qw_443)) rfl rfl rfl (by decide +kernel : decode cX6_stand 10 = .ok (.putfield 31, 3))))
    (ms_b (ms_lf (ms_aload_n (k := 1) hx hb rfl (by decide +kernel : decode cX6_stand 13 = .ok (.aload_n 1, 1))))
    (ms_lf (ms_getf (C := RX7) (T := TX7) (N := 7) hx hb hf hts (fun w h => hAW w (inq_7 w h)) hown hK rfl (by decide) (hts _ (hAW _ qw_572)) rfl (by decide +kernel : decode cX6_stand 14 = .ok (.getfield 35, 3))))))))
    (ms_b (ms_b (ms_b (ms_lf (ms_iload_n (k := 2) hx hb rfl (by decide +kernel : decode cX6_stand 17 = .ok (.iload_n 2, 1))))
    (ms_lf (ms_bipush hx hb (by decide) (by decide +kernel : decode cX6_stand 18 = .ok (.bipush 6, 2)))))
    (ms_b (ms_lf (ms_imul hx hb (by decide +kernel : decode cX6_stand 20 = .ok (.imul, 1))))
    (ms_b (ms_lf (ms_aload_n (k := 0) hx hb rfl (by decide +kernel : decode cX6_stand 21 = .ok (.aload_n 0, 1))))
    (ms_lf (ms_getf (C := RX6) (T := TX6) (N := 5) hx hb hf hts (fun w h => hAW w (inq_6 w h)) hown hK rfl (by decide) (hts _ (hAW _ qw_448)) rfl (by decide +kernel : decode cX6_stand 22 = .ok (.getfield 15, 3)))))))
    (ms_b (ms_b (ms_lf (ms_iconst hx hb (by decide) (by decide +kernel : decode cX6_stand 25 = .ok (.iconst 0, 1))))
    (ms_b (ms_lf (ms_bipush hx hb (by decide) (by decide +kernel : decode cX6_stand 26 = .ok (.bipush 6, 2))))
    (ms_lf (ms_ac hx hb hml hf hA hown (hts _ (hAW _ qw_1050)) (hts _ (hAW _ qw_408)) (hts _ (hAW _ qw_407)) (hts _ (hAW _ qw_128)) (by omega) (by rw [hRl]; simp [nativeFrameWords]; omega) (by decide +kernel : decode cX6_stand 28 = .ok (.invokestatic 38, 3))))))
    (ms_b (ms_lf (ms_aload_n (k := 1) hx hb rfl (by decide +kernel : decode cX6_stand 31 = .ok (.aload_n 1, 1))))
    (ms_b (ms_lf (ms_ivV (C := RX7) (T := TX7) (N := 7) hx hb hml hown hts hgo hEX hf hK rfl (mm_GV hAW (mm_GI hAW gi_83) qw_1051 qw_1052 qw_1053 qw_133) rfl ⟨rfl, hd_83⟩ (mm_rm hRf hRl (Nat.le_of_ble_eq_true rfl)) (by decide +kernel : decode cX6_stand 32 = .ok (.invokevirtual 44, 3))))
    (ms_lf (ms_iconst hx hb (by decide) (by decide +kernel : decode cX6_stand 35 = .ok (.iconst 1, 1)))))))))
    (ms_b (ms_b (ms_b (ms_b (ms_lf (ms_aload_n (k := 1) hx hb rfl (by decide +kernel : decode cX6_stand 36 = .ok (.aload_n 1, 1))))
    (ms_lf (ms_getf (C := RX7) (T := TX7) (N := 7) hx hb hf hts (fun w h => hAW w (inq_7 w h)) hown hK rfl (by decide) (hts _ (hAW _ qw_568)) rfl (by decide +kernel : decode cX6_stand 37 = .ok (.getfield 26, 3)))))
    (ms_b (ms_lf (ms_iload_n (k := 2) hx hb rfl (by decide +kernel : decode cX6_stand 40 = .ok (.iload_n 2, 1))))
    (ms_b (ms_lf (ms_iald hx hb hf hA hX (by decide +kernel : decode cX6_stand 41 = .ok (.iaload, 1))))
    (ms_lf (ms_ishl hx hb (by decide +kernel : decode cX6_stand 42 = .ok (.ishl, 1)))))))
    (ms_b (ms_b (ms_lf (ms_iconst hx hb (by decide) (by decide +kernel : decode cX6_stand 43 = .ok (.iconst (-1), 1))))
    (ms_b (ms_lf (ms_ixor hx hb (by decide +kernel : decode cX6_stand 44 = .ok (.ixor, 1))))
    (ms_lf (ms_iand hx hb (by decide +kernel : decode cX6_stand 45 = .ok (.iand, 1))))))
    (ms_b (ms_lf (ms_istore_n (k := 3) hx hb rfl (by decide : 3 < 8) (by decide +kernel : decode cX6_stand 46 = .ok (.istore_n 3, 1))))
    (ms_b (ms_lf (ms_iconst hx hb (by decide) (by decide +kernel : decode cX6_stand 47 = .ok (.iconst 0, 1))))
    (ms_lf (ms_istore hx hb (by decide : 4 < 8) (by decide +kernel : decode cX6_stand 48 = .ok (.istore 4, 2))))))))
    (ms_b (ms_b (ms_b (ms_lf (ms_iload hx hb (by decide +kernel : decode cX6_stand 50 = .ok (.iload 4, 2))))
    (ms_lf (ms_aload_n (k := 0) hx hb rfl (by decide +kernel : decode cX6_stand 52 = .ok (.aload_n 0, 1)))))
    (ms_b (ms_lf (ms_getf (C := RX6) (T := TX6) (N := 5) hx hb hf hts (fun w h => hAW w (inq_6 w h)) hown hK rfl (by decide) (hts _ (hAW _ qw_441)) rfl (by decide +kernel : decode cX6_stand 53 = .ok (.getfield 18, 3))))
    (ms_b (ms_lf (ms_getf (C := RX3) (T := TX3) (N := 12) hx hb hf hts (fun w h => hAW w (inq_3 w h)) hown hK rfl (by decide) (hts _ (hAW _ qw_266)) rfl (by decide +kernel : decode cX6_stand 56 = .ok (.getfield 48, 3))))
    (ms_lf (ms_aload_n (k := 0) hx hb rfl (by decide +kernel : decode cX6_stand 59 = .ok (.aload_n 0, 1)))))))
    (ms_b (ms_b (ms_lf (ms_getf (C := RX6) (T := TX6) (N := 5) hx hb hf hts (fun w h => hAW w (inq_6 w h)) hown hK rfl (by decide) (hts _ (hAW _ qw_441)) rfl (by decide +kernel : decode cX6_stand 60 = .ok (.getfield 18, 3))))
    (ms_b (ms_lf (ms_getf (C := RX3) (T := TX3) (N := 12) hx hb hf hts (fun w h => hAW w (inq_3 w h)) hown hK rfl (by decide) (hts _ (hAW _ qw_269)) rfl (by decide +kernel : decode cX6_stand 63 = .ok (.getfield 53, 3))))
    (ms_lf (ms_imul hx hb (by decide +kernel : decode cX6_stand 66 = .ok (.imul, 1))))))
    (ms_b (ms_lf (ms_ic_ge hx hb (by decide) (by decide +kernel : decode cX6_stand 67 = .ok (.if_icmp .ge 90, 3))))
    (ms_b (ms_lf (ms_iconst hx hb (by decide) (by decide +kernel : decode cX6_stand 70 = .ok (.iconst 0, 1))))
    (ms_lf (ms_istore hx hb (by decide : 5 < 8) (by decide +kernel : decode cX6_stand 71 = .ok (.istore 5, 2))))))))))
    (ms_b (ms_b (ms_b (ms_b (ms_b (ms_lf (ms_iload hx hb (by decide +kernel : decode cX6_stand 73 = .ok (.iload 5, 2))))
    (ms_lf (ms_iconst hx hb (by decide) (by decide +kernel : decode cX6_stand 75 = .ok (.iconst 4, 1)))))
    (ms_b (ms_lf (ms_ic_ge hx hb (by decide) (by decide +kernel : decode cX6_stand 76 = .ok (.if_icmp .ge 75, 3))))
    (ms_b (ms_lf (ms_aload_n (k := 0) hx hb rfl (by decide +kernel : decode cX6_stand 79 = .ok (.aload_n 0, 1))))
    (ms_lf (ms_getf (C := RX6) (T := TX6) (N := 5) hx hb hf hts (fun w h => hAW w (inq_6 w h)) hown hK rfl (by decide) (hts _ (hAW _ qw_441)) rfl (by decide +kernel : decode cX6_stand 80 = .ok (.getfield 18, 3)))))))
    (ms_b (ms_b (ms_lf (ms_iload hx hb (by decide +kernel : decode cX6_stand 83 = .ok (.iload 4, 2))))
    (ms_b (ms_lf (ms_iload hx hb (by decide +kernel : decode cX6_stand 85 = .ok (.iload 5, 2))))
    (ms_lf (ms_ivV (C := RX3) (T := TX3) (N := 12) hx hb hml hown hts hgo hEX hf hK rfl (mm_GV hAW (mm_GI hAW gi_30) qw_1055 qw_954 qw_955 qw_123) rfl ⟨rfl, hd_30⟩ (mm_rm hRf hRl (Nat.le_of_ble_eq_true rfl)) (by decide +kernel : decode cX6_stand 87 = .ok (.invokevirtual 56, 3))))))
    (ms_b (ms_lf (ms_istore hx hb (by decide : 6 < 8) (by decide +kernel : decode cX6_stand 90 = .ok (.istore 6, 2))))
    (ms_b (ms_lf (ms_iload hx hb (by decide +kernel : decode cX6_stand 92 = .ok (.iload 6, 2))))
    (ms_lf (ms_iconst hx hb (by decide) (by decide +kernel : decode cX6_stand 94 = .ok (.iconst (-1), 1))))))))
    (ms_b (ms_b (ms_b (ms_lf (ms_ic_eq hx hb (by decide) (by decide +kernel : decode cX6_stand 95 = .ok (.if_icmp .eq 24, 3))))
    (ms_lf (ms_aload_n (k := 0) hx hb rfl (by decide +kernel : decode cX6_stand 98 = .ok (.aload_n 0, 1)))))
    (ms_b (ms_lf (ms_getf (C := RX6) (T := TX6) (N := 5) hx hb hf hts (fun w h => hAW w (inq_6 w h)) hown hK rfl (by decide) (hts _ (hAW _ qw_441)) rfl (by decide +kernel : decode cX6_stand 99 = .ok (.getfield 18, 3))))
    (ms_b (ms_lf (ms_getf (C := RX3) (T := TX3) (N := 12) hx hb hf hts (fun w h => hAW w (inq_3 w h)) hown hK rfl (by decide) (hts _ (hAW _ qw_278)) rfl (by decide +kernel : decode cX6_stand 102 = .ok (.getfield 60, 3))))
    (ms_lf (ms_iload_n (k := 3) hx hb rfl (by decide +kernel : decode cX6_stand 105 = .ok (.iload_n 3, 1)))))))
    (ms_b (ms_b (ms_lf (ms_ior hx hb (by decide +kernel : decode cX6_stand 106 = .ok (.ior, 1))))
    (ms_b (ms_lf (ms_iload hx hb (by decide +kernel : decode cX6_stand 107 = .ok (.iload 6, 2))))
    (ms_lf (ms_ishr hx hb (by decide +kernel : decode cX6_stand 109 = .ok (.ishr, 1))))))
    (ms_b (ms_lf (ms_iconst hx hb (by decide) (by decide +kernel : decode cX6_stand 110 = .ok (.iconst 1, 1))))
    (ms_b (ms_lf (ms_iand hx hb (by decide +kernel : decode cX6_stand 111 = .ok (.iand, 1))))
    (ms_lf (ms_if_ne hx hb (by decide) (by decide +kernel : decode cX6_stand 112 = .ok (.ifCond .ne 7, 3)))))))))
    (ms_b (ms_b (ms_b (ms_b (ms_lf (ms_iconst hx hb (by decide) (by decide +kernel : decode cX6_stand 115 = .ok (.iconst 1, 1))))
    (ms_lf (ms_goto hx hb (by decide) (by decide +kernel : decode cX6_stand 116 = .ok (.goto 4, 3)))))
    (ms_b (ms_lf (ms_iconst hx hb (by decide) (by decide +kernel : decode cX6_stand 119 = .ok (.iconst 0, 1))))
    (ms_b (ms_lf (ms_istore hx hb (by decide : 7 < 8) (by decide +kernel : decode cX6_stand 120 = .ok (.istore 7, 2))))
    (ms_lf (ms_aload_n (k := 0) hx hb rfl (by decide +kernel : decode cX6_stand 122 = .ok (.aload_n 0, 1)))))))
    (ms_b (ms_b (ms_lf (ms_getf (C := RX6) (T := TX6) (N := 5) hx hb hf hts (fun w h => hAW w (inq_6 w h)) hown hK rfl (by decide) (hts _ (hAW _ qw_447)) rfl (by decide +kernel : decode cX6_stand 123 = .ok (.getfield 9, 3))))
    (ms_b (ms_lf (ms_iload hx hb (by decide +kernel : decode cX6_stand 126 = .ok (.iload 4, 2))))
    (ms_lf (ms_iconst hx hb (by decide) (by decide +kernel : decode cX6_stand 128 = .ok (.iconst 4, 1))))))
    (ms_b (ms_lf (ms_imul hx hb (by decide +kernel : decode cX6_stand 129 = .ok (.imul, 1))))
    (ms_b (ms_lf (ms_iload hx hb (by decide +kernel : decode cX6_stand 130 = .ok (.iload 5, 2))))
    (ms_lf (ms_iadd hx hb (by decide +kernel : decode cX6_stand 132 = .ok (.iadd, 1))))))))
    (ms_b (ms_b (ms_b (ms_lf (ms_iload hx hb (by decide +kernel : decode cX6_stand 133 = .ok (.iload 7, 2))))
    (ms_lf (ms_if_eq hx hb (by decide) (by decide +kernel : decode cX6_stand 135 = .ok (.ifCond .eq 8, 3)))))
    (ms_b (ms_lf (ms_iload hx hb (by decide +kernel : decode cX6_stand 138 = .ok (.iload 6, 2))))
    (ms_b (ms_lf (ms_goto hx hb (by decide) (by decide +kernel : decode cX6_stand 140 = .ok (.goto 4, 3))))
    (ms_lf (ms_iconst hx hb (by decide) (by decide +kernel : decode cX6_stand 143 = .ok (.iconst (-1), 1)))))))
    (ms_b (ms_b (ms_lf (ms_iast hx hb hf hA (by decide +kernel : decode cX6_stand 144 = .ok (.iastore, 1))))
    (ms_b (ms_lf (ms_iinc hx hb (by decide) (by decide : 5 < 8) (by decide +kernel : decode cX6_stand 145 = .ok (.iinc 5 1, 3))))
    (ms_lf (ms_goto hx hb (by decide) (by decide +kernel : decode cX6_stand 148 = .ok (.goto (-75), 3))))))
    (ms_b (ms_lf (ms_iinc hx hb (by decide) (by decide : 4 < 8) (by decide +kernel : decode cX6_stand 151 = .ok (.iinc 4 1, 3))))
    (ms_b (ms_lf (ms_goto hx hb (by decide) (by decide +kernel : decode cX6_stand 154 = .ok (.goto (-104), 3))))
    (ms_lf (ms_ret hx hb hr hlk (by decide +kernel : decode cX6_stand 157 = .ok (.return_, 1)))))))))))
set_option maxRecDepth 100000 in
set_option maxHeartbeats 8000000 in
/-- TippedCrates$Standings.tipped -/
theorem sd_71 (l : Launch) (f : Nat → Nat) (D : va_G) (cA : FieldType → ClassId) (d : Nat) : mm_Ok2 l f D cA d (yX6_tipped, cX6_tipped, 4, (some .int), mc_71) := by
  intro p e R s m args below meth c C hRf hRl pc
  obtain ⟨hx, hb, hml, hr, hlk, hnm, hown, hts, hEX, hgo, hf⟩ := C
  obtain ⟨hK, hA, hX, hZs, hZc, hZq, hTx, hSR0, hSR1, hAO, hN⟩ := id hEX
  have hAW : ∀ w ∈ mm_AW, w ∈ (Cond.code yX6_tipped cX6_tipped 4 (some .int) :: mm_AW) := fun w h => List.mem_cons_of_mem _ h
  have hown : s.vm.findClass "TippedCrates$Standings" = some m.cls := hown
  show mm_S p l e R s m args below meth c f D mm_cl cA 4 _ pc (mc_71 pc)
  unfold mc_71
  exact (ms_b (ms_b (ms_b (ms_b (ms_b (ms_lf (ms_aload_n (k := 0) hx hb rfl (by decide +kernel : decode cX6_tipped 0 = .ok (.aload_n 0, 1))))
    (ms_lf (ms_getf (C := RX6) (T := TX6) (N := 5) hx hb hf hts (fun w h => hAW w (inq_6 w h)) hown hK rfl (by decide) (hts _ (hAW _ qw_447)) rfl (by decide +kernel : decode cX6_tipped 1 = .ok (.getfield 9, 3)))))
    (ms_b (ms_lf (ms_iload_n (k := 1) hx hb rfl (by decide +kernel : decode cX6_tipped 4 = .ok (.iload_n 1, 1))))
    (ms_lf (ms_bipush hx hb (by decide) (by decide +kernel : decode cX6_tipped 5 = .ok (.bipush 24, 2))))))
    (ms_b (ms_b (ms_lf (ms_idiv hx hb (by decide +kernel : decode cX6_tipped 7 = .ok (.idiv, 1))))
    (ms_lf (ms_iconst hx hb (by decide) (by decide +kernel : decode cX6_tipped 8 = .ok (.iconst 4, 1)))))
    (ms_b (ms_lf (ms_imul hx hb (by decide +kernel : decode cX6_tipped 9 = .ok (.imul, 1))))
    (ms_lf (ms_iload_n (k := 2) hx hb rfl (by decide +kernel : decode cX6_tipped 10 = .ok (.iload_n 2, 1)))))))
    (ms_b (ms_b (ms_b (ms_lf (ms_iadd hx hb (by decide +kernel : decode cX6_tipped 11 = .ok (.iadd, 1))))
    (ms_lf (ms_iald hx hb hf hA hX (by decide +kernel : decode cX6_tipped 12 = .ok (.iaload, 1)))))
    (ms_b (ms_lf (ms_istore_n (k := 3) hx hb rfl (by decide : 3 < 4) (by decide +kernel : decode cX6_tipped 13 = .ok (.istore_n 3, 1))))
    (ms_lf (ms_iload_n (k := 3) hx hb rfl (by decide +kernel : decode cX6_tipped 14 = .ok (.iload_n 3, 1))))))
    (ms_b (ms_b (ms_lf (ms_iconst hx hb (by decide) (by decide +kernel : decode cX6_tipped 15 = .ok (.iconst (-1), 1))))
    (ms_lf (ms_ic_ne hx hb (by decide) (by decide +kernel : decode cX6_tipped 16 = .ok (.if_icmp .ne 7, 3)))))
    (ms_b (ms_lf (ms_iconst hx hb (by decide) (by decide +kernel : decode cX6_tipped 19 = .ok (.iconst (-1), 1))))
    (ms_lf (ms_goto hx hb (by decide) (by decide +kernel : decode cX6_tipped 20 = .ok (.goto 24, 3))))))))
    (ms_b (ms_b (ms_b (ms_b (ms_lf (ms_iload_n (k := 3) hx hb rfl (by decide +kernel : decode cX6_tipped 23 = .ok (.iload_n 3, 1))))
    (ms_lf (ms_bipush hx hb (by decide) (by decide +kernel : decode cX6_tipped 24 = .ok (.bipush 24, 2)))))
    (ms_b (ms_lf (ms_imul hx hb (by decide +kernel : decode cX6_tipped 26 = .ok (.imul, 1))))
    (ms_lf (ms_aload_n (k := 0) hx hb rfl (by decide +kernel : decode cX6_tipped 27 = .ok (.aload_n 0, 1))))))
    (ms_b (ms_b (ms_lf (ms_getf (C := RX6) (T := TX6) (N := 5) hx hb hf hts (fun w h => hAW w (inq_6 w h)) hown hK rfl (by decide) (hts _ (hAW _ qw_446)) rfl (by decide +kernel : decode cX6_tipped 28 = .ok (.getfield 22, 3))))
    (ms_lf (ms_getf (C := RX9) (T := TX9) (N := 4) hx hb hf hts (fun w h => hAW w (inq_9 w h)) hown hK rfl (by decide) (hts _ (hAW _ qw_423)) rfl (by decide +kernel : decode cX6_tipped 31 = .ok (.getfield 63, 3)))))
    (ms_b (ms_lf (ms_iload_n (k := 1) hx hb rfl (by decide +kernel : decode cX6_tipped 34 = .ok (.iload_n 1, 1))))
    (ms_lf (ms_bipush hx hb (by decide) (by decide +kernel : decode cX6_tipped 35 = .ok (.bipush 24, 2)))))))
    (ms_b (ms_b (ms_b (ms_lf (ms_irem hx hb (by decide +kernel : decode cX6_tipped 37 = .ok (.irem, 1))))
    (ms_lf (ms_iconst hx hb (by decide) (by decide +kernel : decode cX6_tipped 38 = .ok (.iconst 4, 1)))))
    (ms_b (ms_lf (ms_imul hx hb (by decide +kernel : decode cX6_tipped 39 = .ok (.imul, 1))))
    (ms_lf (ms_iload_n (k := 2) hx hb rfl (by decide +kernel : decode cX6_tipped 40 = .ok (.iload_n 2, 1))))))
    (ms_b (ms_b (ms_lf (ms_iadd hx hb (by decide +kernel : decode cX6_tipped 41 = .ok (.iadd, 1))))
    (ms_lf (ms_iald hx hb hf hA hX (by decide +kernel : decode cX6_tipped 42 = .ok (.iaload, 1)))))
    (ms_b (ms_lf (ms_iadd hx hb (by decide +kernel : decode cX6_tipped 43 = .ok (.iadd, 1))))
    (ms_lf (ms_iret hx hb hr hlk (by decide +kernel : decode cX6_tipped 44 = .ok (.ireturn, 1)))))))))
set_option maxRecDepth 100000 in
set_option maxHeartbeats 8000000 in
/-- TippedCrates$Standings.topOf -/
theorem sd_72 (l : Launch) (f : Nat → Nat) (D : va_G) (cA : FieldType → ClassId) (d : Nat) : mm_Ok2 l f D cA d (yX6_topOf, cX6_topOf, 2, (some .int), mc_72) := by
  intro p e R s m args below meth c C hRf hRl pc
  obtain ⟨hx, hb, hml, hr, hlk, hnm, hown, hts, hEX, hgo, hf⟩ := C
  obtain ⟨hK, hA, hX, hZs, hZc, hZq, hTx, hSR0, hSR1, hAO, hN⟩ := id hEX
  have hAW : ∀ w ∈ mm_AW, w ∈ (Cond.code yX6_topOf cX6_topOf 2 (some .int) :: mm_AW) := fun w h => List.mem_cons_of_mem _ h
  have hown : s.vm.findClass "TippedCrates$Standings" = some m.cls := hown
  show mm_S p l e R s m args below meth c f D mm_cl cA 2 _ pc (mc_72 pc)
  unfold mc_72
  exact (ms_b (ms_b (ms_b (ms_lf (ms_aload_n (k := 0) hx hb rfl (by decide +kernel : decode cX6_topOf 0 = .ok (.aload_n 0, 1))))
    (ms_b (ms_lf (ms_getf (C := RX6) (T := TX6) (N := 5) hx hb hf hts (fun w h => hAW w (inq_6 w h)) hown hK rfl (by decide) (hts _ (hAW _ qw_448)) rfl (by decide +kernel : decode cX6_topOf 1 = .ok (.getfield 15, 3))))
    (ms_lf (ms_aload_n (k := 0) hx hb rfl (by decide +kernel : decode cX6_topOf 4 = .ok (.aload_n 0, 1))))))
    (ms_b (ms_b (ms_lf (ms_getf (C := RX6) (T := TX6) (N := 5) hx hb hf hts (fun w h => hAW w (inq_6 w h)) hown hK rfl (by decide) (hts _ (hAW _ qw_446)) rfl (by decide +kernel : decode cX6_topOf 5 = .ok (.getfield 22, 3))))
    (ms_lf (ms_getf (C := RX9) (T := TX9) (N := 4) hx hb hf hts (fun w h => hAW w (inq_9 w h)) hown hK rfl (by decide) (hts _ (hAW _ qw_421)) rfl (by decide +kernel : decode cX6_topOf 8 = .ok (.getfield 68, 3)))))
    (ms_b (ms_lf (ms_iload_n (k := 1) hx hb rfl (by decide +kernel : decode cX6_topOf 11 = .ok (.iload_n 1, 1))))
    (ms_lf (ms_bipush hx hb (by decide) (by decide +kernel : decode cX6_topOf 12 = .ok (.bipush 24, 2)))))))
    (ms_b (ms_b (ms_b (ms_lf (ms_irem hx hb (by decide +kernel : decode cX6_topOf 14 = .ok (.irem, 1))))
    (ms_lf (ms_bipush hx hb (by decide) (by decide +kernel : decode cX6_topOf 15 = .ok (.bipush 6, 2)))))
    (ms_b (ms_lf (ms_imul hx hb (by decide +kernel : decode cX6_topOf 17 = .ok (.imul, 1))))
    (ms_lf (ms_iconst hx hb (by decide) (by decide +kernel : decode cX6_topOf 18 = .ok (.iconst 0, 1))))))
    (ms_b (ms_b (ms_lf (ms_iadd hx hb (by decide +kernel : decode cX6_topOf 19 = .ok (.iadd, 1))))
    (ms_lf (ms_iald hx hb hf hA hX (by decide +kernel : decode cX6_topOf 20 = .ok (.iaload, 1)))))
    (ms_b (ms_lf (ms_iald hx hb hf hA hX (by decide +kernel : decode cX6_topOf 21 = .ok (.iaload, 1))))
    (ms_lf (ms_iret hx hb hr hlk (by decide +kernel : decode cX6_topOf 22 = .ok (.ireturn, 1))))))))
set_option maxRecDepth 100000 in
set_option maxHeartbeats 8000000 in
/-- TippedCrates$Standings.beneathOf -/
theorem sd_73 (l : Launch) (f : Nat → Nat) (D : va_G) (cA : FieldType → ClassId) (d : Nat) : mm_Ok2 l f D cA d (yX6_beneathOf, cX6_beneathOf, 2, (some .int), mc_73) := by
  intro p e R s m args below meth c C hRf hRl pc
  obtain ⟨hx, hb, hml, hr, hlk, hnm, hown, hts, hEX, hgo, hf⟩ := C
  obtain ⟨hK, hA, hX, hZs, hZc, hZq, hTx, hSR0, hSR1, hAO, hN⟩ := id hEX
  have hAW : ∀ w ∈ mm_AW, w ∈ (Cond.code yX6_beneathOf cX6_beneathOf 2 (some .int) :: mm_AW) := fun w h => List.mem_cons_of_mem _ h
  have hown : s.vm.findClass "TippedCrates$Standings" = some m.cls := hown
  show mm_S p l e R s m args below meth c f D mm_cl cA 2 _ pc (mc_73 pc)
  unfold mc_73
  exact (ms_b (ms_b (ms_b (ms_lf (ms_aload_n (k := 0) hx hb rfl (by decide +kernel : decode cX6_beneathOf 0 = .ok (.aload_n 0, 1))))
    (ms_b (ms_lf (ms_getf (C := RX6) (T := TX6) (N := 5) hx hb hf hts (fun w h => hAW w (inq_6 w h)) hown hK rfl (by decide) (hts _ (hAW _ qw_448)) rfl (by decide +kernel : decode cX6_beneathOf 1 = .ok (.getfield 15, 3))))
    (ms_lf (ms_aload_n (k := 0) hx hb rfl (by decide +kernel : decode cX6_beneathOf 4 = .ok (.aload_n 0, 1))))))
    (ms_b (ms_b (ms_lf (ms_getf (C := RX6) (T := TX6) (N := 5) hx hb hf hts (fun w h => hAW w (inq_6 w h)) hown hK rfl (by decide) (hts _ (hAW _ qw_446)) rfl (by decide +kernel : decode cX6_beneathOf 5 = .ok (.getfield 22, 3))))
    (ms_lf (ms_getf (C := RX9) (T := TX9) (N := 4) hx hb hf hts (fun w h => hAW w (inq_9 w h)) hown hK rfl (by decide) (hts _ (hAW _ qw_421)) rfl (by decide +kernel : decode cX6_beneathOf 8 = .ok (.getfield 68, 3)))))
    (ms_b (ms_lf (ms_iload_n (k := 1) hx hb rfl (by decide +kernel : decode cX6_beneathOf 11 = .ok (.iload_n 1, 1))))
    (ms_lf (ms_bipush hx hb (by decide) (by decide +kernel : decode cX6_beneathOf 12 = .ok (.bipush 24, 2)))))))
    (ms_b (ms_b (ms_b (ms_lf (ms_irem hx hb (by decide +kernel : decode cX6_beneathOf 14 = .ok (.irem, 1))))
    (ms_lf (ms_bipush hx hb (by decide) (by decide +kernel : decode cX6_beneathOf 15 = .ok (.bipush 6, 2)))))
    (ms_b (ms_lf (ms_imul hx hb (by decide +kernel : decode cX6_beneathOf 17 = .ok (.imul, 1))))
    (ms_lf (ms_iconst hx hb (by decide) (by decide +kernel : decode cX6_beneathOf 18 = .ok (.iconst 1, 1))))))
    (ms_b (ms_b (ms_lf (ms_iadd hx hb (by decide +kernel : decode cX6_beneathOf 19 = .ok (.iadd, 1))))
    (ms_lf (ms_iald hx hb hf hA hX (by decide +kernel : decode cX6_beneathOf 20 = .ok (.iaload, 1)))))
    (ms_b (ms_lf (ms_iald hx hb hf hA hX (by decide +kernel : decode cX6_beneathOf 21 = .ok (.iaload, 1))))
    (ms_lf (ms_iret hx hb hr hlk (by decide +kernel : decode cX6_beneathOf 22 = .ok (.ireturn, 1))))))))
set_option maxRecDepth 100000 in
set_option maxHeartbeats 8000000 in
/-- TippedCrates$State.<init> -/
theorem sd_74 (l : Launch) (f : Nat → Nat) (D : va_G) (cA : FieldType → ClassId) (d : Nat) : mm_Ok2 l f D cA d (yX7_init, cX7_init, 1, none, mc_74) := by
  intro p e R s m args below meth c C hRf hRl pc
  obtain ⟨hx, hb, hml, hr, hlk, hnm, hown, hts, hEX, hgo, hf⟩ := C
  obtain ⟨hK, hA, hX, hZs, hZc, hZq, hTx, hSR0, hSR1, hAO, hN⟩ := id hEX
  have hAW : ∀ w ∈ mm_AW, w ∈ (Cond.code yX7_init cX7_init 1 none :: mm_AW) := fun w h => List.mem_cons_of_mem _ h
  have hown : s.vm.findClass "TippedCrates$State" = some m.cls := hown
  show mm_S p l e R s m args below meth c f D mm_cl cA 1 _ pc (mc_74 pc)
  unfold mc_74
  exact (ms_b (ms_b (ms_b (ms_b (ms_lf (ms_aload_n (k := 0) hx hb rfl (by decide +kernel : decode cX7_init 0 = .ok (.aload_n 0, 1))))
    (ms_lf (ms_oi hx hb hml hown (hts _ (hAW _ qw_563)) (hts _ (hAW _ qw_144)) (hts _ (hAW _ qw_145)) (by omega) (by omega) (by decide +kernel : decode cX7_init 1 = .ok (.invokespecial 3, 3)))))
    (ms_b (ms_lf (ms_aload_n (k := 0) hx hb rfl (by decide +kernel : decode cX7_init 4 = .ok (.aload_n 0, 1))))
    (ms_lf (ms_bipush hx hb (by decide) (by decide +kernel : decode cX7_init 5 = .ok (.bipush 25, 2))))))
    (ms_b (ms_b (ms_lf (ms_na (aty := .int) hx hb hf hA rfl (hts _ (hAW _ qw_233)) rfl rfl rfl (by decide) (by decide +kernel : decode cX7_init 7 = .ok (.newarray .int, 2))))
    (ms_lf (ms_putF (C := RX7) (T := TX7) (N := 7) hx hb hf hts (fun w h => hAW w (inq_7 w h)) tyX7 tyX7_ok nmX7 hown hK rfl (by decide) (hts _ (hAW _ qw_564)) rfl rfl hnm rfl rfl (by decide +kernel : decode cX7_init 9 = .ok (.putfield 9, 3)))))
    (ms_b (ms_lf (ms_aload_n (k := 0) hx hb rfl (by decide +kernel : decode cX7_init 12 = .ok (.aload_n 0, 1))))
    (ms_b (ms_lf (ms_iconst hx hb (by decide) (by decide +kernel : decode cX7_init 13 = .ok (.iconst 3, 1))))
    (ms_lf (ms_na (aty := .int) hx hb hf hA rfl (hts _ (hAW _ qw_233)) rfl rfl rfl (by decide) (by decide +kernel : decode cX7_init 14 = .ok (.newarray .int, 2))))))))
    (ms_b (ms_b (ms_b (ms_lf (ms_putF (C := RX7) (T := TX7) (N := 7) hx hb hf hts (fun w h => hAW w (inq_7 w h)) tyX7 tyX7_ok nmX7 hown hK rfl (by decide) (hts _ (hAW _ qw_567)) rfl rfl hnm rfl rfl (by decide +kernel : decode cX7_init 16 = .ok (.putfield 15, 3))))
    (ms_lf (ms_aload_n (k := 0) hx hb rfl (by decide +kernel : decode cX7_init 19 = .ok (.aload_n 0, 1)))))
    (ms_b (ms_lf (ms_bipush hx hb (by decide) (by decide +kernel : decode cX7_init 20 = .ok (.bipush 18, 2))))
    (ms_b (ms_lf (ms_na (aty := .int) hx hb hf hA rfl (hts _ (hAW _ qw_233)) rfl rfl rfl (by decide) (by decide +kernel : decode cX7_init 22 = .ok (.newarray .int, 2))))
    (ms_lf (ms_putF (C := RX7) (T := TX7) (N := 7) hx hb hf hts (fun w h => hAW w (inq_7 w h)) tyX7 tyX7_ok nmX7 hown hK rfl (by decide) (hts _ (hAW _ qw_571)) rfl rfl hnm rfl rfl (by decide +kernel : decode cX7_init 24 = .ok (.putfield 18, 3)))))))
    (ms_b (ms_b (ms_lf (ms_aload_n (k := 0) hx hb rfl (by decide +kernel : decode cX7_init 27 = .ok (.aload_n 0, 1))))
    (ms_lf (ms_iconst hx hb (by decide) (by decide +kernel : decode cX7_init 28 = .ok (.iconst 3, 1)))))
    (ms_b (ms_lf (ms_na (aty := .int) hx hb hf hA rfl (hts _ (hAW _ qw_233)) rfl rfl rfl (by decide) (by decide +kernel : decode cX7_init 29 = .ok (.newarray .int, 2))))
    (ms_b (ms_lf (ms_putF (C := RX7) (T := TX7) (N := 7) hx hb hf hts (fun w h => hAW w (inq_7 w h)) tyX7 tyX7_ok nmX7 hown hK rfl (by decide) (hts _ (hAW _ qw_575)) rfl rfl hnm rfl rfl (by decide +kernel : decode cX7_init 31 = .ok (.putfield 21, 3))))
    (ms_lf (ms_ret hx hb hr hlk (by decide +kernel : decode cX7_init 34 = .ok (.return_, 1)))))))))
set_option maxRecDepth 100000 in
set_option maxHeartbeats 8000000 in
/-- TippedCrates$State.start -/
theorem sd_75 (l : Launch) (f : Nat → Nat) (D : va_G) (cA : FieldType → ClassId) (d : Nat) : mm_Ok2 l f D cA d (yX7_start, cX7_start, 2, none, mc_75) := by
  intro p e R s m args below meth c C hRf hRl pc
  obtain ⟨hx, hb, hml, hr, hlk, hnm, hown, hts, hEX, hgo, hf⟩ := C
  obtain ⟨hK, hA, hX, hZs, hZc, hZq, hTx, hSR0, hSR1, hAO, hN⟩ := id hEX
  have hAW : ∀ w ∈ mm_AW, w ∈ (Cond.code yX7_start cX7_start 2 none :: mm_AW) := fun w h => List.mem_cons_of_mem _ h
  have hown : s.vm.findClass "TippedCrates$State" = some m.cls := hown
  show mm_S p l e R s m args below meth c f D mm_cl cA 2 _ pc (mc_75 pc)
  unfold mc_75
  exact (ms_b (ms_b (ms_b (ms_b (ms_b (ms_lf (ms_aload_n (k := 1) hx hb rfl (by decide +kernel : decode cX7_start 0 = .ok (.aload_n 1, 1))))
    (ms_lf (ms_getf (C := RX3) (T := TX3) (N := 12) hx hb hf hts (fun w h => hAW w (inq_3 w h)) hown hK rfl (by decide) (hts _ (hAW _ qw_282)) rfl (by decide +kernel : decode cX7_start 1 = .ok (.getfield 24, 3)))))
    (ms_b (ms_lf (ms_iconst hx hb (by decide) (by decide +kernel : decode cX7_start 4 = .ok (.iconst 0, 1))))
    (ms_b (ms_lf (ms_aload_n (k := 0) hx hb rfl (by decide +kernel : decode cX7_start 5 = .ok (.aload_n 0, 1))))
    (ms_lf (ms_getf (C := RX7) (T := TX7) (N := 7) hx hb hf hts (fun w h => hAW w (inq_7 w h)) hown hK rfl (by decide) (hts _ (hAW _ qw_564)) rfl (by decide +kernel : decode cX7_start 6 = .ok (.getfield 9, 3)))))))
    (ms_b (ms_b (ms_lf (ms_iconst hx hb (by decide) (by decide +kernel : decode cX7_start 9 = .ok (.iconst 0, 1))))
    (ms_lf (ms_bipush hx hb (by decide) (by decide +kernel : decode cX7_start 10 = .ok (.bipush 25, 2)))))
    (ms_b (ms_lf (ms_ac hx hb hml hf hA hown (hts _ (hAW _ qw_847)) (hts _ (hAW _ qw_408)) (hts _ (hAW _ qw_407)) (hts _ (hAW _ qw_128)) (by omega) (by rw [hRl]; simp [nativeFrameWords]; omega) (by decide +kernel : decode cX7_start 12 = .ok (.invokestatic 27, 3))))
    (ms_b (ms_lf (ms_aload_n (k := 1) hx hb rfl (by decide +kernel : decode cX7_start 15 = .ok (.aload_n 1, 1))))
    (ms_lf (ms_getf (C := RX3) (T := TX3) (N := 12) hx hb hf hts (fun w h => hAW w (inq_3 w h)) hown hK rfl (by decide) (hts _ (hAW _ qw_285)) rfl (by decide +kernel : decode cX7_start 16 = .ok (.getfield 33, 3))))))))
    (ms_b (ms_b (ms_b (ms_lf (ms_iconst hx hb (by decide) (by decide +kernel : decode cX7_start 19 = .ok (.iconst 0, 1))))
    (ms_lf (ms_aload_n (k := 0) hx hb rfl (by decide +kernel : decode cX7_start 20 = .ok (.aload_n 0, 1)))))
    (ms_b (ms_lf (ms_getf (C := RX7) (T := TX7) (N := 7) hx hb hf hts (fun w h => hAW w (inq_7 w h)) hown hK rfl (by decide) (hts _ (hAW _ qw_567)) rfl (by decide +kernel : decode cX7_start 21 = .ok (.getfield 15, 3))))
    (ms_b (ms_lf (ms_iconst hx hb (by decide) (by decide +kernel : decode cX7_start 24 = .ok (.iconst 0, 1))))
    (ms_lf (ms_iconst hx hb (by decide) (by decide +kernel : decode cX7_start 25 = .ok (.iconst 3, 1)))))))
    (ms_b (ms_b (ms_lf (ms_ac hx hb hml hf hA hown (hts _ (hAW _ qw_847)) (hts _ (hAW _ qw_408)) (hts _ (hAW _ qw_407)) (hts _ (hAW _ qw_128)) (by omega) (by rw [hRl]; simp [nativeFrameWords]; omega) (by decide +kernel : decode cX7_start 26 = .ok (.invokestatic 27, 3))))
    (ms_lf (ms_aload_n (k := 1) hx hb rfl (by decide +kernel : decode cX7_start 29 = .ok (.aload_n 1, 1)))))
    (ms_b (ms_lf (ms_getf (C := RX3) (T := TX3) (N := 12) hx hb hf hts (fun w h => hAW w (inq_3 w h)) hown hK rfl (by decide) (hts _ (hAW _ qw_288)) rfl (by decide +kernel : decode cX7_start 30 = .ok (.getfield 34, 3))))
    (ms_b (ms_lf (ms_iconst hx hb (by decide) (by decide +kernel : decode cX7_start 33 = .ok (.iconst 0, 1))))
    (ms_lf (ms_aload_n (k := 0) hx hb rfl (by decide +kernel : decode cX7_start 34 = .ok (.aload_n 0, 1)))))))))
    (ms_b (ms_b (ms_b (ms_b (ms_lf (ms_getf (C := RX7) (T := TX7) (N := 7) hx hb hf hts (fun w h => hAW w (inq_7 w h)) hown hK rfl (by decide) (hts _ (hAW _ qw_571)) rfl (by decide +kernel : decode cX7_start 35 = .ok (.getfield 18, 3))))
    (ms_lf (ms_iconst hx hb (by decide) (by decide +kernel : decode cX7_start 38 = .ok (.iconst 0, 1)))))
    (ms_b (ms_lf (ms_aload_n (k := 0) hx hb rfl (by decide +kernel : decode cX7_start 39 = .ok (.aload_n 0, 1))))
    (ms_b (ms_lf (ms_getf (C := RX7) (T := TX7) (N := 7) hx hb hf hts (fun w h => hAW w (inq_7 w h)) hown hK rfl (by decide) (hts _ (hAW _ qw_571)) rfl (by decide +kernel : decode cX7_start 40 = .ok (.getfield 18, 3))))
    (ms_lf (ms_alen hx hb hf hA hX (by decide +kernel : decode cX7_start 43 = .ok (.arraylength, 1)))))))
    (ms_b (ms_b (ms_lf (ms_ac hx hb hml hf hA hown (hts _ (hAW _ qw_847)) (hts _ (hAW _ qw_408)) (hts _ (hAW _ qw_407)) (hts _ (hAW _ qw_128)) (by omega) (by rw [hRl]; simp [nativeFrameWords]; omega) (by decide +kernel : decode cX7_start 44 = .ok (.invokestatic 27, 3))))
    (ms_lf (ms_aload_n (k := 0) hx hb rfl (by decide +kernel : decode cX7_start 47 = .ok (.aload_n 0, 1)))))
    (ms_b (ms_lf (ms_getf (C := RX7) (T := TX7) (N := 7) hx hb hf hts (fun w h => hAW w (inq_7 w h)) hown hK rfl (by decide) (hts _ (hAW _ qw_575)) rfl (by decide +kernel : decode cX7_start 48 = .ok (.getfield 21, 3))))
    (ms_b (ms_lf (ms_iconst hx hb (by decide) (by decide +kernel : decode cX7_start 51 = .ok (.iconst 0, 1))))
    (ms_lf (ms_ivS hx hb hml hown hts hgo hEX (mm_GS hAW (mm_GI hAW gi_299) qw_848 qw_821 qw_136) rfl hd_299 (mm_rm hRf hRl (Nat.le_of_ble_eq_true rfl)) (by decide +kernel : decode cX7_start 52 = .ok (.invokestatic 35, 3))))))))
    (ms_b (ms_b (ms_b (ms_lf (ms_aload_n (k := 0) hx hb rfl (by decide +kernel : decode cX7_start 55 = .ok (.aload_n 0, 1))))
    (ms_lf (ms_aload_n (k := 1) hx hb rfl (by decide +kernel : decode cX7_start 56 = .ok (.aload_n 1, 1)))))
    (ms_b (ms_lf (ms_getf (C := RX3) (T := TX3) (N := 12) hx hb hf hts (fun w h => hAW w (inq_3 w h)) hown hK rfl (by decide) (hts _ (hAW _ qw_274)) rfl (by decide +kernel : decode cX7_start 57 = .ok (.getfield 41, 3))))
    (ms_b (ms_lf (ms_put (C := RX7) (T := TX7) (N := 7) hx hb hf hts (fun w h => hAW w (inq_7 w h)) tyX7 tyX7_ok nmX7 hown hK rfl (by decide) (hts _ (hAW _ qw_578)) rfl rfl rfl (by decide +kernel : decode cX7_start 60 = .ok (.putfield 45, 3))))
    (ms_lf (ms_aload_n (k := 0) hx hb rfl (by decide +kernel : decode cX7_start 63 = .ok (.aload_n 0, 1)))))))
    (ms_b (ms_b (ms_lf (ms_iconst hx hb (by decide) (by decide +kernel : decode cX7_start 64 = .ok (.iconst 0, 1))))
    (ms_b (ms_lf (ms_put (C := RX7) (T := TX7) (N := 7) hx hb hf hts (fun w h => hAW w (inq_7 w h)) tyX7 tyX7_ok nmX7 hown hK rfl (by decide) (hts _ (hAW _ qw_580)) rfl rfl rfl (by decide +kernel : decode cX7_start 65 = .ok (.putfield 46, 3))))
    (ms_lf (ms_aload_n (k := 0) hx hb rfl (by decide +kernel : decode cX7_start 68 = .ok (.aload_n 0, 1))))))
    (ms_b (ms_lf (ms_iconst hx hb (by decide) (by decide +kernel : decode cX7_start 69 = .ok (.iconst 0, 1))))
    (ms_b (ms_lf (ms_put (C := RX7) (T := TX7) (N := 7) hx hb hf hts (fun w h => hAW w (inq_7 w h)) tyX7 tyX7_ok nmX7 hown hK rfl (by decide) (hts _ (hAW _ qw_583)) rfl rfl rfl (by decide +kernel : decode cX7_start 70 = .ok (.putfield 49, 3))))
    (ms_lf (ms_ret hx hb hr hlk (by decide +kernel : decode cX7_start 73 = .ok (.return_, 1))))))))))
set_option maxRecDepth 100000 in
set_option maxHeartbeats 8000000 in
/-- TippedCrates$State.copyOf -/
theorem sd_76 (l : Launch) (f : Nat → Nat) (D : va_G) (cA : FieldType → ClassId) (d : Nat) : mm_Ok2 l f D cA d (yX7_copyOf, cX7_copyOf, 2, none, mc_76) := by
  intro p e R s m args below meth c C hRf hRl pc
  obtain ⟨hx, hb, hml, hr, hlk, hnm, hown, hts, hEX, hgo, hf⟩ := C
  obtain ⟨hK, hA, hX, hZs, hZc, hZq, hTx, hSR0, hSR1, hAO, hN⟩ := id hEX
  have hAW : ∀ w ∈ mm_AW, w ∈ (Cond.code yX7_copyOf cX7_copyOf 2 none :: mm_AW) := fun w h => List.mem_cons_of_mem _ h
  have hown : s.vm.findClass "TippedCrates$State" = some m.cls := hown
  show mm_S p l e R s m args below meth c f D mm_cl cA 2 _ pc (mc_76 pc)
  unfold mc_76
  exact (ms_b (ms_b (ms_b (ms_b (ms_b (ms_lf (ms_aload_n (k := 1) hx hb rfl (by decide +kernel : decode cX7_copyOf 0 = .ok (.aload_n 1, 1))))
    (ms_lf (ms_getf (C := RX7) (T := TX7) (N := 7) hx hb hf hts (fun w h => hAW w (inq_7 w h)) hown hK rfl (by decide) (hts _ (hAW _ qw_564)) rfl (by decide +kernel : decode cX7_copyOf 1 = .ok (.getfield 9, 3)))))
    (ms_b (ms_lf (ms_iconst hx hb (by decide) (by decide +kernel : decode cX7_copyOf 4 = .ok (.iconst 0, 1))))
    (ms_b (ms_lf (ms_aload_n (k := 0) hx hb rfl (by decide +kernel : decode cX7_copyOf 5 = .ok (.aload_n 0, 1))))
    (ms_lf (ms_getf (C := RX7) (T := TX7) (N := 7) hx hb hf hts (fun w h => hAW w (inq_7 w h)) hown hK rfl (by decide) (hts _ (hAW _ qw_564)) rfl (by decide +kernel : decode cX7_copyOf 6 = .ok (.getfield 9, 3)))))))
    (ms_b (ms_b (ms_lf (ms_iconst hx hb (by decide) (by decide +kernel : decode cX7_copyOf 9 = .ok (.iconst 0, 1))))
    (ms_b (ms_lf (ms_bipush hx hb (by decide) (by decide +kernel : decode cX7_copyOf 10 = .ok (.bipush 25, 2))))
    (ms_lf (ms_ac hx hb hml hf hA hown (hts _ (hAW _ qw_847)) (hts _ (hAW _ qw_408)) (hts _ (hAW _ qw_407)) (hts _ (hAW _ qw_128)) (by omega) (by rw [hRl]; simp [nativeFrameWords]; omega) (by decide +kernel : decode cX7_copyOf 12 = .ok (.invokestatic 27, 3))))))
    (ms_b (ms_lf (ms_aload_n (k := 1) hx hb rfl (by decide +kernel : decode cX7_copyOf 15 = .ok (.aload_n 1, 1))))
    (ms_b (ms_lf (ms_getf (C := RX7) (T := TX7) (N := 7) hx hb hf hts (fun w h => hAW w (inq_7 w h)) hown hK rfl (by decide) (hts _ (hAW _ qw_567)) rfl (by decide +kernel : decode cX7_copyOf 16 = .ok (.getfield 15, 3))))
    (ms_lf (ms_iconst hx hb (by decide) (by decide +kernel : decode cX7_copyOf 19 = .ok (.iconst 0, 1))))))))
    (ms_b (ms_b (ms_b (ms_lf (ms_aload_n (k := 0) hx hb rfl (by decide +kernel : decode cX7_copyOf 20 = .ok (.aload_n 0, 1))))
    (ms_b (ms_lf (ms_getf (C := RX7) (T := TX7) (N := 7) hx hb hf hts (fun w h => hAW w (inq_7 w h)) hown hK rfl (by decide) (hts _ (hAW _ qw_567)) rfl (by decide +kernel : decode cX7_copyOf 21 = .ok (.getfield 15, 3))))
    (ms_lf (ms_iconst hx hb (by decide) (by decide +kernel : decode cX7_copyOf 24 = .ok (.iconst 0, 1))))))
    (ms_b (ms_lf (ms_iconst hx hb (by decide) (by decide +kernel : decode cX7_copyOf 25 = .ok (.iconst 3, 1))))
    (ms_b (ms_lf (ms_ac hx hb hml hf hA hown (hts _ (hAW _ qw_847)) (hts _ (hAW _ qw_408)) (hts _ (hAW _ qw_407)) (hts _ (hAW _ qw_128)) (by omega) (by rw [hRl]; simp [nativeFrameWords]; omega) (by decide +kernel : decode cX7_copyOf 26 = .ok (.invokestatic 27, 3))))
    (ms_lf (ms_aload_n (k := 1) hx hb rfl (by decide +kernel : decode cX7_copyOf 29 = .ok (.aload_n 1, 1)))))))
    (ms_b (ms_b (ms_lf (ms_getf (C := RX7) (T := TX7) (N := 7) hx hb hf hts (fun w h => hAW w (inq_7 w h)) hown hK rfl (by decide) (hts _ (hAW _ qw_571)) rfl (by decide +kernel : decode cX7_copyOf 30 = .ok (.getfield 18, 3))))
    (ms_b (ms_lf (ms_iconst hx hb (by decide) (by decide +kernel : decode cX7_copyOf 33 = .ok (.iconst 0, 1))))
    (ms_lf (ms_aload_n (k := 0) hx hb rfl (by decide +kernel : decode cX7_copyOf 34 = .ok (.aload_n 0, 1))))))
    (ms_b (ms_lf (ms_getf (C := RX7) (T := TX7) (N := 7) hx hb hf hts (fun w h => hAW w (inq_7 w h)) hown hK rfl (by decide) (hts _ (hAW _ qw_571)) rfl (by decide +kernel : decode cX7_copyOf 35 = .ok (.getfield 18, 3))))
    (ms_b (ms_lf (ms_iconst hx hb (by decide) (by decide +kernel : decode cX7_copyOf 38 = .ok (.iconst 0, 1))))
    (ms_lf (ms_aload_n (k := 0) hx hb rfl (by decide +kernel : decode cX7_copyOf 39 = .ok (.aload_n 0, 1)))))))))
    (ms_b (ms_b (ms_b (ms_b (ms_lf (ms_getf (C := RX7) (T := TX7) (N := 7) hx hb hf hts (fun w h => hAW w (inq_7 w h)) hown hK rfl (by decide) (hts _ (hAW _ qw_571)) rfl (by decide +kernel : decode cX7_copyOf 40 = .ok (.getfield 18, 3))))
    (ms_b (ms_lf (ms_alen hx hb hf hA hX (by decide +kernel : decode cX7_copyOf 43 = .ok (.arraylength, 1))))
    (ms_lf (ms_ac hx hb hml hf hA hown (hts _ (hAW _ qw_847)) (hts _ (hAW _ qw_408)) (hts _ (hAW _ qw_407)) (hts _ (hAW _ qw_128)) (by omega) (by rw [hRl]; simp [nativeFrameWords]; omega) (by decide +kernel : decode cX7_copyOf 44 = .ok (.invokestatic 27, 3))))))
    (ms_b (ms_lf (ms_aload_n (k := 1) hx hb rfl (by decide +kernel : decode cX7_copyOf 47 = .ok (.aload_n 1, 1))))
    (ms_b (ms_lf (ms_getf (C := RX7) (T := TX7) (N := 7) hx hb hf hts (fun w h => hAW w (inq_7 w h)) hown hK rfl (by decide) (hts _ (hAW _ qw_575)) rfl (by decide +kernel : decode cX7_copyOf 48 = .ok (.getfield 21, 3))))
    (ms_lf (ms_iconst hx hb (by decide) (by decide +kernel : decode cX7_copyOf 51 = .ok (.iconst 0, 1)))))))
    (ms_b (ms_b (ms_lf (ms_aload_n (k := 0) hx hb rfl (by decide +kernel : decode cX7_copyOf 52 = .ok (.aload_n 0, 1))))
    (ms_b (ms_lf (ms_getf (C := RX7) (T := TX7) (N := 7) hx hb hf hts (fun w h => hAW w (inq_7 w h)) hown hK rfl (by decide) (hts _ (hAW _ qw_575)) rfl (by decide +kernel : decode cX7_copyOf 53 = .ok (.getfield 21, 3))))
    (ms_lf (ms_iconst hx hb (by decide) (by decide +kernel : decode cX7_copyOf 56 = .ok (.iconst 0, 1))))))
    (ms_b (ms_lf (ms_iconst hx hb (by decide) (by decide +kernel : decode cX7_copyOf 57 = .ok (.iconst 3, 1))))
    (ms_b (ms_lf (ms_ac hx hb hml hf hA hown (hts _ (hAW _ qw_847)) (hts _ (hAW _ qw_408)) (hts _ (hAW _ qw_407)) (hts _ (hAW _ qw_128)) (by omega) (by rw [hRl]; simp [nativeFrameWords]; omega) (by decide +kernel : decode cX7_copyOf 58 = .ok (.invokestatic 27, 3))))
    (ms_lf (ms_aload_n (k := 0) hx hb rfl (by decide +kernel : decode cX7_copyOf 61 = .ok (.aload_n 0, 1))))))))
    (ms_b (ms_b (ms_b (ms_lf (ms_aload_n (k := 1) hx hb rfl (by decide +kernel : decode cX7_copyOf 62 = .ok (.aload_n 1, 1))))
    (ms_b (ms_lf (ms_getf (C := RX7) (T := TX7) (N := 7) hx hb hf hts (fun w h => hAW w (inq_7 w h)) hown hK rfl (by decide) (hts _ (hAW _ qw_578)) rfl (by decide +kernel : decode cX7_copyOf 63 = .ok (.getfield 45, 3))))
    (ms_lf (ms_put (C := RX7) (T := TX7) (N := 7) hx hb hf hts (fun w h => hAW w (inq_7 w h)) tyX7 tyX7_ok nmX7 hown hK rfl (by decide) (hts _ (hAW _ qw_578)) rfl rfl rfl (by decide +kernel : decode cX7_copyOf 66 = .ok (.putfield 45, 3))))))
    (ms_b (ms_lf (ms_aload_n (k := 0) hx hb rfl (by decide +kernel : decode cX7_copyOf 69 = .ok (.aload_n 0, 1))))
    (ms_b (ms_lf (ms_aload_n (k := 1) hx hb rfl (by decide +kernel : decode cX7_copyOf 70 = .ok (.aload_n 1, 1))))
    (ms_lf (ms_getf (C := RX7) (T := TX7) (N := 7) hx hb hf hts (fun w h => hAW w (inq_7 w h)) hown hK rfl (by decide) (hts _ (hAW _ qw_580)) rfl (by decide +kernel : decode cX7_copyOf 71 = .ok (.getfield 46, 3)))))))
    (ms_b (ms_b (ms_lf (ms_put (C := RX7) (T := TX7) (N := 7) hx hb hf hts (fun w h => hAW w (inq_7 w h)) tyX7 tyX7_ok nmX7 hown hK rfl (by decide) (hts _ (hAW _ qw_580)) rfl rfl rfl (by decide +kernel : decode cX7_copyOf 74 = .ok (.putfield 46, 3))))
    (ms_b (ms_lf (ms_aload_n (k := 0) hx hb rfl (by decide +kernel : decode cX7_copyOf 77 = .ok (.aload_n 0, 1))))
    (ms_lf (ms_aload_n (k := 1) hx hb rfl (by decide +kernel : decode cX7_copyOf 78 = .ok (.aload_n 1, 1))))))
    (ms_b (ms_lf (ms_getf (C := RX7) (T := TX7) (N := 7) hx hb hf hts (fun w h => hAW w (inq_7 w h)) hown hK rfl (by decide) (hts _ (hAW _ qw_583)) rfl (by decide +kernel : decode cX7_copyOf 79 = .ok (.getfield 49, 3))))
    (ms_b (ms_lf (ms_put (C := RX7) (T := TX7) (N := 7) hx hb hf hts (fun w h => hAW w (inq_7 w h)) tyX7 tyX7_ok nmX7 hown hK rfl (by decide) (hts _ (hAW _ qw_583)) rfl rfl rfl (by decide +kernel : decode cX7_copyOf 82 = .ok (.putfield 49, 3))))
    (ms_lf (ms_ret hx hb hr hlk (by decide +kernel : decode cX7_copyOf 85 = .ok (.return_, 1))))))))))
set_option maxRecDepth 100000 in
set_option maxHeartbeats 8000000 in
/-- TippedCrates$State.crateOn -/
theorem sd_77 (l : Launch) (f : Nat → Nat) (D : va_G) (cA : FieldType → ClassId) (d : Nat) : mm_Ok2 l f D cA d (yX7_crateOn, cX7_crateOn, 3, (some .int), mc_77) := by
  intro p e R s m args below meth c C hRf hRl pc
  obtain ⟨hx, hb, hml, hr, hlk, hnm, hown, hts, hEX, hgo, hf⟩ := C
  obtain ⟨hK, hA, hX, hZs, hZc, hZq, hTx, hSR0, hSR1, hAO, hN⟩ := id hEX
  have hAW : ∀ w ∈ mm_AW, w ∈ (Cond.code yX7_crateOn cX7_crateOn 3 (some .int) :: mm_AW) := fun w h => List.mem_cons_of_mem _ h
  have hown : s.vm.findClass "TippedCrates$State" = some m.cls := hown
  show mm_S p l e R s m args below meth c f D mm_cl cA 3 _ pc (mc_77 pc)
  unfold mc_77
  exact (ms_b (ms_b (ms_b (ms_b (ms_lf (ms_iconst hx hb (by decide) (by decide +kernel : decode cX7_crateOn 0 = .ok (.iconst 0, 1))))
    (ms_lf (ms_istore_n (k := 2) hx hb rfl (by decide : 2 < 3) (by decide +kernel : decode cX7_crateOn 1 = .ok (.istore_n 2, 1)))))
    (ms_b (ms_lf (ms_iload_n (k := 2) hx hb rfl (by decide +kernel : decode cX7_crateOn 2 = .ok (.iload_n 2, 1))))
    (ms_lf (ms_aload_n (k := 0) hx hb rfl (by decide +kernel : decode cX7_crateOn 3 = .ok (.aload_n 0, 1))))))
    (ms_b (ms_b (ms_lf (ms_getf (C := RX7) (T := TX7) (N := 7) hx hb hf hts (fun w h => hAW w (inq_7 w h)) hown hK rfl (by decide) (hts _ (hAW _ qw_578)) rfl (by decide +kernel : decode cX7_crateOn 4 = .ok (.getfield 45, 3))))
    (ms_lf (ms_ic_ge hx hb (by decide) (by decide +kernel : decode cX7_crateOn 7 = .ok (.if_icmp .ge 21, 3)))))
    (ms_b (ms_lf (ms_aload_n (k := 0) hx hb rfl (by decide +kernel : decode cX7_crateOn 10 = .ok (.aload_n 0, 1))))
    (ms_b (ms_lf (ms_getf (C := RX7) (T := TX7) (N := 7) hx hb hf hts (fun w h => hAW w (inq_7 w h)) hown hK rfl (by decide) (hts _ (hAW _ qw_567)) rfl (by decide +kernel : decode cX7_crateOn 11 = .ok (.getfield 15, 3))))
    (ms_lf (ms_iload_n (k := 2) hx hb rfl (by decide +kernel : decode cX7_crateOn 14 = .ok (.iload_n 2, 1))))))))
    (ms_b (ms_b (ms_b (ms_lf (ms_iald hx hb hf hA hX (by decide +kernel : decode cX7_crateOn 15 = .ok (.iaload, 1))))
    (ms_lf (ms_iload_n (k := 1) hx hb rfl (by decide +kernel : decode cX7_crateOn 16 = .ok (.iload_n 1, 1)))))
    (ms_b (ms_lf (ms_ic_ne hx hb (by decide) (by decide +kernel : decode cX7_crateOn 17 = .ok (.if_icmp .ne 5, 3))))
    (ms_lf (ms_iload_n (k := 2) hx hb rfl (by decide +kernel : decode cX7_crateOn 20 = .ok (.iload_n 2, 1))))))
    (ms_b (ms_b (ms_lf (ms_iret hx hb hr hlk (by decide +kernel : decode cX7_crateOn 21 = .ok (.ireturn, 1))))
    (ms_lf (ms_iinc hx hb (by decide) (by decide : 2 < 3) (by decide +kernel : decode cX7_crateOn 22 = .ok (.iinc 2 1, 3)))))
    (ms_b (ms_lf (ms_goto hx hb (by decide) (by decide +kernel : decode cX7_crateOn 25 = .ok (.goto (-23), 3))))
    (ms_b (ms_lf (ms_iconst hx hb (by decide) (by decide +kernel : decode cX7_crateOn 28 = .ok (.iconst (-1), 1))))
    (ms_lf (ms_iret hx hb hr hlk (by decide +kernel : decode cX7_crateOn 29 = .ok (.ireturn, 1)))))))))
set_option maxRecDepth 100000 in
set_option maxHeartbeats 8000000 in
/-- TippedCrates$State.topOf -/
theorem sd_78 (l : Launch) (f : Nat → Nat) (D : va_G) (cA : FieldType → ClassId) (d : Nat) : mm_Ok2 l f D cA d (yX7_topOf, cX7_topOf, 2, (some .int), mc_78) := by
  intro p e R s m args below meth c C hRf hRl pc
  obtain ⟨hx, hb, hml, hr, hlk, hnm, hown, hts, hEX, hgo, hf⟩ := C
  obtain ⟨hK, hA, hX, hZs, hZc, hZq, hTx, hSR0, hSR1, hAO, hN⟩ := id hEX
  have hAW : ∀ w ∈ mm_AW, w ∈ (Cond.code yX7_topOf cX7_topOf 2 (some .int) :: mm_AW) := fun w h => List.mem_cons_of_mem _ h
  have hown : s.vm.findClass "TippedCrates$State" = some m.cls := hown
  show mm_S p l e R s m args below meth c f D mm_cl cA 2 _ pc (mc_78 pc)
  unfold mc_78
  exact (ms_b (ms_b (ms_b (ms_lf (ms_aload_n (k := 0) hx hb rfl (by decide +kernel : decode cX7_topOf 0 = .ok (.aload_n 0, 1))))
    (ms_lf (ms_getf (C := RX7) (T := TX7) (N := 7) hx hb hf hts (fun w h => hAW w (inq_7 w h)) hown hK rfl (by decide) (hts _ (hAW _ qw_571)) rfl (by decide +kernel : decode cX7_topOf 1 = .ok (.getfield 18, 3)))))
    (ms_b (ms_lf (ms_iload_n (k := 1) hx hb rfl (by decide +kernel : decode cX7_topOf 4 = .ok (.iload_n 1, 1))))
    (ms_lf (ms_bipush hx hb (by decide) (by decide +kernel : decode cX7_topOf 5 = .ok (.bipush 6, 2))))))
    (ms_b (ms_b (ms_lf (ms_imul hx hb (by decide +kernel : decode cX7_topOf 7 = .ok (.imul, 1))))
    (ms_lf (ms_iconst hx hb (by decide) (by decide +kernel : decode cX7_topOf 8 = .ok (.iconst 0, 1)))))
    (ms_b (ms_lf (ms_iadd hx hb (by decide +kernel : decode cX7_topOf 9 = .ok (.iadd, 1))))
    (ms_b (ms_lf (ms_iald hx hb hf hA hX (by decide +kernel : decode cX7_topOf 10 = .ok (.iaload, 1))))
    (ms_lf (ms_iret hx hb hr hlk (by decide +kernel : decode cX7_topOf 11 = .ok (.ireturn, 1))))))))
set_option maxRecDepth 100000 in
set_option maxHeartbeats 8000000 in
/-- TippedCrates$State.markedFlags -/
theorem sd_79 (l : Launch) (f : Nat → Nat) (D : va_G) (cA : FieldType → ClassId) (d : Nat) : mm_Ok2 l f D cA d (yX7_markedFlags, cX7_markedFlags, 3, (some .int), mc_79) := by
  intro p e R s m args below meth c C hRf hRl pc
  obtain ⟨hx, hb, hml, hr, hlk, hnm, hown, hts, hEX, hgo, hf⟩ := C
  obtain ⟨hK, hA, hX, hZs, hZc, hZq, hTx, hSR0, hSR1, hAO, hN⟩ := id hEX
  have hAW : ∀ w ∈ mm_AW, w ∈ (Cond.code yX7_markedFlags cX7_markedFlags 3 (some .int) :: mm_AW) := fun w h => List.mem_cons_of_mem _ h
  have hown : s.vm.findClass "TippedCrates$State" = some m.cls := hown
  show mm_S p l e R s m args below meth c f D mm_cl cA 3 _ pc (mc_79 pc)
  unfold mc_79
  exact (ms_b (ms_b (ms_b (ms_b (ms_lf (ms_iconst hx hb (by decide) (by decide +kernel : decode cX7_markedFlags 0 = .ok (.iconst 0, 1))))
    (ms_lf (ms_istore_n (k := 1) hx hb rfl (by decide : 1 < 3) (by decide +kernel : decode cX7_markedFlags 1 = .ok (.istore_n 1, 1)))))
    (ms_b (ms_lf (ms_iconst hx hb (by decide) (by decide +kernel : decode cX7_markedFlags 2 = .ok (.iconst 0, 1))))
    (ms_b (ms_lf (ms_istore_n (k := 2) hx hb rfl (by decide : 2 < 3) (by decide +kernel : decode cX7_markedFlags 3 = .ok (.istore_n 2, 1))))
    (ms_lf (ms_iload_n (k := 2) hx hb rfl (by decide +kernel : decode cX7_markedFlags 4 = .ok (.iload_n 2, 1)))))))
    (ms_b (ms_b (ms_lf (ms_bipush hx hb (by decide) (by decide +kernel : decode cX7_markedFlags 5 = .ok (.bipush 25, 2))))
    (ms_b (ms_lf (ms_ic_ge hx hb (by decide) (by decide +kernel : decode cX7_markedFlags 7 = .ok (.if_icmp .ge 24, 3))))
    (ms_lf (ms_aload_n (k := 0) hx hb rfl (by decide +kernel : decode cX7_markedFlags 10 = .ok (.aload_n 0, 1))))))
    (ms_b (ms_lf (ms_getf (C := RX7) (T := TX7) (N := 7) hx hb hf hts (fun w h => hAW w (inq_7 w h)) hown hK rfl (by decide) (hts _ (hAW _ qw_564)) rfl (by decide +kernel : decode cX7_markedFlags 11 = .ok (.getfield 9, 3))))
    (ms_b (ms_lf (ms_iload_n (k := 2) hx hb rfl (by decide +kernel : decode cX7_markedFlags 14 = .ok (.iload_n 2, 1))))
    (ms_lf (ms_iald hx hb hf hA hX (by decide +kernel : decode cX7_markedFlags 15 = .ok (.iaload, 1))))))))
    (ms_b (ms_b (ms_b (ms_lf (ms_if_le hx hb (by decide) (by decide +kernel : decode cX7_markedFlags 16 = .ok (.ifCond .le 9, 3))))
    (ms_lf (ms_iload_n (k := 1) hx hb rfl (by decide +kernel : decode cX7_markedFlags 19 = .ok (.iload_n 1, 1)))))
    (ms_b (ms_lf (ms_iconst hx hb (by decide) (by decide +kernel : decode cX7_markedFlags 20 = .ok (.iconst 1, 1))))
    (ms_b (ms_lf (ms_iload_n (k := 2) hx hb rfl (by decide +kernel : decode cX7_markedFlags 21 = .ok (.iload_n 2, 1))))
    (ms_lf (ms_ishl hx hb (by decide +kernel : decode cX7_markedFlags 22 = .ok (.ishl, 1)))))))
    (ms_b (ms_b (ms_lf (ms_ior hx hb (by decide +kernel : decode cX7_markedFlags 23 = .ok (.ior, 1))))
    (ms_b (ms_lf (ms_istore_n (k := 1) hx hb rfl (by decide : 1 < 3) (by decide +kernel : decode cX7_markedFlags 24 = .ok (.istore_n 1, 1))))
    (ms_lf (ms_iinc hx hb (by decide) (by decide : 2 < 3) (by decide +kernel : decode cX7_markedFlags 25 = .ok (.iinc 2 1, 3))))))
    (ms_b (ms_lf (ms_goto hx hb (by decide) (by decide +kernel : decode cX7_markedFlags 28 = .ok (.goto (-24), 3))))
    (ms_b (ms_lf (ms_iload_n (k := 1) hx hb rfl (by decide +kernel : decode cX7_markedFlags 31 = .ok (.iload_n 1, 1))))
    (ms_lf (ms_iret hx hb hr hlk (by decide +kernel : decode cX7_markedFlags 32 = .ok (.ireturn, 1)))))))))
set_option maxRecDepth 100000 in
set_option maxHeartbeats 8000000 in
/-- TippedCrates$State.sumOfMarks -/
theorem sd_80 (l : Launch) (f : Nat → Nat) (D : va_G) (cA : FieldType → ClassId) (d : Nat) : mm_Ok2 l f D cA d (yX7_sumOfMarks, cX7_sumOfMarks, 6, (some .int), mc_80) := by
  intro p e R s m args below meth c C hRf hRl pc
  obtain ⟨hx, hb, hml, hr, hlk, hnm, hown, hts, hEX, hgo, hf⟩ := C
  obtain ⟨hK, hA, hX, hZs, hZc, hZq, hTx, hSR0, hSR1, hAO, hN⟩ := id hEX
  have hAW : ∀ w ∈ mm_AW, w ∈ (Cond.code yX7_sumOfMarks cX7_sumOfMarks 6 (some .int) :: mm_AW) := fun w h => List.mem_cons_of_mem _ h
  have hown : s.vm.findClass "TippedCrates$State" = some m.cls := hown
  show mm_S p l e R s m args below meth c f D mm_cl cA 6 _ pc (mc_80 pc)
  unfold mc_80
  exact (ms_b (ms_b (ms_b (ms_b (ms_lf (ms_iconst hx hb (by decide) (by decide +kernel : decode cX7_sumOfMarks 0 = .ok (.iconst 0, 1))))
    (ms_b (ms_lf (ms_istore_n (k := 1) hx hb rfl (by decide : 1 < 6) (by decide +kernel : decode cX7_sumOfMarks 1 = .ok (.istore_n 1, 1))))
    (ms_lf (ms_aload_n (k := 0) hx hb rfl (by decide +kernel : decode cX7_sumOfMarks 2 = .ok (.aload_n 0, 1))))))
    (ms_b (ms_lf (ms_getf (C := RX7) (T := TX7) (N := 7) hx hb hf hts (fun w h => hAW w (inq_7 w h)) hown hK rfl (by decide) (hts _ (hAW _ qw_564)) rfl (by decide +kernel : decode cX7_sumOfMarks 3 = .ok (.getfield 9, 3))))
    (ms_b (ms_lf (ms_astore_n (k := 2) hx hb rfl (by decide : 2 < 6) (by decide +kernel : decode cX7_sumOfMarks 6 = .ok (.astore_n 2, 1))))
    (ms_lf (ms_aload_n (k := 2) hx hb rfl (by decide +kernel : decode cX7_sumOfMarks 7 = .ok (.aload_n 2, 1)))))))
    (ms_b (ms_b (ms_lf (ms_alen hx hb hf hA hX (by decide +kernel : decode cX7_sumOfMarks 8 = .ok (.arraylength, 1))))
    (ms_b (ms_lf (ms_istore_n (k := 3) hx hb rfl (by decide : 3 < 6) (by decide +kernel : decode cX7_sumOfMarks 9 = .ok (.istore_n 3, 1))))
    (ms_lf (ms_iconst hx hb (by decide) (by decide +kernel : decode cX7_sumOfMarks 10 = .ok (.iconst 0, 1))))))
    (ms_b (ms_lf (ms_istore hx hb (by decide : 4 < 6) (by decide +kernel : decode cX7_sumOfMarks 11 = .ok (.istore 4, 2))))
    (ms_b (ms_lf (ms_iload hx hb (by decide +kernel : decode cX7_sumOfMarks 13 = .ok (.iload 4, 2))))
    (ms_lf (ms_iload_n (k := 3) hx hb rfl (by decide +kernel : decode cX7_sumOfMarks 15 = .ok (.iload_n 3, 1))))))))
    (ms_b (ms_b (ms_b (ms_lf (ms_ic_ge hx hb (by decide) (by decide +kernel : decode cX7_sumOfMarks 16 = .ok (.if_icmp .ge 20, 3))))
    (ms_b (ms_lf (ms_aload_n (k := 2) hx hb rfl (by decide +kernel : decode cX7_sumOfMarks 19 = .ok (.aload_n 2, 1))))
    (ms_lf (ms_iload hx hb (by decide +kernel : decode cX7_sumOfMarks 20 = .ok (.iload 4, 2))))))
    (ms_b (ms_lf (ms_iald hx hb hf hA hX (by decide +kernel : decode cX7_sumOfMarks 22 = .ok (.iaload, 1))))
    (ms_b (ms_lf (ms_istore hx hb (by decide : 5 < 6) (by decide +kernel : decode cX7_sumOfMarks 23 = .ok (.istore 5, 2))))
    (ms_lf (ms_iload_n (k := 1) hx hb rfl (by decide +kernel : decode cX7_sumOfMarks 25 = .ok (.iload_n 1, 1)))))))
    (ms_b (ms_b (ms_lf (ms_iload hx hb (by decide +kernel : decode cX7_sumOfMarks 26 = .ok (.iload 5, 2))))
    (ms_b (ms_lf (ms_iadd hx hb (by decide +kernel : decode cX7_sumOfMarks 28 = .ok (.iadd, 1))))
    (ms_lf (ms_istore_n (k := 1) hx hb rfl (by decide : 1 < 6) (by decide +kernel : decode cX7_sumOfMarks 29 = .ok (.istore_n 1, 1))))))
    (ms_b (ms_b (ms_lf (ms_iinc hx hb (by decide) (by decide : 4 < 6) (by decide +kernel : decode cX7_sumOfMarks 30 = .ok (.iinc 4 1, 3))))
    (ms_lf (ms_goto hx hb (by decide) (by decide +kernel : decode cX7_sumOfMarks 33 = .ok (.goto (-20), 3)))))
    (ms_b (ms_lf (ms_iload_n (k := 1) hx hb rfl (by decide +kernel : decode cX7_sumOfMarks 36 = .ok (.iload_n 1, 1))))
    (ms_lf (ms_iret hx hb hr hlk (by decide +kernel : decode cX7_sumOfMarks 37 = .ok (.ireturn, 1)))))))))
set_option maxRecDepth 100000 in
set_option maxHeartbeats 8000000 in
/-- TippedCrates$State.greatestMark -/
theorem sd_81 (l : Launch) (f : Nat → Nat) (D : va_G) (cA : FieldType → ClassId) (d : Nat) : mm_Ok2 l f D cA d (yX7_greatestMark, cX7_greatestMark, 6, (some .int), mc_81) := by
  intro p e R s m args below meth c C hRf hRl pc
  obtain ⟨hx, hb, hml, hr, hlk, hnm, hown, hts, hEX, hgo, hf⟩ := C
  obtain ⟨hK, hA, hX, hZs, hZc, hZq, hTx, hSR0, hSR1, hAO, hN⟩ := id hEX
  have hAW : ∀ w ∈ mm_AW, w ∈ (Cond.code yX7_greatestMark cX7_greatestMark 6 (some .int) :: mm_AW) := fun w h => List.mem_cons_of_mem _ h
  have hown : s.vm.findClass "TippedCrates$State" = some m.cls := hown
  show mm_S p l e R s m args below meth c f D mm_cl cA 6 _ pc (mc_81 pc)
  unfold mc_81
  exact (ms_b (ms_b (ms_b (ms_b (ms_lf (ms_iconst hx hb (by decide) (by decide +kernel : decode cX7_greatestMark 0 = .ok (.iconst 0, 1))))
    (ms_b (ms_lf (ms_istore_n (k := 1) hx hb rfl (by decide : 1 < 6) (by decide +kernel : decode cX7_greatestMark 1 = .ok (.istore_n 1, 1))))
    (ms_lf (ms_aload_n (k := 0) hx hb rfl (by decide +kernel : decode cX7_greatestMark 2 = .ok (.aload_n 0, 1))))))
    (ms_b (ms_lf (ms_getf (C := RX7) (T := TX7) (N := 7) hx hb hf hts (fun w h => hAW w (inq_7 w h)) hown hK rfl (by decide) (hts _ (hAW _ qw_564)) rfl (by decide +kernel : decode cX7_greatestMark 3 = .ok (.getfield 9, 3))))
    (ms_b (ms_lf (ms_astore_n (k := 2) hx hb rfl (by decide : 2 < 6) (by decide +kernel : decode cX7_greatestMark 6 = .ok (.astore_n 2, 1))))
    (ms_lf (ms_aload_n (k := 2) hx hb rfl (by decide +kernel : decode cX7_greatestMark 7 = .ok (.aload_n 2, 1)))))))
    (ms_b (ms_b (ms_lf (ms_alen hx hb hf hA hX (by decide +kernel : decode cX7_greatestMark 8 = .ok (.arraylength, 1))))
    (ms_b (ms_lf (ms_istore_n (k := 3) hx hb rfl (by decide : 3 < 6) (by decide +kernel : decode cX7_greatestMark 9 = .ok (.istore_n 3, 1))))
    (ms_lf (ms_iconst hx hb (by decide) (by decide +kernel : decode cX7_greatestMark 10 = .ok (.iconst 0, 1))))))
    (ms_b (ms_lf (ms_istore hx hb (by decide : 4 < 6) (by decide +kernel : decode cX7_greatestMark 11 = .ok (.istore 4, 2))))
    (ms_b (ms_lf (ms_iload hx hb (by decide +kernel : decode cX7_greatestMark 13 = .ok (.iload 4, 2))))
    (ms_lf (ms_iload_n (k := 3) hx hb rfl (by decide +kernel : decode cX7_greatestMark 15 = .ok (.iload_n 3, 1))))))))
    (ms_b (ms_b (ms_b (ms_lf (ms_ic_ge hx hb (by decide) (by decide +kernel : decode cX7_greatestMark 16 = .ok (.if_icmp .ge 22, 3))))
    (ms_b (ms_lf (ms_aload_n (k := 2) hx hb rfl (by decide +kernel : decode cX7_greatestMark 19 = .ok (.aload_n 2, 1))))
    (ms_lf (ms_iload hx hb (by decide +kernel : decode cX7_greatestMark 20 = .ok (.iload 4, 2))))))
    (ms_b (ms_lf (ms_iald hx hb hf hA hX (by decide +kernel : decode cX7_greatestMark 22 = .ok (.iaload, 1))))
    (ms_b (ms_lf (ms_istore hx hb (by decide : 5 < 6) (by decide +kernel : decode cX7_greatestMark 23 = .ok (.istore 5, 2))))
    (ms_lf (ms_iload_n (k := 1) hx hb rfl (by decide +kernel : decode cX7_greatestMark 25 = .ok (.iload_n 1, 1)))))))
    (ms_b (ms_b (ms_lf (ms_iload hx hb (by decide +kernel : decode cX7_greatestMark 26 = .ok (.iload 5, 2))))
    (ms_b (ms_lf (ms_mmax hx hb hml hown (hts _ (hAW _ qw_1366)) (hts _ (hAW _ qw_688)) (hts _ (hAW _ qw_134)) (hts _ (hAW _ qw_689)) (by omega) (by omega) (by decide +kernel : decode cX7_greatestMark 28 = .ok (.invokestatic 52, 3))))
    (ms_lf (ms_istore_n (k := 1) hx hb rfl (by decide : 1 < 6) (by decide +kernel : decode cX7_greatestMark 31 = .ok (.istore_n 1, 1))))))
    (ms_b (ms_b (ms_lf (ms_iinc hx hb (by decide) (by decide : 4 < 6) (by decide +kernel : decode cX7_greatestMark 32 = .ok (.iinc 4 1, 3))))
    (ms_lf (ms_goto hx hb (by decide) (by decide +kernel : decode cX7_greatestMark 35 = .ok (.goto (-22), 3)))))
    (ms_b (ms_lf (ms_iload_n (k := 1) hx hb rfl (by decide +kernel : decode cX7_greatestMark 38 = .ok (.iload_n 1, 1))))
    (ms_lf (ms_iret hx hb hr hlk (by decide +kernel : decode cX7_greatestMark 39 = .ok (.ireturn, 1)))))))))
set_option maxRecDepth 100000 in
set_option maxHeartbeats 8000000 in
/-- TippedCrates$State.allTips -/
theorem sd_82 (l : Launch) (f : Nat → Nat) (D : va_G) (cA : FieldType → ClassId) (d : Nat) : mm_Ok2 l f D cA d (yX7_allTips, cX7_allTips, 6, (some .int), mc_82) := by
  intro p e R s m args below meth c C hRf hRl pc
  obtain ⟨hx, hb, hml, hr, hlk, hnm, hown, hts, hEX, hgo, hf⟩ := C
  obtain ⟨hK, hA, hX, hZs, hZc, hZq, hTx, hSR0, hSR1, hAO, hN⟩ := id hEX
  have hAW : ∀ w ∈ mm_AW, w ∈ (Cond.code yX7_allTips cX7_allTips 6 (some .int) :: mm_AW) := fun w h => List.mem_cons_of_mem _ h
  have hown : s.vm.findClass "TippedCrates$State" = some m.cls := hown
  show mm_S p l e R s m args below meth c f D mm_cl cA 6 _ pc (mc_82 pc)
  unfold mc_82
  exact (ms_b (ms_b (ms_b (ms_b (ms_lf (ms_iconst hx hb (by decide) (by decide +kernel : decode cX7_allTips 0 = .ok (.iconst 0, 1))))
    (ms_b (ms_lf (ms_istore_n (k := 1) hx hb rfl (by decide : 1 < 6) (by decide +kernel : decode cX7_allTips 1 = .ok (.istore_n 1, 1))))
    (ms_lf (ms_aload_n (k := 0) hx hb rfl (by decide +kernel : decode cX7_allTips 2 = .ok (.aload_n 0, 1))))))
    (ms_b (ms_lf (ms_getf (C := RX7) (T := TX7) (N := 7) hx hb hf hts (fun w h => hAW w (inq_7 w h)) hown hK rfl (by decide) (hts _ (hAW _ qw_575)) rfl (by decide +kernel : decode cX7_allTips 3 = .ok (.getfield 21, 3))))
    (ms_b (ms_lf (ms_astore_n (k := 2) hx hb rfl (by decide : 2 < 6) (by decide +kernel : decode cX7_allTips 6 = .ok (.astore_n 2, 1))))
    (ms_lf (ms_aload_n (k := 2) hx hb rfl (by decide +kernel : decode cX7_allTips 7 = .ok (.aload_n 2, 1)))))))
    (ms_b (ms_b (ms_lf (ms_alen hx hb hf hA hX (by decide +kernel : decode cX7_allTips 8 = .ok (.arraylength, 1))))
    (ms_b (ms_lf (ms_istore_n (k := 3) hx hb rfl (by decide : 3 < 6) (by decide +kernel : decode cX7_allTips 9 = .ok (.istore_n 3, 1))))
    (ms_lf (ms_iconst hx hb (by decide) (by decide +kernel : decode cX7_allTips 10 = .ok (.iconst 0, 1))))))
    (ms_b (ms_lf (ms_istore hx hb (by decide : 4 < 6) (by decide +kernel : decode cX7_allTips 11 = .ok (.istore 4, 2))))
    (ms_b (ms_lf (ms_iload hx hb (by decide +kernel : decode cX7_allTips 13 = .ok (.iload 4, 2))))
    (ms_lf (ms_iload_n (k := 3) hx hb rfl (by decide +kernel : decode cX7_allTips 15 = .ok (.iload_n 3, 1))))))))
    (ms_b (ms_b (ms_b (ms_lf (ms_ic_ge hx hb (by decide) (by decide +kernel : decode cX7_allTips 16 = .ok (.if_icmp .ge 20, 3))))
    (ms_b (ms_lf (ms_aload_n (k := 2) hx hb rfl (by decide +kernel : decode cX7_allTips 19 = .ok (.aload_n 2, 1))))
    (ms_lf (ms_iload hx hb (by decide +kernel : decode cX7_allTips 20 = .ok (.iload 4, 2))))))
    (ms_b (ms_lf (ms_iald hx hb hf hA hX (by decide +kernel : decode cX7_allTips 22 = .ok (.iaload, 1))))
    (ms_b (ms_lf (ms_istore hx hb (by decide : 5 < 6) (by decide +kernel : decode cX7_allTips 23 = .ok (.istore 5, 2))))
    (ms_lf (ms_iload_n (k := 1) hx hb rfl (by decide +kernel : decode cX7_allTips 25 = .ok (.iload_n 1, 1)))))))
    (ms_b (ms_b (ms_lf (ms_iload hx hb (by decide +kernel : decode cX7_allTips 26 = .ok (.iload 5, 2))))
    (ms_b (ms_lf (ms_iadd hx hb (by decide +kernel : decode cX7_allTips 28 = .ok (.iadd, 1))))
    (ms_lf (ms_istore_n (k := 1) hx hb rfl (by decide : 1 < 6) (by decide +kernel : decode cX7_allTips 29 = .ok (.istore_n 1, 1))))))
    (ms_b (ms_b (ms_lf (ms_iinc hx hb (by decide) (by decide : 4 < 6) (by decide +kernel : decode cX7_allTips 30 = .ok (.iinc 4 1, 3))))
    (ms_lf (ms_goto hx hb (by decide) (by decide +kernel : decode cX7_allTips 33 = .ok (.goto (-20), 3)))))
    (ms_b (ms_lf (ms_iload_n (k := 1) hx hb rfl (by decide +kernel : decode cX7_allTips 36 = .ok (.iload_n 1, 1))))
    (ms_lf (ms_iret hx hb hr hlk (by decide +kernel : decode cX7_allTips 37 = .ok (.ireturn, 1)))))))))
set_option maxRecDepth 100000 in
set_option maxHeartbeats 8000000 in
/-- TippedCrates$State.flagsWithCrates -/
theorem sd_83 (l : Launch) (f : Nat → Nat) (D : va_G) (cA : FieldType → ClassId) (d : Nat) : mm_Ok2 l f D cA d (yX7_flagsWithCrates, cX7_flagsWithCrates, 3, (some .int), mc_83) := by
  intro p e R s m args below meth c C hRf hRl pc
  obtain ⟨hx, hb, hml, hr, hlk, hnm, hown, hts, hEX, hgo, hf⟩ := C
  obtain ⟨hK, hA, hX, hZs, hZc, hZq, hTx, hSR0, hSR1, hAO, hN⟩ := id hEX
  have hAW : ∀ w ∈ mm_AW, w ∈ (Cond.code yX7_flagsWithCrates cX7_flagsWithCrates 3 (some .int) :: mm_AW) := fun w h => List.mem_cons_of_mem _ h
  have hown : s.vm.findClass "TippedCrates$State" = some m.cls := hown
  show mm_S p l e R s m args below meth c f D mm_cl cA 3 _ pc (mc_83 pc)
  unfold mc_83
  exact (ms_b (ms_b (ms_b (ms_b (ms_lf (ms_iconst hx hb (by decide) (by decide +kernel : decode cX7_flagsWithCrates 0 = .ok (.iconst 0, 1))))
    (ms_lf (ms_istore_n (k := 1) hx hb rfl (by decide : 1 < 3) (by decide +kernel : decode cX7_flagsWithCrates 1 = .ok (.istore_n 1, 1)))))
    (ms_b (ms_lf (ms_iconst hx hb (by decide) (by decide +kernel : decode cX7_flagsWithCrates 2 = .ok (.iconst 0, 1))))
    (ms_b (ms_lf (ms_istore_n (k := 2) hx hb rfl (by decide : 2 < 3) (by decide +kernel : decode cX7_flagsWithCrates 3 = .ok (.istore_n 2, 1))))
    (ms_lf (ms_iload_n (k := 2) hx hb rfl (by decide +kernel : decode cX7_flagsWithCrates 4 = .ok (.iload_n 2, 1)))))))
    (ms_b (ms_b (ms_lf (ms_aload_n (k := 0) hx hb rfl (by decide +kernel : decode cX7_flagsWithCrates 5 = .ok (.aload_n 0, 1))))
    (ms_lf (ms_getf (C := RX7) (T := TX7) (N := 7) hx hb hf hts (fun w h => hAW w (inq_7 w h)) hown hK rfl (by decide) (hts _ (hAW _ qw_578)) rfl (by decide +kernel : decode cX7_flagsWithCrates 6 = .ok (.getfield 45, 3)))))
    (ms_b (ms_lf (ms_ic_ge hx hb (by decide) (by decide +kernel : decode cX7_flagsWithCrates 9 = .ok (.if_icmp .ge 20, 3))))
    (ms_b (ms_lf (ms_iload_n (k := 1) hx hb rfl (by decide +kernel : decode cX7_flagsWithCrates 12 = .ok (.iload_n 1, 1))))
    (ms_lf (ms_iconst hx hb (by decide) (by decide +kernel : decode cX7_flagsWithCrates 13 = .ok (.iconst 1, 1))))))))
    (ms_b (ms_b (ms_b (ms_lf (ms_aload_n (k := 0) hx hb rfl (by decide +kernel : decode cX7_flagsWithCrates 14 = .ok (.aload_n 0, 1))))
    (ms_lf (ms_getf (C := RX7) (T := TX7) (N := 7) hx hb hf hts (fun w h => hAW w (inq_7 w h)) hown hK rfl (by decide) (hts _ (hAW _ qw_567)) rfl (by decide +kernel : decode cX7_flagsWithCrates 15 = .ok (.getfield 15, 3)))))
    (ms_b (ms_lf (ms_iload_n (k := 2) hx hb rfl (by decide +kernel : decode cX7_flagsWithCrates 18 = .ok (.iload_n 2, 1))))
    (ms_b (ms_lf (ms_iald hx hb hf hA hX (by decide +kernel : decode cX7_flagsWithCrates 19 = .ok (.iaload, 1))))
    (ms_lf (ms_ishl hx hb (by decide +kernel : decode cX7_flagsWithCrates 20 = .ok (.ishl, 1)))))))
    (ms_b (ms_b (ms_lf (ms_ior hx hb (by decide +kernel : decode cX7_flagsWithCrates 21 = .ok (.ior, 1))))
    (ms_b (ms_lf (ms_istore_n (k := 1) hx hb rfl (by decide : 1 < 3) (by decide +kernel : decode cX7_flagsWithCrates 22 = .ok (.istore_n 1, 1))))
    (ms_lf (ms_iinc hx hb (by decide) (by decide : 2 < 3) (by decide +kernel : decode cX7_flagsWithCrates 23 = .ok (.iinc 2 1, 3))))))
    (ms_b (ms_lf (ms_goto hx hb (by decide) (by decide +kernel : decode cX7_flagsWithCrates 26 = .ok (.goto (-22), 3))))
    (ms_b (ms_lf (ms_iload_n (k := 1) hx hb rfl (by decide +kernel : decode cX7_flagsWithCrates 29 = .ok (.iload_n 1, 1))))
    (ms_lf (ms_iret hx hb hr hlk (by decide +kernel : decode cX7_flagsWithCrates 30 = .ok (.ireturn, 1)))))))))
set_option maxRecDepth 100000 in
set_option maxHeartbeats 8000000 in
/-- TippedCrates$State.sumOfTops -/
theorem sd_84 (l : Launch) (f : Nat → Nat) (D : va_G) (cA : FieldType → ClassId) (d : Nat) : mm_Ok2 l f D cA d (yX7_sumOfTops, cX7_sumOfTops, 3, (some .int), mc_84) := by
  intro p e R s m args below meth c C hRf hRl pc
  obtain ⟨hx, hb, hml, hr, hlk, hnm, hown, hts, hEX, hgo, hf⟩ := C
  obtain ⟨hK, hA, hX, hZs, hZc, hZq, hTx, hSR0, hSR1, hAO, hN⟩ := id hEX
  have hAW : ∀ w ∈ mm_AW, w ∈ (Cond.code yX7_sumOfTops cX7_sumOfTops 3 (some .int) :: mm_AW) := fun w h => List.mem_cons_of_mem _ h
  have hown : s.vm.findClass "TippedCrates$State" = some m.cls := hown
  show mm_S p l e R s m args below meth c f D mm_cl cA 3 _ pc (mc_84 pc)
  unfold mc_84
  exact (ms_b (ms_b (ms_b (ms_b (ms_lf (ms_iconst hx hb (by decide) (by decide +kernel : decode cX7_sumOfTops 0 = .ok (.iconst 0, 1))))
    (ms_lf (ms_istore_n (k := 1) hx hb rfl (by decide : 1 < 3) (by decide +kernel : decode cX7_sumOfTops 1 = .ok (.istore_n 1, 1)))))
    (ms_b (ms_lf (ms_iconst hx hb (by decide) (by decide +kernel : decode cX7_sumOfTops 2 = .ok (.iconst 0, 1))))
    (ms_lf (ms_istore_n (k := 2) hx hb rfl (by decide : 2 < 3) (by decide +kernel : decode cX7_sumOfTops 3 = .ok (.istore_n 2, 1))))))
    (ms_b (ms_b (ms_lf (ms_iload_n (k := 2) hx hb rfl (by decide +kernel : decode cX7_sumOfTops 4 = .ok (.iload_n 2, 1))))
    (ms_lf (ms_aload_n (k := 0) hx hb rfl (by decide +kernel : decode cX7_sumOfTops 5 = .ok (.aload_n 0, 1)))))
    (ms_b (ms_lf (ms_getf (C := RX7) (T := TX7) (N := 7) hx hb hf hts (fun w h => hAW w (inq_7 w h)) hown hK rfl (by decide) (hts _ (hAW _ qw_578)) rfl (by decide +kernel : decode cX7_sumOfTops 6 = .ok (.getfield 45, 3))))
    (ms_b (ms_lf (ms_ic_ge hx hb (by decide) (by decide +kernel : decode cX7_sumOfTops 9 = .ok (.if_icmp .ge 17, 3))))
    (ms_lf (ms_iload_n (k := 1) hx hb rfl (by decide +kernel : decode cX7_sumOfTops 12 = .ok (.iload_n 1, 1))))))))
    (ms_b (ms_b (ms_b (ms_lf (ms_aload_n (k := 0) hx hb rfl (by decide +kernel : decode cX7_sumOfTops 13 = .ok (.aload_n 0, 1))))
    (ms_lf (ms_iload_n (k := 2) hx hb rfl (by decide +kernel : decode cX7_sumOfTops 14 = .ok (.iload_n 2, 1)))))
    (ms_b (ms_lf (ms_ivV (C := RX7) (T := TX7) (N := 7) hx hb hml hown hts hgo hEX hf hK rfl (mm_GV hAW (mm_GI hAW gi_78) qw_1375 qw_1256 qw_1257 qw_133) rfl ⟨rfl, hd_78⟩ (mm_rm hRf hRl (Nat.le_of_ble_eq_true rfl)) (by decide +kernel : decode cX7_sumOfTops 15 = .ok (.invokevirtual 58, 3))))
    (ms_lf (ms_iadd hx hb (by decide +kernel : decode cX7_sumOfTops 18 = .ok (.iadd, 1))))))
    (ms_b (ms_b (ms_lf (ms_istore_n (k := 1) hx hb rfl (by decide : 1 < 3) (by decide +kernel : decode cX7_sumOfTops 19 = .ok (.istore_n 1, 1))))
    (ms_lf (ms_iinc hx hb (by decide) (by decide : 2 < 3) (by decide +kernel : decode cX7_sumOfTops 20 = .ok (.iinc 2 1, 3)))))
    (ms_b (ms_lf (ms_goto hx hb (by decide) (by decide +kernel : decode cX7_sumOfTops 23 = .ok (.goto (-19), 3))))
    (ms_b (ms_lf (ms_iload_n (k := 1) hx hb rfl (by decide +kernel : decode cX7_sumOfTops 26 = .ok (.iload_n 1, 1))))
    (ms_lf (ms_iret hx hb hr hlk (by decide +kernel : decode cX7_sumOfTops 27 = .ok (.ireturn, 1)))))))))
set_option maxRecDepth 100000 in
set_option maxHeartbeats 8000000 in
/-- TippedCrates$Tape.<init> -/
theorem sd_85 (l : Launch) (f : Nat → Nat) (D : va_G) (cA : FieldType → ClassId) (d : Nat) : mm_Ok2 l f D cA d (yX8_init, cX8_init, 6, none, mc_85) := by
  intro p e R s m args below meth c C hRf hRl pc
  obtain ⟨hx, hb, hml, hr, hlk, hnm, hown, hts, hEX, hgo, hf⟩ := C
  obtain ⟨hK, hA, hX, hZs, hZc, hZq, hTx, hSR0, hSR1, hAO, hN⟩ := id hEX
  have hAW : ∀ w ∈ mm_AW, w ∈ (Cond.code yX8_init cX8_init 6 none :: mm_AW) := fun w h => List.mem_cons_of_mem _ h
  have hown : s.vm.findClass "TippedCrates$Tape" = some m.cls := hown
  show mm_S p l e R s m args below meth c f D mm_cl cA 6 _ pc (mc_85 pc)
  unfold mc_85
  exact (ms_b (ms_b (ms_b (ms_b (ms_b (ms_lf (ms_aload_n (k := 0) hx hb rfl (by decide +kernel : decode cX8_init 0 = .ok (.aload_n 0, 1))))
    (ms_b (ms_lf (ms_oi hx hb hml hown (hts _ (hAW _ qw_151)) (hts _ (hAW _ qw_144)) (hts _ (hAW _ qw_145)) (by omega) (by omega) (by decide +kernel : decode cX8_init 1 = .ok (.invokespecial 1, 3))))
    (ms_lf (ms_aload_n (k := 0) hx hb rfl (by decide +kernel : decode cX8_init 4 = .ok (.aload_n 0, 1))))))
    (ms_b (ms_b (ms_lf (ms_sipush hx hb (by decide) (by decide +kernel : decode cX8_init 5 = .ok (.sipush 401, 3))))
    (ms_lf (ms_na (aty := .int) hx hb hf hA rfl (hts _ (hAW _ qw_233)) rfl rfl rfl (by decide) (by decide +kernel : decode cX8_init 8 = .ok (.newarray .int, 2)))))
    (ms_b (ms_lf (ms_putF (C := RX8) (T := TX8) (N := 7) hx hb hf hts (fun w h => hAW w (inq_8 w h)) tyX8 tyX8_ok nmX8 hown hK rfl (by decide) (hts _ (hAW _ qw_209)) rfl rfl hnm rfl rfl (by decide +kernel : decode cX8_init 10 = .ok (.putfield 9, 3))))
    (ms_lf (ms_aload_n (k := 0) hx hb rfl (by decide +kernel : decode cX8_init 13 = .ok (.aload_n 0, 1)))))))
    (ms_b (ms_b (ms_lf (ms_sipush hx hb (by decide) (by decide +kernel : decode cX8_init 14 = .ok (.sipush 401, 3))))
    (ms_b (ms_lf (ms_na (aty := .int) hx hb hf hA rfl (hts _ (hAW _ qw_233)) rfl rfl rfl (by decide) (by decide +kernel : decode cX8_init 17 = .ok (.newarray .int, 2))))
    (ms_lf (ms_putF (C := RX8) (T := TX8) (N := 7) hx hb hf hts (fun w h => hAW w (inq_8 w h)) tyX8 tyX8_ok nmX8 hown hK rfl (by decide) (hts _ (hAW _ qw_211)) rfl rfl hnm rfl rfl (by decide +kernel : decode cX8_init 19 = .ok (.putfield 13, 3))))))
    (ms_b (ms_b (ms_lf (ms_aload_n (k := 0) hx hb rfl (by decide +kernel : decode cX8_init 22 = .ok (.aload_n 0, 1))))
    (ms_lf (ms_sipush hx hb (by decide) (by decide +kernel : decode cX8_init 23 = .ok (.sipush 401, 3)))))
    (ms_b (ms_lf (ms_na (aty := .long) hx hb hf hA rfl (hts _ (hAW _ qw_234)) rfl rfl rfl (by decide) (by decide +kernel : decode cX8_init 26 = .ok (.newarray .long, 2))))
    (ms_lf (ms_putF (C := RX8) (T := TX8) (N := 7) hx hb hf hts (fun w h => hAW w (inq_8 w h)) tyX8 tyX8_ok nmX8 hown hK rfl (by decide) (hts _ (hAW _ qw_213)) rfl rfl hnm rfl rfl (by decide +kernel : decode cX8_init 28 = .ok (.putfield 16, 3))))))))
    (ms_b (ms_b (ms_b (ms_lf (ms_aload_n (k := 0) hx hb rfl (by decide +kernel : decode cX8_init 31 = .ok (.aload_n 0, 1))))
    (ms_b (ms_lf (ms_sipush hx hb (by decide) (by decide +kernel : decode cX8_init 32 = .ok (.sipush 2000, 3))))
    (ms_lf (ms_na (aty := .byte) hx hb hf hA rfl (hts _ (hAW _ qw_235)) rfl rfl rfl (by decide) (by decide +kernel : decode cX8_init 35 = .ok (.newarray .byte, 2))))))
    (ms_b (ms_b (ms_lf (ms_putF (C := RX8) (T := TX8) (N := 7) hx hb hf hts (fun w h => hAW w (inq_8 w h)) tyX8 tyX8_ok nmX8 hown hK rfl (by decide) (hts _ (hAW _ qw_215)) rfl rfl hnm rfl rfl (by decide +kernel : decode cX8_init 37 = .ok (.putfield 20, 3))))
    (ms_lf (ms_aload_n (k := 0) hx hb rfl (by decide +kernel : decode cX8_init 40 = .ok (.aload_n 0, 1)))))
    (ms_b (ms_lf (ms_bipush hx hb (by decide) (by decide +kernel : decode cX8_init 41 = .ok (.bipush 21, 2))))
    (ms_lf (ms_na (aty := .long) hx hb hf hA rfl (hts _ (hAW _ qw_234)) rfl rfl rfl (by decide) (by decide +kernel : decode cX8_init 43 = .ok (.newarray .long, 2)))))))
    (ms_b (ms_b (ms_b (ms_lf (ms_putF (C := RX8) (T := TX8) (N := 7) hx hb hf hts (fun w h => hAW w (inq_8 w h)) tyX8 tyX8_ok nmX8 hown hK rfl (by decide) (hts _ (hAW _ qw_216)) rfl rfl hnm rfl rfl (by decide +kernel : decode cX8_init 45 = .ok (.putfield 24, 3))))
    (ms_lf (ms_iconst hx hb (by decide) (by decide +kernel : decode cX8_init 48 = .ok (.iconst 0, 1)))))
    (ms_b (ms_lf (ms_istore_n (k := 1) hx hb rfl (by decide : 1 < 6) (by decide +kernel : decode cX8_init 49 = .ok (.istore_n 1, 1))))
    (ms_lf (ms_lconst hx hb (by decide) (by decide +kernel : decode cX8_init 50 = .ok (.lconst 0, 1))))))
    (ms_b (ms_b (ms_lf (ms_lstore_n (k := 2) hx hb rfl (by decide : 2 + 1 < 6) (by decide +kernel : decode cX8_init 51 = .ok (.lstore_n 2, 1))))
    (ms_lf (ms_iconst hx hb (by decide) (by decide +kernel : decode cX8_init 52 = .ok (.iconst 0, 1)))))
    (ms_b (ms_lf (ms_istore hx hb (by decide : 4 < 6) (by decide +kernel : decode cX8_init 53 = .ok (.istore 4, 2))))
    (ms_lf (ms_iload hx hb (by decide +kernel : decode cX8_init 55 = .ok (.iload 4, 2)))))))))
    (ms_b (ms_b (ms_b (ms_b (ms_lf (ms_ldS hx hb hown hSR0 (by decide +kernel : decode cX8_init 57 = .ok (.ldc 27, 2))))
    (ms_b (ms_lf (ms_ivX (SB := mm_sb) hx hb hml hown hts hgo hEX hTx (mm_GV hAW (mm_GI hAW gi_288) qw_153 qw_154 qw_155 qw_119) rfl ⟨rfl, hd_288⟩ (mm_rm hRf hRl (Nat.le_of_ble_eq_true rfl)) (by decide +kernel : decode cX8_init 59 = .ok (.invokevirtual 29, 3))))
    (ms_lf (ms_ic_ge hx hb (by decide) (by decide +kernel : decode cX8_init 62 = .ok (.if_icmp .ge 53, 3))))))
    (ms_b (ms_b (ms_lf (ms_ldS hx hb hown hSR0 (by decide +kernel : decode cX8_init 65 = .ok (.ldc 27, 2))))
    (ms_lf (ms_iload hx hb (by decide +kernel : decode cX8_init 67 = .ok (.iload 4, 2)))))
    (ms_b (ms_lf (ms_ivX (SB := mm_sb) hx hb hml hown hts hgo hEX hTx (mm_GV hAW (mm_GI hAW gi_289) qw_163 qw_164 qw_165 qw_119) rfl ⟨rfl, hd_289⟩ (mm_rm hRf hRl (Nat.le_of_ble_eq_true rfl)) (by decide +kernel : decode cX8_init 69 = .ok (.invokevirtual 35, 3))))
    (ms_lf (ms_istore hx hb (by decide : 5 < 6) (by decide +kernel : decode cX8_init 72 = .ok (.istore 5, 2)))))))
    (ms_b (ms_b (ms_lf (ms_iload hx hb (by decide +kernel : decode cX8_init 74 = .ok (.iload 5, 2))))
    (ms_b (ms_lf (ms_bipush hx hb (by decide) (by decide +kernel : decode cX8_init 76 = .ok (.bipush 32, 2))))
    (ms_lf (ms_ic_eq hx hb (by decide) (by decide +kernel : decode cX8_init 78 = .ok (.if_icmp .eq 13, 3))))))
    (ms_b (ms_b (ms_lf (ms_lload_n (k := 2) hx hb rfl (by decide +kernel : decode cX8_init 81 = .ok (.lload_n 2, 1))))
    (ms_lf (ms_iload hx hb (by decide +kernel : decode cX8_init 82 = .ok (.iload 5, 2)))))
    (ms_b (ms_lf (ms_ivS hx hb hml hown hts hgo hEX (mm_GS hAW (mm_GI hAW gi_92) qw_201 qw_202 qw_118) rfl hd_92 (mm_rm hRf hRl (Nat.le_of_ble_eq_true rfl)) (by decide +kernel : decode cX8_init 84 = .ok (.invokestatic 39, 3))))
    (ms_lf (ms_lstore_n (k := 2) hx hb rfl (by decide : 2 + 1 < 6) (by decide +kernel : decode cX8_init 87 = .ok (.lstore_n 2, 1))))))))
    (ms_b (ms_b (ms_b (ms_lf (ms_goto hx hb (by decide) (by decide +kernel : decode cX8_init 88 = .ok (.goto 21, 3))))
    (ms_b (ms_lf (ms_iload_n (k := 1) hx hb rfl (by decide +kernel : decode cX8_init 91 = .ok (.iload_n 1, 1))))
    (ms_lf (ms_bipush hx hb (by decide) (by decide +kernel : decode cX8_init 92 = .ok (.bipush 21, 2))))))
    (ms_b (ms_b (ms_lf (ms_ic_ge hx hb (by decide) (by decide +kernel : decode cX8_init 94 = .ok (.if_icmp .ge 15, 3))))
    (ms_lf (ms_aload_n (k := 0) hx hb rfl (by decide +kernel : decode cX8_init 97 = .ok (.aload_n 0, 1)))))
    (ms_b (ms_lf (ms_getf (C := RX8) (T := TX8) (N := 7) hx hb hf hts (fun w h => hAW w (inq_8 w h)) hown hK rfl (by decide) (hts _ (hAW _ qw_216)) rfl (by decide +kernel : decode cX8_init 98 = .ok (.getfield 24, 3))))
    (ms_lf (ms_iload_n (k := 1) hx hb rfl (by decide +kernel : decode cX8_init 101 = .ok (.iload_n 1, 1)))))))
    (ms_b (ms_b (ms_b (ms_lf (ms_lload_n (k := 2) hx hb rfl (by decide +kernel : decode cX8_init 102 = .ok (.lload_n 2, 1))))
    (ms_lf (ms_last hx hb hf hA (by decide +kernel : decode cX8_init 103 = .ok (.lastore, 1)))))
    (ms_b (ms_lf (ms_iinc hx hb (by decide) (by decide : 1 < 6) (by decide +kernel : decode cX8_init 104 = .ok (.iinc 1 1, 3))))
    (ms_lf (ms_lconst hx hb (by decide) (by decide +kernel : decode cX8_init 107 = .ok (.lconst 0, 1))))))
    (ms_b (ms_b (ms_lf (ms_lstore_n (k := 2) hx hb rfl (by decide : 2 + 1 < 6) (by decide +kernel : decode cX8_init 108 = .ok (.lstore_n 2, 1))))
    (ms_lf (ms_iinc hx hb (by decide) (by decide : 4 < 6) (by decide +kernel : decode cX8_init 109 = .ok (.iinc 4 1, 3)))))
    (ms_b (ms_lf (ms_goto hx hb (by decide) (by decide +kernel : decode cX8_init 112 = .ok (.goto (-57), 3))))
    (ms_lf (ms_ret hx hb hr hlk (by decide +kernel : decode cX8_init 115 = .ok (.return_, 1))))))))))
set_option maxRecDepth 100000 in
set_option maxHeartbeats 8000000 in
/-- TippedCrates$Tape.push -/
theorem sd_86 (l : Launch) (f : Nat → Nat) (D : va_G) (cA : FieldType → ClassId) (d : Nat) : mm_Ok2 l f D cA d (yX8_push, cX8_push, 3, none, mc_86) := by
  intro p e R s m args below meth c C hRf hRl pc
  obtain ⟨hx, hb, hml, hr, hlk, hnm, hown, hts, hEX, hgo, hf⟩ := C
  obtain ⟨hK, hA, hX, hZs, hZc, hZq, hTx, hSR0, hSR1, hAO, hN⟩ := id hEX
  have hAW : ∀ w ∈ mm_AW, w ∈ (Cond.code yX8_push cX8_push 3 none :: mm_AW) := fun w h => List.mem_cons_of_mem _ h
  have hown : s.vm.findClass "TippedCrates$Tape" = some m.cls := hown
  show mm_S p l e R s m args below meth c f D mm_cl cA 3 _ pc (mc_86 pc)
  unfold mc_86
  exact (ms_b (ms_b (ms_b (ms_b (ms_lf (ms_bipush hx hb (by decide) (by decide +kernel : decode cX8_push 0 = .ok (.bipush 24, 2))))
    (ms_b (ms_lf (ms_istore_n (k := 2) hx hb rfl (by decide : 2 < 3) (by decide +kernel : decode cX8_push 2 = .ok (.istore_n 2, 1))))
    (ms_lf (ms_iload_n (k := 2) hx hb rfl (by decide +kernel : decode cX8_push 3 = .ok (.iload_n 2, 1))))))
    (ms_b (ms_lf (ms_if_lt hx hb (by decide) (by decide +kernel : decode cX8_push 4 = .ok (.ifCond .lt 42, 3))))
    (ms_b (ms_lf (ms_aload_n (k := 0) hx hb rfl (by decide +kernel : decode cX8_push 7 = .ok (.aload_n 0, 1))))
    (ms_lf (ms_getf (C := RX8) (T := TX8) (N := 7) hx hb hf hts (fun w h => hAW w (inq_8 w h)) hown hK rfl (by decide) (hts _ (hAW _ qw_207)) rfl (by decide +kernel : decode cX8_push 8 = .ok (.getfield 43, 3)))))))
    (ms_b (ms_b (ms_lf (ms_sipush hx hb (by decide) (by decide +kernel : decode cX8_push 11 = .ok (.sipush 2000, 3))))
    (ms_b (ms_lf (ms_ic_ge hx hb (by decide) (by decide +kernel : decode cX8_push 14 = .ok (.if_icmp .ge 32, 3))))
    (ms_lf (ms_aload_n (k := 0) hx hb rfl (by decide +kernel : decode cX8_push 17 = .ok (.aload_n 0, 1))))))
    (ms_b (ms_b (ms_lf (ms_getf (C := RX8) (T := TX8) (N := 7) hx hb hf hts (fun w h => hAW w (inq_8 w h)) hown hK rfl (by decide) (hts _ (hAW _ qw_215)) rfl (by decide +kernel : decode cX8_push 18 = .ok (.getfield 20, 3))))
    (ms_lf (ms_aload_n (k := 0) hx hb rfl (by decide +kernel : decode cX8_push 21 = .ok (.aload_n 0, 1)))))
    (ms_b (ms_lf (ms_getf (C := RX8) (T := TX8) (N := 7) hx hb hf hts (fun w h => hAW w (inq_8 w h)) hown hK rfl (by decide) (hts _ (hAW _ qw_207)) rfl (by decide +kernel : decode cX8_push 22 = .ok (.getfield 43, 3))))
    (ms_lf (ms_iload_n (k := 1) hx hb rfl (by decide +kernel : decode cX8_push 25 = .ok (.iload_n 1, 1))))))))
    (ms_b (ms_b (ms_b (ms_lf (ms_iload_n (k := 2) hx hb rfl (by decide +kernel : decode cX8_push 26 = .ok (.iload_n 2, 1))))
    (ms_b (ms_lf (ms_ishr hx hb (by decide +kernel : decode cX8_push 27 = .ok (.ishr, 1))))
    (ms_lf (ms_i2b hx hb (by decide +kernel : decode cX8_push 28 = .ok (.i2b, 1))))))
    (ms_b (ms_lf (ms_bast hx hb hf hA (by decide +kernel : decode cX8_push 29 = .ok (.bastore, 1))))
    (ms_b (ms_lf (ms_aload_n (k := 0) hx hb rfl (by decide +kernel : decode cX8_push 30 = .ok (.aload_n 0, 1))))
    (ms_lf (ms_dup hx hb (by decide +kernel : decode cX8_push 31 = .ok (.dup, 1)))))))
    (ms_b (ms_b (ms_lf (ms_getf (C := RX8) (T := TX8) (N := 7) hx hb hf hts (fun w h => hAW w (inq_8 w h)) hown hK rfl (by decide) (hts _ (hAW _ qw_207)) rfl (by decide +kernel : decode cX8_push 32 = .ok (.getfield 43, 3))))
    (ms_b (ms_lf (ms_iconst hx hb (by decide) (by decide +kernel : decode cX8_push 35 = .ok (.iconst 1, 1))))
    (ms_lf (ms_iadd hx hb (by decide +kernel : decode cX8_push 36 = .ok (.iadd, 1))))))
    (ms_b (ms_b (ms_lf (ms_put (C := RX8) (T := TX8) (N := 7) hx hb hf hts (fun w h => hAW w (inq_8 w h)) tyX8 tyX8_ok nmX8 hown hK rfl (by decide) (hts _ (hAW _ qw_207)) rfl rfl rfl (by decide +kernel : decode cX8_push 37 = .ok (.putfield 43, 3))))
    (ms_lf (ms_iinc hx hb (by decide) (by decide : 2 < 3) (by decide +kernel : decode cX8_push 40 = .ok (.iinc 2 (-8), 3)))))
    (ms_b (ms_lf (ms_goto hx hb (by decide) (by decide +kernel : decode cX8_push 43 = .ok (.goto (-40), 3))))
    (ms_lf (ms_ret hx hb hr hlk (by decide +kernel : decode cX8_push 46 = .ok (.return_, 1)))))))))
set_option maxRecDepth 100000 in
set_option maxHeartbeats 8000000 in
/-- TippedCrates$Tape.cutIntoTokens -/
theorem sd_87 (l : Launch) (f : Nat → Nat) (D : va_G) (cA : FieldType → ClassId) (d : Nat) : mm_Ok2 l f D cA d (yX8_cutIntoTokens, cX8_cutIntoTokens, 2, none, mc_87) := by
  intro p e R s m args below meth c C hRf hRl pc
  obtain ⟨hx, hb, hml, hr, hlk, hnm, hown, hts, hEX, hgo, hf⟩ := C
  obtain ⟨hK, hA, hX, hZs, hZc, hZq, hTx, hSR0, hSR1, hAO, hN⟩ := id hEX
  have hAW : ∀ w ∈ mm_AW, w ∈ (Cond.code yX8_cutIntoTokens cX8_cutIntoTokens 2 none :: mm_AW) := fun w h => List.mem_cons_of_mem _ h
  have hown : s.vm.findClass "TippedCrates$Tape" = some m.cls := hown
  show mm_S p l e R s m args below meth c f D mm_cl cA 2 _ pc (mc_87 pc)
  unfold mc_87
  exact (ms_b (ms_b (ms_b (ms_b (ms_b (ms_lf (ms_aload_n (k := 0) hx hb rfl (by decide +kernel : decode cX8_cutIntoTokens 0 = .ok (.aload_n 0, 1))))
    (ms_b (ms_lf (ms_iconst hx hb (by decide) (by decide +kernel : decode cX8_cutIntoTokens 1 = .ok (.iconst 0, 1))))
    (ms_lf (ms_put (C := RX8) (T := TX8) (N := 7) hx hb hf hts (fun w h => hAW w (inq_8 w h)) tyX8 tyX8_ok nmX8 hown hK rfl (by decide) (hts _ (hAW _ qw_217)) rfl rfl rfl (by decide +kernel : decode cX8_cutIntoTokens 2 = .ok (.putfield 47, 3))))))
    (ms_b (ms_lf (ms_iconst hx hb (by decide) (by decide +kernel : decode cX8_cutIntoTokens 5 = .ok (.iconst 0, 1))))
    (ms_b (ms_lf (ms_istore_n (k := 1) hx hb rfl (by decide : 1 < 2) (by decide +kernel : decode cX8_cutIntoTokens 6 = .ok (.istore_n 1, 1))))
    (ms_lf (ms_iload_n (k := 1) hx hb rfl (by decide +kernel : decode cX8_cutIntoTokens 7 = .ok (.iload_n 1, 1)))))))
    (ms_b (ms_b (ms_lf (ms_sipush hx hb (by decide) (by decide +kernel : decode cX8_cutIntoTokens 8 = .ok (.sipush 400, 3))))
    (ms_b (ms_lf (ms_ic_gt hx hb (by decide) (by decide +kernel : decode cX8_cutIntoTokens 11 = .ok (.if_icmp .gt 83, 3))))
    (ms_lf (ms_aload_n (k := 0) hx hb rfl (by decide +kernel : decode cX8_cutIntoTokens 14 = .ok (.aload_n 0, 1))))))
    (ms_b (ms_lf (ms_getf (C := RX8) (T := TX8) (N := 7) hx hb hf hts (fun w h => hAW w (inq_8 w h)) hown hK rfl (by decide) (hts _ (hAW _ qw_217)) rfl (by decide +kernel : decode cX8_cutIntoTokens 15 = .ok (.getfield 47, 3))))
    (ms_b (ms_lf (ms_aload_n (k := 0) hx hb rfl (by decide +kernel : decode cX8_cutIntoTokens 18 = .ok (.aload_n 0, 1))))
    (ms_lf (ms_getf (C := RX8) (T := TX8) (N := 7) hx hb hf hts (fun w h => hAW w (inq_8 w h)) hown hK rfl (by decide) (hts _ (hAW _ qw_207)) rfl (by decide +kernel : decode cX8_cutIntoTokens 19 = .ok (.getfield 43, 3))))))))
    (ms_b (ms_b (ms_b (ms_lf (ms_ic_ge hx hb (by decide) (by decide +kernel : decode cX8_cutIntoTokens 22 = .ok (.if_icmp .ge 31, 3))))
    (ms_b (ms_lf (ms_aload_n (k := 0) hx hb rfl (by decide +kernel : decode cX8_cutIntoTokens 25 = .ok (.aload_n 0, 1))))
    (ms_lf (ms_getf (C := RX8) (T := TX8) (N := 7) hx hb hf hts (fun w h => hAW w (inq_8 w h)) hown hK rfl (by decide) (hts _ (hAW _ qw_215)) rfl (by decide +kernel : decode cX8_cutIntoTokens 26 = .ok (.getfield 20, 3))))))
    (ms_b (ms_lf (ms_aload_n (k := 0) hx hb rfl (by decide +kernel : decode cX8_cutIntoTokens 29 = .ok (.aload_n 0, 1))))
    (ms_b (ms_lf (ms_getf (C := RX8) (T := TX8) (N := 7) hx hb hf hts (fun w h => hAW w (inq_8 w h)) hown hK rfl (by decide) (hts _ (hAW _ qw_217)) rfl (by decide +kernel : decode cX8_cutIntoTokens 30 = .ok (.getfield 47, 3))))
    (ms_lf (ms_bald hx hb hf hA (by decide +kernel : decode cX8_cutIntoTokens 33 = .ok (.baload, 1)))))))
    (ms_b (ms_b (ms_lf (ms_ivS hx hb hml hown hts hgo hEX (mm_GS hAW (mm_GI hAW gi_93) qw_644 qw_645 qw_118) rfl hd_93 (mm_rm hRf hRl (Nat.le_of_ble_eq_true rfl)) (by decide +kernel : decode cX8_cutIntoTokens 34 = .ok (.invokestatic 50, 3))))
    (ms_b (ms_lf (ms_if_eq hx hb (by decide) (by decide +kernel : decode cX8_cutIntoTokens 37 = .ok (.ifCond .eq 16, 3))))
    (ms_lf (ms_aload_n (k := 0) hx hb rfl (by decide +kernel : decode cX8_cutIntoTokens 40 = .ok (.aload_n 0, 1))))))
    (ms_b (ms_b (ms_lf (ms_dup hx hb (by decide +kernel : decode cX8_cutIntoTokens 41 = .ok (.dup, 1))))
    (ms_lf (ms_getf (C := RX8) (T := TX8) (N := 7) hx hb hf hts (fun w h => hAW w (inq_8 w h)) hown hK rfl (by decide) (hts _ (hAW _ qw_217)) rfl (by decide +kernel : decode cX8_cutIntoTokens 42 = .ok (.getfield 47, 3)))))
    (ms_b (ms_lf (ms_iconst hx hb (by decide) (by decide +kernel : decode cX8_cutIntoTokens 45 = .ok (.iconst 1, 1))))
    (ms_lf (ms_iadd hx hb (by decide +kernel : decode cX8_cutIntoTokens 46 = .ok (.iadd, 1)))))))))
    (ms_b (ms_b (ms_b (ms_b (ms_lf (ms_put (C := RX8) (T := TX8) (N := 7) hx hb hf hts (fun w h => hAW w (inq_8 w h)) tyX8 tyX8_ok nmX8 hown hK rfl (by decide) (hts _ (hAW _ qw_217)) rfl rfl rfl (by decide +kernel : decode cX8_cutIntoTokens 47 = .ok (.putfield 47, 3))))
    (ms_b (ms_lf (ms_goto hx hb (by decide) (by decide +kernel : decode cX8_cutIntoTokens 50 = .ok (.goto (-36), 3))))
    (ms_lf (ms_aload_n (k := 0) hx hb rfl (by decide +kernel : decode cX8_cutIntoTokens 53 = .ok (.aload_n 0, 1))))))
    (ms_b (ms_lf (ms_getf (C := RX8) (T := TX8) (N := 7) hx hb hf hts (fun w h => hAW w (inq_8 w h)) hown hK rfl (by decide) (hts _ (hAW _ qw_211)) rfl (by decide +kernel : decode cX8_cutIntoTokens 54 = .ok (.getfield 13, 3))))
    (ms_b (ms_lf (ms_iload_n (k := 1) hx hb rfl (by decide +kernel : decode cX8_cutIntoTokens 57 = .ok (.iload_n 1, 1))))
    (ms_lf (ms_aload_n (k := 0) hx hb rfl (by decide +kernel : decode cX8_cutIntoTokens 58 = .ok (.aload_n 0, 1)))))))
    (ms_b (ms_b (ms_lf (ms_getf (C := RX8) (T := TX8) (N := 7) hx hb hf hts (fun w h => hAW w (inq_8 w h)) hown hK rfl (by decide) (hts _ (hAW _ qw_217)) rfl (by decide +kernel : decode cX8_cutIntoTokens 59 = .ok (.getfield 47, 3))))
    (ms_b (ms_lf (ms_iast hx hb hf hA (by decide +kernel : decode cX8_cutIntoTokens 62 = .ok (.iastore, 1))))
    (ms_lf (ms_aload_n (k := 0) hx hb rfl (by decide +kernel : decode cX8_cutIntoTokens 63 = .ok (.aload_n 0, 1))))))
    (ms_b (ms_lf (ms_getf (C := RX8) (T := TX8) (N := 7) hx hb hf hts (fun w h => hAW w (inq_8 w h)) hown hK rfl (by decide) (hts _ (hAW _ qw_217)) rfl (by decide +kernel : decode cX8_cutIntoTokens 64 = .ok (.getfield 47, 3))))
    (ms_b (ms_lf (ms_aload_n (k := 0) hx hb rfl (by decide +kernel : decode cX8_cutIntoTokens 67 = .ok (.aload_n 0, 1))))
    (ms_lf (ms_getf (C := RX8) (T := TX8) (N := 7) hx hb hf hts (fun w h => hAW w (inq_8 w h)) hown hK rfl (by decide) (hts _ (hAW _ qw_207)) rfl (by decide +kernel : decode cX8_cutIntoTokens 68 = .ok (.getfield 43, 3))))))))
    (ms_b (ms_b (ms_b (ms_lf (ms_ic_lt hx hb (by decide) (by decide +kernel : decode cX8_cutIntoTokens 71 = .ok (.if_icmp .lt 12, 3))))
    (ms_b (ms_lf (ms_aload_n (k := 0) hx hb rfl (by decide +kernel : decode cX8_cutIntoTokens 74 = .ok (.aload_n 0, 1))))
    (ms_lf (ms_getf (C := RX8) (T := TX8) (N := 7) hx hb hf hts (fun w h => hAW w (inq_8 w h)) hown hK rfl (by decide) (hts _ (hAW _ qw_209)) rfl (by decide +kernel : decode cX8_cutIntoTokens 75 = .ok (.getfield 9, 3))))))
    (ms_b (ms_lf (ms_iload_n (k := 1) hx hb rfl (by decide +kernel : decode cX8_cutIntoTokens 78 = .ok (.iload_n 1, 1))))
    (ms_b (ms_lf (ms_bipush hx hb (by decide) (by decide +kernel : decode cX8_cutIntoTokens 79 = .ok (.bipush 23, 2))))
    (ms_lf (ms_iast hx hb hf hA (by decide +kernel : decode cX8_cutIntoTokens 81 = .ok (.iastore, 1)))))))
    (ms_b (ms_b (ms_lf (ms_ret hx hb hr hlk (by decide +kernel : decode cX8_cutIntoTokens 82 = .ok (.return_, 1))))
    (ms_b (ms_lf (ms_aload_n (k := 0) hx hb rfl (by decide +kernel : decode cX8_cutIntoTokens 83 = .ok (.aload_n 0, 1))))
    (ms_lf (ms_iload_n (k := 1) hx hb rfl (by decide +kernel : decode cX8_cutIntoTokens 84 = .ok (.iload_n 1, 1))))))
    (ms_b (ms_b (ms_lf (ms_ivV (C := RX8) (T := TX8) (N := 7) hx hb hml hown hts hgo hEX hf hK rfl (mm_GV hAW (mm_GI hAW gi_88) qw_647 qw_649 qw_2 qw_118) rfl ⟨rfl, hd_88⟩ (mm_rm hRf hRl (Nat.le_of_ble_eq_true rfl)) (by decide +kernel : decode cX8_cutIntoTokens 85 = .ok (.invokevirtual 54, 3))))
    (ms_lf (ms_iinc hx hb (by decide) (by decide : 1 < 2) (by decide +kernel : decode cX8_cutIntoTokens 88 = .ok (.iinc 1 1, 3)))))
    (ms_b (ms_lf (ms_goto hx hb (by decide) (by decide +kernel : decode cX8_cutIntoTokens 91 = .ok (.goto (-84), 3))))
    (ms_lf (ms_ret hx hb hr hlk (by decide +kernel : decode cX8_cutIntoTokens 94 = .ok (.return_, 1))))))))))
set_option maxRecDepth 100000 in
set_option maxHeartbeats 8000000 in
/-- TippedCrates$Tape.cutToken -/
theorem sd_88 (l : Launch) (f : Nat → Nat) (D : va_G) (cA : FieldType → ClassId) (d : Nat) : mm_Ok2 l f D cA d (yX8_cutToken, cX8_cutToken, 3, none, mc_88) := by
  intro p e R s m args below meth c C hRf hRl pc
  obtain ⟨hx, hb, hml, hr, hlk, hnm, hown, hts, hEX, hgo, hf⟩ := C
  obtain ⟨hK, hA, hX, hZs, hZc, hZq, hTx, hSR0, hSR1, hAO, hN⟩ := id hEX
  have hAW : ∀ w ∈ mm_AW, w ∈ (Cond.code yX8_cutToken cX8_cutToken 3 none :: mm_AW) := fun w h => List.mem_cons_of_mem _ h
  have hown : s.vm.findClass "TippedCrates$Tape" = some m.cls := hown
  show mm_S p l e R s m args below meth c f D mm_cl cA 3 _ pc (mc_88 pc)
  unfold mc_88
  exact (ms_b (ms_b (ms_b (ms_b (ms_b (ms_lf (ms_aload_n (k := 0) hx hb rfl (by decide +kernel : decode cX8_cutToken 0 = .ok (.aload_n 0, 1))))
    (ms_lf (ms_getf (C := RX8) (T := TX8) (N := 7) hx hb hf hts (fun w h => hAW w (inq_8 w h)) hown hK rfl (by decide) (hts _ (hAW _ qw_215)) rfl (by decide +kernel : decode cX8_cutToken 1 = .ok (.getfield 20, 3)))))
    (ms_b (ms_lf (ms_aload_n (k := 0) hx hb rfl (by decide +kernel : decode cX8_cutToken 4 = .ok (.aload_n 0, 1))))
    (ms_b (ms_lf (ms_getf (C := RX8) (T := TX8) (N := 7) hx hb hf hts (fun w h => hAW w (inq_8 w h)) hown hK rfl (by decide) (hts _ (hAW _ qw_217)) rfl (by decide +kernel : decode cX8_cutToken 5 = .ok (.getfield 47, 3))))
    (ms_lf (ms_bald hx hb hf hA (by decide +kernel : decode cX8_cutToken 8 = .ok (.baload, 1)))))))
    (ms_b (ms_b (ms_lf (ms_sipush hx hb (by decide) (by decide +kernel : decode cX8_cutToken 9 = .ok (.sipush 255, 3))))
    (ms_lf (ms_iand hx hb (by decide +kernel : decode cX8_cutToken 12 = .ok (.iand, 1)))))
    (ms_b (ms_lf (ms_istore_n (k := 2) hx hb rfl (by decide : 2 < 3) (by decide +kernel : decode cX8_cutToken 13 = .ok (.istore_n 2, 1))))
    (ms_b (ms_lf (ms_iload_n (k := 2) hx hb rfl (by decide +kernel : decode cX8_cutToken 14 = .ok (.iload_n 2, 1))))
    (ms_lf (ms_ivS hx hb hml hown hts hgo hEX (mm_GS hAW (mm_GI hAW gi_94) qw_651 qw_652 qw_118) rfl hd_94 (mm_rm hRf hRl (Nat.le_of_ble_eq_true rfl)) (by decide +kernel : decode cX8_cutToken 15 = .ok (.invokestatic 58, 3))))))))
    (ms_b (ms_b (ms_b (ms_lf (ms_if_eq hx hb (by decide) (by decide +kernel : decode cX8_cutToken 18 = .ok (.ifCond .eq 11, 3))))
    (ms_lf (ms_aload_n (k := 0) hx hb rfl (by decide +kernel : decode cX8_cutToken 21 = .ok (.aload_n 0, 1)))))
    (ms_b (ms_lf (ms_iload_n (k := 1) hx hb rfl (by decide +kernel : decode cX8_cutToken 22 = .ok (.iload_n 1, 1))))
    (ms_b (ms_lf (ms_ivV (C := RX8) (T := TX8) (N := 7) hx hb hml hown hts hgo hEX hf hK rfl (mm_GV hAW (mm_GI hAW gi_89) qw_654 qw_656 qw_3 qw_118) rfl ⟨rfl, hd_89⟩ (mm_rm hRf hRl (Nat.le_of_ble_eq_true rfl)) (by decide +kernel : decode cX8_cutToken 23 = .ok (.invokevirtual 61, 3))))
    (ms_lf (ms_goto hx hb (by decide) (by decide +kernel : decode cX8_cutToken 26 = .ok (.goto 50, 3)))))))
    (ms_b (ms_b (ms_lf (ms_iload_n (k := 2) hx hb rfl (by decide +kernel : decode cX8_cutToken 29 = .ok (.iload_n 2, 1))))
    (ms_lf (ms_ivS hx hb hml hown hts hgo hEX (mm_GS hAW (mm_GI hAW gi_95) qw_662 qw_663 qw_118) rfl hd_95 (mm_rm hRf hRl (Nat.le_of_ble_eq_true rfl)) (by decide +kernel : decode cX8_cutToken 30 = .ok (.invokestatic 64, 3)))))
    (ms_b (ms_lf (ms_if_eq hx hb (by decide) (by decide +kernel : decode cX8_cutToken 33 = .ok (.ifCond .eq 11, 3))))
    (ms_b (ms_lf (ms_aload_n (k := 0) hx hb rfl (by decide +kernel : decode cX8_cutToken 36 = .ok (.aload_n 0, 1))))
    (ms_lf (ms_iload_n (k := 1) hx hb rfl (by decide +kernel : decode cX8_cutToken 37 = .ok (.iload_n 1, 1)))))))))
    (ms_b (ms_b (ms_b (ms_b (ms_lf (ms_ivV (C := RX8) (T := TX8) (N := 7) hx hb hml hown hts hgo hEX hf hK rfl (mm_GV hAW (mm_GI hAW gi_91) qw_665 qw_667 qw_5 qw_118) rfl ⟨rfl, hd_91⟩ (mm_rm hRf hRl (Nat.le_of_ble_eq_true rfl)) (by decide +kernel : decode cX8_cutToken 38 = .ok (.invokevirtual 67, 3))))
    (ms_lf (ms_goto hx hb (by decide) (by decide +kernel : decode cX8_cutToken 41 = .ok (.goto 35, 3)))))
    (ms_b (ms_lf (ms_aload_n (k := 0) hx hb rfl (by decide +kernel : decode cX8_cutToken 44 = .ok (.aload_n 0, 1))))
    (ms_b (ms_lf (ms_getf (C := RX8) (T := TX8) (N := 7) hx hb hf hts (fun w h => hAW w (inq_8 w h)) hown hK rfl (by decide) (hts _ (hAW _ qw_209)) rfl (by decide +kernel : decode cX8_cutToken 45 = .ok (.getfield 9, 3))))
    (ms_lf (ms_iload_n (k := 1) hx hb rfl (by decide +kernel : decode cX8_cutToken 48 = .ok (.iload_n 1, 1)))))))
    (ms_b (ms_b (ms_lf (ms_ldS hx hb hown hSR1 (by decide +kernel : decode cX8_cutToken 49 = .ok (.ldc 70, 2))))
    (ms_lf (ms_iload_n (k := 2) hx hb rfl (by decide +kernel : decode cX8_cutToken 51 = .ok (.iload_n 2, 1)))))
    (ms_b (ms_lf (ms_i2c hx hb (by decide +kernel : decode cX8_cutToken 52 = .ok (.i2c, 1))))
    (ms_b (ms_lf (ms_ivX (SB := mm_sb) hx hb hml hown hts hgo hEX hTx (mm_GV hAW (mm_GI hAW gi_290) qw_672 qw_673 qw_674 qw_119) rfl ⟨rfl, hd_290⟩ (mm_rm hRf hRl (Nat.le_of_ble_eq_true rfl)) (by decide +kernel : decode cX8_cutToken 53 = .ok (.invokevirtual 72, 3))))
    (ms_lf (ms_if_lt hx hb (by decide) (by decide +kernel : decode cX8_cutToken 56 = .ok (.ifCond .lt 7, 3))))))))
    (ms_b (ms_b (ms_b (ms_lf (ms_iload_n (k := 2) hx hb rfl (by decide +kernel : decode cX8_cutToken 59 = .ok (.iload_n 2, 1))))
    (ms_lf (ms_goto hx hb (by decide) (by decide +kernel : decode cX8_cutToken 60 = .ok (.goto 5, 3)))))
    (ms_b (ms_lf (ms_bipush hx hb (by decide) (by decide +kernel : decode cX8_cutToken 63 = .ok (.bipush 24, 2))))
    (ms_b (ms_lf (ms_iast hx hb hf hA (by decide +kernel : decode cX8_cutToken 65 = .ok (.iastore, 1))))
    (ms_lf (ms_aload_n (k := 0) hx hb rfl (by decide +kernel : decode cX8_cutToken 66 = .ok (.aload_n 0, 1)))))))
    (ms_b (ms_b (ms_lf (ms_dup hx hb (by decide +kernel : decode cX8_cutToken 67 = .ok (.dup, 1))))
    (ms_b (ms_lf (ms_getf (C := RX8) (T := TX8) (N := 7) hx hb hf hts (fun w h => hAW w (inq_8 w h)) hown hK rfl (by decide) (hts _ (hAW _ qw_217)) rfl (by decide +kernel : decode cX8_cutToken 68 = .ok (.getfield 47, 3))))
    (ms_lf (ms_iconst hx hb (by decide) (by decide +kernel : decode cX8_cutToken 71 = .ok (.iconst 1, 1))))))
    (ms_b (ms_lf (ms_iadd hx hb (by decide +kernel : decode cX8_cutToken 72 = .ok (.iadd, 1))))
    (ms_b (ms_lf (ms_put (C := RX8) (T := TX8) (N := 7) hx hb hf hts (fun w h => hAW w (inq_8 w h)) tyX8 tyX8_ok nmX8 hown hK rfl (by decide) (hts _ (hAW _ qw_217)) rfl rfl rfl (by decide +kernel : decode cX8_cutToken 73 = .ok (.putfield 47, 3))))
    (ms_lf (ms_ret hx hb hr hlk (by decide +kernel : decode cX8_cutToken 76 = .ok (.return_, 1))))))))))
set_option maxRecDepth 100000 in
set_option maxHeartbeats 8000000 in
/-- TippedCrates$Tape.cutLetters -/
theorem sd_89 (l : Launch) (f : Nat → Nat) (D : va_G) (cA : FieldType → ClassId) (d : Nat) : mm_Ok2 l f D cA d (yX8_cutLetters, cX8_cutLetters, 5, none, mc_89) := by
  intro p e R s m args below meth c C hRf hRl pc
  obtain ⟨hx, hb, hml, hr, hlk, hnm, hown, hts, hEX, hgo, hf⟩ := C
  obtain ⟨hK, hA, hX, hZs, hZc, hZq, hTx, hSR0, hSR1, hAO, hN⟩ := id hEX
  have hAW : ∀ w ∈ mm_AW, w ∈ (Cond.code yX8_cutLetters cX8_cutLetters 5 none :: mm_AW) := fun w h => List.mem_cons_of_mem _ h
  have hown : s.vm.findClass "TippedCrates$Tape" = some m.cls := hown
  show mm_S p l e R s m args below meth c f D mm_cl cA 5 _ pc (mc_89 pc)
  unfold mc_89
  exact (ms_b (ms_b (ms_b (ms_b (ms_b (ms_lf (ms_iconst hx hb (by decide) (by decide +kernel : decode cX8_cutLetters 0 = .ok (.iconst 0, 1))))
    (ms_b (ms_lf (ms_istore_n (k := 2) hx hb rfl (by decide : 2 < 5) (by decide +kernel : decode cX8_cutLetters 1 = .ok (.istore_n 2, 1))))
    (ms_lf (ms_lconst hx hb (by decide) (by decide +kernel : decode cX8_cutLetters 2 = .ok (.lconst 0, 1))))))
    (ms_b (ms_lf (ms_lstore_n (k := 3) hx hb rfl (by decide : 3 + 1 < 5) (by decide +kernel : decode cX8_cutLetters 3 = .ok (.lstore_n 3, 1))))
    (ms_b (ms_lf (ms_aload_n (k := 0) hx hb rfl (by decide +kernel : decode cX8_cutLetters 4 = .ok (.aload_n 0, 1))))
    (ms_lf (ms_getf (C := RX8) (T := TX8) (N := 7) hx hb hf hts (fun w h => hAW w (inq_8 w h)) hown hK rfl (by decide) (hts _ (hAW _ qw_217)) rfl (by decide +kernel : decode cX8_cutLetters 5 = .ok (.getfield 47, 3)))))))
    (ms_b (ms_b (ms_lf (ms_aload_n (k := 0) hx hb rfl (by decide +kernel : decode cX8_cutLetters 8 = .ok (.aload_n 0, 1))))
    (ms_b (ms_lf (ms_getf (C := RX8) (T := TX8) (N := 7) hx hb hf hts (fun w h => hAW w (inq_8 w h)) hown hK rfl (by decide) (hts _ (hAW _ qw_207)) rfl (by decide +kernel : decode cX8_cutLetters 9 = .ok (.getfield 43, 3))))
    (ms_lf (ms_ic_ge hx hb (by decide) (by decide +kernel : decode cX8_cutLetters 12 = .ok (.if_icmp .ge 58, 3))))))
    (ms_b (ms_b (ms_lf (ms_aload_n (k := 0) hx hb rfl (by decide +kernel : decode cX8_cutLetters 15 = .ok (.aload_n 0, 1))))
    (ms_lf (ms_getf (C := RX8) (T := TX8) (N := 7) hx hb hf hts (fun w h => hAW w (inq_8 w h)) hown hK rfl (by decide) (hts _ (hAW _ qw_215)) rfl (by decide +kernel : decode cX8_cutLetters 16 = .ok (.getfield 20, 3)))))
    (ms_b (ms_lf (ms_aload_n (k := 0) hx hb rfl (by decide +kernel : decode cX8_cutLetters 19 = .ok (.aload_n 0, 1))))
    (ms_lf (ms_getf (C := RX8) (T := TX8) (N := 7) hx hb hf hts (fun w h => hAW w (inq_8 w h)) hown hK rfl (by decide) (hts _ (hAW _ qw_217)) rfl (by decide +kernel : decode cX8_cutLetters 20 = .ok (.getfield 47, 3))))))))
    (ms_b (ms_b (ms_b (ms_lf (ms_bald hx hb hf hA (by decide +kernel : decode cX8_cutLetters 23 = .ok (.baload, 1))))
    (ms_b (ms_lf (ms_ivS hx hb hml hown hts hgo hEX (mm_GS hAW (mm_GI hAW gi_94) qw_651 qw_652 qw_118) rfl hd_94 (mm_rm hRf hRl (Nat.le_of_ble_eq_true rfl)) (by decide +kernel : decode cX8_cutLetters 24 = .ok (.invokestatic 58, 3))))
    (ms_lf (ms_if_eq hx hb (by decide) (by decide +kernel : decode cX8_cutLetters 27 = .ok (.ifCond .eq 43, 3))))))
    (ms_b (ms_b (ms_lf (ms_iload_n (k := 2) hx hb rfl (by decide +kernel : decode cX8_cutLetters 30 = .ok (.iload_n 2, 1))))
    (ms_lf (ms_bipush hx hb (by decide) (by decide +kernel : decode cX8_cutLetters 31 = .ok (.bipush 8, 2)))))
    (ms_b (ms_lf (ms_ic_ge hx hb (by decide) (by decide +kernel : decode cX8_cutLetters 33 = .ok (.if_icmp .ge 19, 3))))
    (ms_lf (ms_lload_n (k := 3) hx hb rfl (by decide +kernel : decode cX8_cutLetters 36 = .ok (.lload_n 3, 1)))))))
    (ms_b (ms_b (ms_lf (ms_aload_n (k := 0) hx hb rfl (by decide +kernel : decode cX8_cutLetters 37 = .ok (.aload_n 0, 1))))
    (ms_b (ms_lf (ms_getf (C := RX8) (T := TX8) (N := 7) hx hb hf hts (fun w h => hAW w (inq_8 w h)) hown hK rfl (by decide) (hts _ (hAW _ qw_215)) rfl (by decide +kernel : decode cX8_cutLetters 38 = .ok (.getfield 20, 3))))
    (ms_lf (ms_aload_n (k := 0) hx hb rfl (by decide +kernel : decode cX8_cutLetters 41 = .ok (.aload_n 0, 1))))))
    (ms_b (ms_b (ms_lf (ms_getf (C := RX8) (T := TX8) (N := 7) hx hb hf hts (fun w h => hAW w (inq_8 w h)) hown hK rfl (by decide) (hts _ (hAW _ qw_217)) rfl (by decide +kernel : decode cX8_cutLetters 42 = .ok (.getfield 47, 3))))
    (ms_lf (ms_bald hx hb hf hA (by decide +kernel : decode cX8_cutLetters 45 = .ok (.baload, 1)))))
    (ms_b (ms_lf (ms_ivS hx hb hml hown hts hgo hEX (mm_GS hAW (mm_GI hAW gi_92) qw_201 qw_202 qw_118) rfl hd_92 (mm_rm hRf hRl (Nat.le_of_ble_eq_true rfl)) (by decide +kernel : decode cX8_cutLetters 46 = .ok (.invokestatic 39, 3))))
    (ms_lf (ms_goto hx hb (by decide) (by decide +kernel : decode cX8_cutLetters 49 = .ok (.goto 4, 3)))))))))
    (ms_b (ms_b (ms_b (ms_b (ms_lf (ms_lload_n (k := 3) hx hb rfl (by decide +kernel : decode cX8_cutLetters 52 = .ok (.lload_n 3, 1))))
    (ms_b (ms_lf (ms_lstore_n (k := 3) hx hb rfl (by decide : 3 + 1 < 5) (by decide +kernel : decode cX8_cutLetters 53 = .ok (.lstore_n 3, 1))))
    (ms_lf (ms_iinc hx hb (by decide) (by decide : 2 < 5) (by decide +kernel : decode cX8_cutLetters 54 = .ok (.iinc 2 1, 3))))))
    (ms_b (ms_b (ms_lf (ms_aload_n (k := 0) hx hb rfl (by decide +kernel : decode cX8_cutLetters 57 = .ok (.aload_n 0, 1))))
    (ms_lf (ms_dup hx hb (by decide +kernel : decode cX8_cutLetters 58 = .ok (.dup, 1)))))
    (ms_b (ms_lf (ms_getf (C := RX8) (T := TX8) (N := 7) hx hb hf hts (fun w h => hAW w (inq_8 w h)) hown hK rfl (by decide) (hts _ (hAW _ qw_217)) rfl (by decide +kernel : decode cX8_cutLetters 59 = .ok (.getfield 47, 3))))
    (ms_lf (ms_iconst hx hb (by decide) (by decide +kernel : decode cX8_cutLetters 62 = .ok (.iconst 1, 1)))))))
    (ms_b (ms_b (ms_lf (ms_iadd hx hb (by decide +kernel : decode cX8_cutLetters 63 = .ok (.iadd, 1))))
    (ms_b (ms_lf (ms_put (C := RX8) (T := TX8) (N := 7) hx hb hf hts (fun w h => hAW w (inq_8 w h)) tyX8 tyX8_ok nmX8 hown hK rfl (by decide) (hts _ (hAW _ qw_217)) rfl rfl rfl (by decide +kernel : decode cX8_cutLetters 64 = .ok (.putfield 47, 3))))
    (ms_lf (ms_goto hx hb (by decide) (by decide +kernel : decode cX8_cutLetters 67 = .ok (.goto (-63), 3))))))
    (ms_b (ms_b (ms_lf (ms_aload_n (k := 0) hx hb rfl (by decide +kernel : decode cX8_cutLetters 70 = .ok (.aload_n 0, 1))))
    (ms_lf (ms_getf (C := RX8) (T := TX8) (N := 7) hx hb hf hts (fun w h => hAW w (inq_8 w h)) hown hK rfl (by decide) (hts _ (hAW _ qw_213)) rfl (by decide +kernel : decode cX8_cutLetters 71 = .ok (.getfield 16, 3)))))
    (ms_b (ms_lf (ms_iload_n (k := 1) hx hb rfl (by decide +kernel : decode cX8_cutLetters 74 = .ok (.iload_n 1, 1))))
    (ms_lf (ms_lload_n (k := 3) hx hb rfl (by decide +kernel : decode cX8_cutLetters 75 = .ok (.lload_n 3, 1))))))))
    (ms_b (ms_b (ms_b (ms_lf (ms_last hx hb hf hA (by decide +kernel : decode cX8_cutLetters 76 = .ok (.lastore, 1))))
    (ms_b (ms_lf (ms_aload_n (k := 0) hx hb rfl (by decide +kernel : decode cX8_cutLetters 77 = .ok (.aload_n 0, 1))))
    (ms_lf (ms_getf (C := RX8) (T := TX8) (N := 7) hx hb hf hts (fun w h => hAW w (inq_8 w h)) hown hK rfl (by decide) (hts _ (hAW _ qw_209)) rfl (by decide +kernel : decode cX8_cutLetters 78 = .ok (.getfield 9, 3))))))
    (ms_b (ms_b (ms_lf (ms_iload_n (k := 1) hx hb rfl (by decide +kernel : decode cX8_cutLetters 81 = .ok (.iload_n 1, 1))))
    (ms_lf (ms_iload_n (k := 2) hx hb rfl (by decide +kernel : decode cX8_cutLetters 82 = .ok (.iload_n 2, 1)))))
    (ms_b (ms_lf (ms_bipush hx hb (by decide) (by decide +kernel : decode cX8_cutLetters 83 = .ok (.bipush 8, 2))))
    (ms_lf (ms_ic_le hx hb (by decide) (by decide +kernel : decode cX8_cutLetters 85 = .ok (.if_icmp .le 8, 3)))))))
    (ms_b (ms_b (ms_lf (ms_bipush hx hb (by decide) (by decide +kernel : decode cX8_cutLetters 88 = .ok (.bipush 24, 2))))
    (ms_b (ms_lf (ms_goto hx hb (by decide) (by decide +kernel : decode cX8_cutLetters 90 = .ok (.goto 8, 3))))
    (ms_lf (ms_aload_n (k := 0) hx hb rfl (by decide +kernel : decode cX8_cutLetters 93 = .ok (.aload_n 0, 1))))))
    (ms_b (ms_b (ms_lf (ms_lload_n (k := 3) hx hb rfl (by decide +kernel : decode cX8_cutLetters 94 = .ok (.lload_n 3, 1))))
    (ms_lf (ms_ivV (C := RX8) (T := TX8) (N := 7) hx hb hml hown hts hgo hEX hf hK rfl (mm_GV hAW (mm_GI hAW gi_90) qw_658 qw_660 qw_4 qw_118) rfl ⟨rfl, hd_90⟩ (mm_rm hRf hRl (Nat.le_of_ble_eq_true rfl)) (by decide +kernel : decode cX8_cutLetters 95 = .ok (.invokevirtual 76, 3)))))
    (ms_b (ms_lf (ms_iast hx hb hf hA (by decide +kernel : decode cX8_cutLetters 98 = .ok (.iastore, 1))))
    (ms_lf (ms_ret hx hb hr hlk (by decide +kernel : decode cX8_cutLetters 99 = .ok (.return_, 1))))))))))
set_option maxRecDepth 100000 in
set_option maxHeartbeats 8000000 in
/-- TippedCrates$Tape.kindOf -/
theorem sd_90 (l : Launch) (f : Nat → Nat) (D : va_G) (cA : FieldType → ClassId) (d : Nat) : mm_Ok2 l f D cA d (yX8_kindOf, cX8_kindOf, 4, (some .int), mc_90) := by
  intro p e R s m args below meth c C hRf hRl pc
  obtain ⟨hx, hb, hml, hr, hlk, hnm, hown, hts, hEX, hgo, hf⟩ := C
  obtain ⟨hK, hA, hX, hZs, hZc, hZq, hTx, hSR0, hSR1, hAO, hN⟩ := id hEX
  have hAW : ∀ w ∈ mm_AW, w ∈ (Cond.code yX8_kindOf cX8_kindOf 4 (some .int) :: mm_AW) := fun w h => List.mem_cons_of_mem _ h
  have hown : s.vm.findClass "TippedCrates$Tape" = some m.cls := hown
  show mm_S p l e R s m args below meth c f D mm_cl cA 4 _ pc (mc_90 pc)
  unfold mc_90
  exact (ms_b (ms_b (ms_b (ms_b (ms_lf (ms_iconst hx hb (by decide) (by decide +kernel : decode cX8_kindOf 0 = .ok (.iconst 0, 1))))
    (ms_lf (ms_istore_n (k := 3) hx hb rfl (by decide : 3 < 4) (by decide +kernel : decode cX8_kindOf 1 = .ok (.istore_n 3, 1)))))
    (ms_b (ms_lf (ms_iload_n (k := 3) hx hb rfl (by decide +kernel : decode cX8_kindOf 2 = .ok (.iload_n 3, 1))))
    (ms_lf (ms_bipush hx hb (by decide) (by decide +kernel : decode cX8_kindOf 3 = .ok (.bipush 21, 2))))))
    (ms_b (ms_b (ms_lf (ms_ic_ge hx hb (by decide) (by decide +kernel : decode cX8_kindOf 5 = .ok (.if_icmp .ge 22, 3))))
    (ms_lf (ms_aload_n (k := 0) hx hb rfl (by decide +kernel : decode cX8_kindOf 8 = .ok (.aload_n 0, 1)))))
    (ms_b (ms_lf (ms_getf (C := RX8) (T := TX8) (N := 7) hx hb hf hts (fun w h => hAW w (inq_8 w h)) hown hK rfl (by decide) (hts _ (hAW _ qw_216)) rfl (by decide +kernel : decode cX8_kindOf 9 = .ok (.getfield 24, 3))))
    (ms_b (ms_lf (ms_iload_n (k := 3) hx hb rfl (by decide +kernel : decode cX8_kindOf 12 = .ok (.iload_n 3, 1))))
    (ms_lf (ms_lald hx hb hf hA (by decide +kernel : decode cX8_kindOf 13 = .ok (.laload, 1))))))))
    (ms_b (ms_b (ms_b (ms_lf (ms_lload_n (k := 1) hx hb rfl (by decide +kernel : decode cX8_kindOf 14 = .ok (.lload_n 1, 1))))
    (ms_lf (ms_lcmp hx hb (by decide +kernel : decode cX8_kindOf 15 = .ok (.lcmp, 1)))))
    (ms_b (ms_lf (ms_if_ne hx hb (by decide) (by decide +kernel : decode cX8_kindOf 16 = .ok (.ifCond .ne 5, 3))))
    (ms_lf (ms_iload_n (k := 3) hx hb rfl (by decide +kernel : decode cX8_kindOf 19 = .ok (.iload_n 3, 1))))))
    (ms_b (ms_b (ms_lf (ms_iret hx hb hr hlk (by decide +kernel : decode cX8_kindOf 20 = .ok (.ireturn, 1))))
    (ms_lf (ms_iinc hx hb (by decide) (by decide : 3 < 4) (by decide +kernel : decode cX8_kindOf 21 = .ok (.iinc 3 1, 3)))))
    (ms_b (ms_lf (ms_goto hx hb (by decide) (by decide +kernel : decode cX8_kindOf 24 = .ok (.goto (-22), 3))))
    (ms_b (ms_lf (ms_bipush hx hb (by decide) (by decide +kernel : decode cX8_kindOf 27 = .ok (.bipush 21, 2))))
    (ms_lf (ms_iret hx hb hr hlk (by decide +kernel : decode cX8_kindOf 29 = .ok (.ireturn, 1)))))))))
set_option maxRecDepth 100000 in
set_option maxHeartbeats 8000000 in
/-- TippedCrates$Tape.cutDigits -/
theorem sd_91 (l : Launch) (f : Nat → Nat) (D : va_G) (cA : FieldType → ClassId) (d : Nat) : mm_Ok2 l f D cA d (yX8_cutDigits, cX8_cutDigits, 5, none, mc_91) := by
  intro p e R s m args below meth c C hRf hRl pc
  obtain ⟨hx, hb, hml, hr, hlk, hnm, hown, hts, hEX, hgo, hf⟩ := C
  obtain ⟨hK, hA, hX, hZs, hZc, hZq, hTx, hSR0, hSR1, hAO, hN⟩ := id hEX
  have hAW : ∀ w ∈ mm_AW, w ∈ (Cond.code yX8_cutDigits cX8_cutDigits 5 none :: mm_AW) := fun w h => List.mem_cons_of_mem _ h
  have hown : s.vm.findClass "TippedCrates$Tape" = some m.cls := hown
  show mm_S p l e R s m args below meth c f D mm_cl cA 5 _ pc (mc_91 pc)
  unfold mc_91
  exact (ms_b (ms_b (ms_b (ms_b (ms_b (ms_lf (ms_iconst hx hb (by decide) (by decide +kernel : decode cX8_cutDigits 0 = .ok (.iconst 0, 1))))
    (ms_b (ms_lf (ms_istore_n (k := 2) hx hb rfl (by decide : 2 < 5) (by decide +kernel : decode cX8_cutDigits 1 = .ok (.istore_n 2, 1))))
    (ms_lf (ms_lconst hx hb (by decide) (by decide +kernel : decode cX8_cutDigits 2 = .ok (.lconst 0, 1))))))
    (ms_b (ms_b (ms_lf (ms_lstore_n (k := 3) hx hb rfl (by decide : 3 + 1 < 5) (by decide +kernel : decode cX8_cutDigits 3 = .ok (.lstore_n 3, 1))))
    (ms_lf (ms_aload_n (k := 0) hx hb rfl (by decide +kernel : decode cX8_cutDigits 4 = .ok (.aload_n 0, 1)))))
    (ms_b (ms_lf (ms_getf (C := RX8) (T := TX8) (N := 7) hx hb hf hts (fun w h => hAW w (inq_8 w h)) hown hK rfl (by decide) (hts _ (hAW _ qw_217)) rfl (by decide +kernel : decode cX8_cutDigits 5 = .ok (.getfield 47, 3))))
    (ms_lf (ms_aload_n (k := 0) hx hb rfl (by decide +kernel : decode cX8_cutDigits 8 = .ok (.aload_n 0, 1)))))))
    (ms_b (ms_b (ms_lf (ms_getf (C := RX8) (T := TX8) (N := 7) hx hb hf hts (fun w h => hAW w (inq_8 w h)) hown hK rfl (by decide) (hts _ (hAW _ qw_207)) rfl (by decide +kernel : decode cX8_cutDigits 9 = .ok (.getfield 43, 3))))
    (ms_b (ms_lf (ms_ic_ge hx hb (by decide) (by decide +kernel : decode cX8_cutDigits 12 = .ok (.if_icmp .ge 64, 3))))
    (ms_lf (ms_aload_n (k := 0) hx hb rfl (by decide +kernel : decode cX8_cutDigits 15 = .ok (.aload_n 0, 1))))))
    (ms_b (ms_b (ms_lf (ms_getf (C := RX8) (T := TX8) (N := 7) hx hb hf hts (fun w h => hAW w (inq_8 w h)) hown hK rfl (by decide) (hts _ (hAW _ qw_215)) rfl (by decide +kernel : decode cX8_cutDigits 16 = .ok (.getfield 20, 3))))
    (ms_lf (ms_aload_n (k := 0) hx hb rfl (by decide +kernel : decode cX8_cutDigits 19 = .ok (.aload_n 0, 1)))))
    (ms_b (ms_lf (ms_getf (C := RX8) (T := TX8) (N := 7) hx hb hf hts (fun w h => hAW w (inq_8 w h)) hown hK rfl (by decide) (hts _ (hAW _ qw_217)) rfl (by decide +kernel : decode cX8_cutDigits 20 = .ok (.getfield 47, 3))))
    (ms_lf (ms_bald hx hb hf hA (by decide +kernel : decode cX8_cutDigits 23 = .ok (.baload, 1))))))))
    (ms_b (ms_b (ms_b (ms_lf (ms_ivS hx hb hml hown hts hgo hEX (mm_GS hAW (mm_GI hAW gi_95) qw_662 qw_663 qw_118) rfl hd_95 (mm_rm hRf hRl (Nat.le_of_ble_eq_true rfl)) (by decide +kernel : decode cX8_cutDigits 24 = .ok (.invokestatic 64, 3))))
    (ms_b (ms_lf (ms_if_eq hx hb (by decide) (by decide +kernel : decode cX8_cutDigits 27 = .ok (.ifCond .eq 49, 3))))
    (ms_lf (ms_iload_n (k := 2) hx hb rfl (by decide +kernel : decode cX8_cutDigits 30 = .ok (.iload_n 2, 1))))))
    (ms_b (ms_b (ms_lf (ms_iconst hx hb (by decide) (by decide +kernel : decode cX8_cutDigits 31 = .ok (.iconst 4, 1))))
    (ms_lf (ms_ic_ge hx hb (by decide) (by decide +kernel : decode cX8_cutDigits 32 = .ok (.if_icmp .ge 26, 3)))))
    (ms_b (ms_lf (ms_lload_n (k := 3) hx hb rfl (by decide +kernel : decode cX8_cutDigits 35 = .ok (.lload_n 3, 1))))
    (ms_lf (ms_ldc2 hx hb hown (hts _ (hAW _ qw_669)) (by decide +kernel : decode cX8_cutDigits 36 = .ok (.ldc2_w 80, 3)))))))
    (ms_b (ms_b (ms_b (ms_lf (ms_lmul hx hb (by decide +kernel : decode cX8_cutDigits 39 = .ok (.lmul, 1))))
    (ms_lf (ms_aload_n (k := 0) hx hb rfl (by decide +kernel : decode cX8_cutDigits 40 = .ok (.aload_n 0, 1)))))
    (ms_b (ms_lf (ms_getf (C := RX8) (T := TX8) (N := 7) hx hb hf hts (fun w h => hAW w (inq_8 w h)) hown hK rfl (by decide) (hts _ (hAW _ qw_215)) rfl (by decide +kernel : decode cX8_cutDigits 41 = .ok (.getfield 20, 3))))
    (ms_lf (ms_aload_n (k := 0) hx hb rfl (by decide +kernel : decode cX8_cutDigits 44 = .ok (.aload_n 0, 1))))))
    (ms_b (ms_b (ms_lf (ms_getf (C := RX8) (T := TX8) (N := 7) hx hb hf hts (fun w h => hAW w (inq_8 w h)) hown hK rfl (by decide) (hts _ (hAW _ qw_217)) rfl (by decide +kernel : decode cX8_cutDigits 45 = .ok (.getfield 47, 3))))
    (ms_lf (ms_bald hx hb hf hA (by decide +kernel : decode cX8_cutDigits 48 = .ok (.baload, 1)))))
    (ms_b (ms_lf (ms_i2l hx hb (by decide +kernel : decode cX8_cutDigits 49 = .ok (.i2l, 1))))
    (ms_lf (ms_ladd hx hb (by decide +kernel : decode cX8_cutDigits 50 = .ok (.ladd, 1)))))))))
    (ms_b (ms_b (ms_b (ms_b (ms_lf (ms_ldc2 hx hb hown (hts _ (hAW _ qw_670)) (by decide +kernel : decode cX8_cutDigits 51 = .ok (.ldc2_w 82, 3))))
    (ms_b (ms_lf (ms_lsub hx hb (by decide +kernel : decode cX8_cutDigits 54 = .ok (.lsub, 1))))
    (ms_lf (ms_goto hx hb (by decide) (by decide +kernel : decode cX8_cutDigits 55 = .ok (.goto 4, 3))))))
    (ms_b (ms_b (ms_lf (ms_lload_n (k := 3) hx hb rfl (by decide +kernel : decode cX8_cutDigits 58 = .ok (.lload_n 3, 1))))
    (ms_lf (ms_lstore_n (k := 3) hx hb rfl (by decide : 3 + 1 < 5) (by decide +kernel : decode cX8_cutDigits 59 = .ok (.lstore_n 3, 1)))))
    (ms_b (ms_lf (ms_iinc hx hb (by decide) (by decide : 2 < 5) (by decide +kernel : decode cX8_cutDigits 60 = .ok (.iinc 2 1, 3))))
    (ms_lf (ms_aload_n (k := 0) hx hb rfl (by decide +kernel : decode cX8_cutDigits 63 = .ok (.aload_n 0, 1)))))))
    (ms_b (ms_b (ms_lf (ms_dup hx hb (by decide +kernel : decode cX8_cutDigits 64 = .ok (.dup, 1))))
    (ms_b (ms_lf (ms_getf (C := RX8) (T := TX8) (N := 7) hx hb hf hts (fun w h => hAW w (inq_8 w h)) hown hK rfl (by decide) (hts _ (hAW _ qw_217)) rfl (by decide +kernel : decode cX8_cutDigits 65 = .ok (.getfield 47, 3))))
    (ms_lf (ms_iconst hx hb (by decide) (by decide +kernel : decode cX8_cutDigits 68 = .ok (.iconst 1, 1))))))
    (ms_b (ms_b (ms_lf (ms_iadd hx hb (by decide +kernel : decode cX8_cutDigits 69 = .ok (.iadd, 1))))
    (ms_lf (ms_put (C := RX8) (T := TX8) (N := 7) hx hb hf hts (fun w h => hAW w (inq_8 w h)) tyX8 tyX8_ok nmX8 hown hK rfl (by decide) (hts _ (hAW _ qw_217)) rfl rfl rfl (by decide +kernel : decode cX8_cutDigits 70 = .ok (.putfield 47, 3)))))
    (ms_b (ms_lf (ms_goto hx hb (by decide) (by decide +kernel : decode cX8_cutDigits 73 = .ok (.goto (-69), 3))))
    (ms_lf (ms_aload_n (k := 0) hx hb rfl (by decide +kernel : decode cX8_cutDigits 76 = .ok (.aload_n 0, 1))))))))
    (ms_b (ms_b (ms_b (ms_lf (ms_getf (C := RX8) (T := TX8) (N := 7) hx hb hf hts (fun w h => hAW w (inq_8 w h)) hown hK rfl (by decide) (hts _ (hAW _ qw_213)) rfl (by decide +kernel : decode cX8_cutDigits 77 = .ok (.getfield 16, 3))))
    (ms_b (ms_lf (ms_iload_n (k := 1) hx hb rfl (by decide +kernel : decode cX8_cutDigits 80 = .ok (.iload_n 1, 1))))
    (ms_lf (ms_lload_n (k := 3) hx hb rfl (by decide +kernel : decode cX8_cutDigits 81 = .ok (.lload_n 3, 1))))))
    (ms_b (ms_b (ms_lf (ms_last hx hb hf hA (by decide +kernel : decode cX8_cutDigits 82 = .ok (.lastore, 1))))
    (ms_lf (ms_aload_n (k := 0) hx hb rfl (by decide +kernel : decode cX8_cutDigits 83 = .ok (.aload_n 0, 1)))))
    (ms_b (ms_lf (ms_getf (C := RX8) (T := TX8) (N := 7) hx hb hf hts (fun w h => hAW w (inq_8 w h)) hown hK rfl (by decide) (hts _ (hAW _ qw_209)) rfl (by decide +kernel : decode cX8_cutDigits 84 = .ok (.getfield 9, 3))))
    (ms_lf (ms_iload_n (k := 1) hx hb rfl (by decide +kernel : decode cX8_cutDigits 87 = .ok (.iload_n 1, 1)))))))
    (ms_b (ms_b (ms_b (ms_lf (ms_iload_n (k := 2) hx hb rfl (by decide +kernel : decode cX8_cutDigits 88 = .ok (.iload_n 2, 1))))
    (ms_lf (ms_iconst hx hb (by decide) (by decide +kernel : decode cX8_cutDigits 89 = .ok (.iconst 4, 1)))))
    (ms_b (ms_lf (ms_ic_le hx hb (by decide) (by decide +kernel : decode cX8_cutDigits 90 = .ok (.if_icmp .le 8, 3))))
    (ms_lf (ms_bipush hx hb (by decide) (by decide +kernel : decode cX8_cutDigits 93 = .ok (.bipush 24, 2))))))
    (ms_b (ms_b (ms_lf (ms_goto hx hb (by decide) (by decide +kernel : decode cX8_cutDigits 95 = .ok (.goto 5, 3))))
    (ms_lf (ms_bipush hx hb (by decide) (by decide +kernel : decode cX8_cutDigits 98 = .ok (.bipush 22, 2)))))
    (ms_b (ms_lf (ms_iast hx hb hf hA (by decide +kernel : decode cX8_cutDigits 100 = .ok (.iastore, 1))))
    (ms_lf (ms_ret hx hb hr hlk (by decide +kernel : decode cX8_cutDigits 101 = .ok (.return_, 1))))))))))
set_option maxRecDepth 100000 in
set_option maxHeartbeats 8000000 in
/-- TippedCrates$Tape.withLetter -/
theorem sd_92 (l : Launch) (f : Nat → Nat) (D : va_G) (cA : FieldType → ClassId) (d : Nat) : mm_Ok2 l f D cA d (yX8_withLetter, cX8_withLetter, 3, (some .long), mc_92) := by
  intro p e R s m args below meth c C hRf hRl pc
  obtain ⟨hx, hb, hml, hr, hlk, hnm, hown, hts, hEX, hgo, hf⟩ := C
  obtain ⟨hK, hA, hX, hZs, hZc, hZq, hTx, hSR0, hSR1, hAO, hN⟩ := id hEX
  have hAW : ∀ w ∈ mm_AW, w ∈ (Cond.code yX8_withLetter cX8_withLetter 3 (some .long) :: mm_AW) := fun w h => List.mem_cons_of_mem _ h
  have hown : s.vm.findClass "TippedCrates$Tape" = some m.cls := hown
  show mm_S p l e R s m args below meth c f D mm_cl cA 3 _ pc (mc_92 pc)
  unfold mc_92
  exact (ms_b (ms_b (ms_b (ms_lf (ms_lload_n (k := 0) hx hb rfl (by decide +kernel : decode cX8_withLetter 0 = .ok (.lload_n 0, 1))))
    (ms_lf (ms_ldc2 hx hb hown (hts _ (hAW _ qw_204)) (by decide +kernel : decode cX8_withLetter 1 = .ok (.ldc2_w 84, 3)))))
    (ms_b (ms_lf (ms_lmul hx hb (by decide +kernel : decode cX8_withLetter 4 = .ok (.lmul, 1))))
    (ms_b (ms_lf (ms_iload_n (k := 2) hx hb rfl (by decide +kernel : decode cX8_withLetter 5 = .ok (.iload_n 2, 1))))
    (ms_lf (ms_i2l hx hb (by decide +kernel : decode cX8_withLetter 6 = .ok (.i2l, 1)))))))
    (ms_b (ms_b (ms_lf (ms_ladd hx hb (by decide +kernel : decode cX8_withLetter 7 = .ok (.ladd, 1))))
    (ms_b (ms_lf (ms_ldc2 hx hb hown (hts _ (hAW _ qw_205)) (by decide +kernel : decode cX8_withLetter 8 = .ok (.ldc2_w 86, 3))))
    (ms_lf (ms_lsub hx hb (by decide +kernel : decode cX8_withLetter 11 = .ok (.lsub, 1))))))
    (ms_b (ms_lf (ms_lconst hx hb (by decide) (by decide +kernel : decode cX8_withLetter 12 = .ok (.lconst 1, 1))))
    (ms_b (ms_lf (ms_ladd hx hb (by decide +kernel : decode cX8_withLetter 13 = .ok (.ladd, 1))))
    (ms_lf (ms_lret hx hb hr hlk (by decide +kernel : decode cX8_withLetter 14 = .ok (.lreturn, 1))))))))
set_option maxRecDepth 100000 in
set_option maxHeartbeats 8000000 in
/-- TippedCrates$Tape.isBlank -/
theorem sd_93 (l : Launch) (f : Nat → Nat) (D : va_G) (cA : FieldType → ClassId) (d : Nat) : mm_Ok2 l f D cA d (yX8_isBlank, cX8_isBlank, 1, (some .boolean), mc_93) := by
  intro p e R s m args below meth c C hRf hRl pc
  obtain ⟨hx, hb, hml, hr, hlk, hnm, hown, hts, hEX, hgo, hf⟩ := C
  obtain ⟨hK, hA, hX, hZs, hZc, hZq, hTx, hSR0, hSR1, hAO, hN⟩ := id hEX
  have hAW : ∀ w ∈ mm_AW, w ∈ (Cond.code yX8_isBlank cX8_isBlank 1 (some .boolean) :: mm_AW) := fun w h => List.mem_cons_of_mem _ h
  have hown : s.vm.findClass "TippedCrates$Tape" = some m.cls := hown
  show mm_S p l e R s m args below meth c f D mm_cl cA 1 _ pc (mc_93 pc)
  unfold mc_93
  exact (ms_b (ms_b (ms_b (ms_b (ms_lf (ms_iload_n (k := 0) hx hb rfl (by decide +kernel : decode cX8_isBlank 0 = .ok (.iload_n 0, 1))))
    (ms_lf (ms_bipush hx hb (by decide) (by decide +kernel : decode cX8_isBlank 1 = .ok (.bipush 9, 2)))))
    (ms_b (ms_lf (ms_ic_eq hx hb (by decide) (by decide +kernel : decode cX8_isBlank 3 = .ok (.if_icmp .eq 21, 3))))
    (ms_lf (ms_iload_n (k := 0) hx hb rfl (by decide +kernel : decode cX8_isBlank 6 = .ok (.iload_n 0, 1))))))
    (ms_b (ms_b (ms_lf (ms_bipush hx hb (by decide) (by decide +kernel : decode cX8_isBlank 7 = .ok (.bipush 10, 2))))
    (ms_lf (ms_ic_eq hx hb (by decide) (by decide +kernel : decode cX8_isBlank 9 = .ok (.if_icmp .eq 15, 3)))))
    (ms_b (ms_lf (ms_iload_n (k := 0) hx hb rfl (by decide +kernel : decode cX8_isBlank 12 = .ok (.iload_n 0, 1))))
    (ms_lf (ms_bipush hx hb (by decide) (by decide +kernel : decode cX8_isBlank 13 = .ok (.bipush 13, 2)))))))
    (ms_b (ms_b (ms_b (ms_lf (ms_ic_eq hx hb (by decide) (by decide +kernel : decode cX8_isBlank 15 = .ok (.if_icmp .eq 9, 3))))
    (ms_lf (ms_iload_n (k := 0) hx hb rfl (by decide +kernel : decode cX8_isBlank 18 = .ok (.iload_n 0, 1)))))
    (ms_b (ms_lf (ms_bipush hx hb (by decide) (by decide +kernel : decode cX8_isBlank 19 = .ok (.bipush 32, 2))))
    (ms_lf (ms_ic_ne hx hb (by decide) (by decide +kernel : decode cX8_isBlank 21 = .ok (.if_icmp .ne 7, 3))))))
    (ms_b (ms_b (ms_lf (ms_iconst hx hb (by decide) (by decide +kernel : decode cX8_isBlank 24 = .ok (.iconst 1, 1))))
    (ms_lf (ms_goto hx hb (by decide) (by decide +kernel : decode cX8_isBlank 25 = .ok (.goto 4, 3)))))
    (ms_b (ms_lf (ms_iconst hx hb (by decide) (by decide +kernel : decode cX8_isBlank 28 = .ok (.iconst 0, 1))))
    (ms_lf (ms_iret hx hb hr hlk (by decide +kernel : decode cX8_isBlank 29 = .ok (.ireturn, 1))))))))
set_option maxRecDepth 100000 in
set_option maxHeartbeats 8000000 in
/-- TippedCrates$Tape.isLetter -/
theorem sd_94 (l : Launch) (f : Nat → Nat) (D : va_G) (cA : FieldType → ClassId) (d : Nat) : mm_Ok2 l f D cA d (yX8_isLetter, cX8_isLetter, 1, (some .boolean), mc_94) := by
  intro p e R s m args below meth c C hRf hRl pc
  obtain ⟨hx, hb, hml, hr, hlk, hnm, hown, hts, hEX, hgo, hf⟩ := C
  obtain ⟨hK, hA, hX, hZs, hZc, hZq, hTx, hSR0, hSR1, hAO, hN⟩ := id hEX
  have hAW : ∀ w ∈ mm_AW, w ∈ (Cond.code yX8_isLetter cX8_isLetter 1 (some .boolean) :: mm_AW) := fun w h => List.mem_cons_of_mem _ h
  have hown : s.vm.findClass "TippedCrates$Tape" = some m.cls := hown
  show mm_S p l e R s m args below meth c f D mm_cl cA 1 _ pc (mc_94 pc)
  unfold mc_94
  exact (ms_b (ms_b (ms_b (ms_lf (ms_iload_n (k := 0) hx hb rfl (by decide +kernel : decode cX8_isLetter 0 = .ok (.iload_n 0, 1))))
    (ms_lf (ms_bipush hx hb (by decide) (by decide +kernel : decode cX8_isLetter 1 = .ok (.bipush 97, 2)))))
    (ms_b (ms_lf (ms_ic_lt hx hb (by decide) (by decide +kernel : decode cX8_isLetter 3 = .ok (.if_icmp .lt 13, 3))))
    (ms_b (ms_lf (ms_iload_n (k := 0) hx hb rfl (by decide +kernel : decode cX8_isLetter 6 = .ok (.iload_n 0, 1))))
    (ms_lf (ms_bipush hx hb (by decide) (by decide +kernel : decode cX8_isLetter 7 = .ok (.bipush 122, 2)))))))
    (ms_b (ms_b (ms_lf (ms_ic_gt hx hb (by decide) (by decide +kernel : decode cX8_isLetter 9 = .ok (.if_icmp .gt 7, 3))))
    (ms_lf (ms_iconst hx hb (by decide) (by decide +kernel : decode cX8_isLetter 12 = .ok (.iconst 1, 1)))))
    (ms_b (ms_lf (ms_goto hx hb (by decide) (by decide +kernel : decode cX8_isLetter 13 = .ok (.goto 4, 3))))
    (ms_b (ms_lf (ms_iconst hx hb (by decide) (by decide +kernel : decode cX8_isLetter 16 = .ok (.iconst 0, 1))))
    (ms_lf (ms_iret hx hb hr hlk (by decide +kernel : decode cX8_isLetter 17 = .ok (.ireturn, 1))))))))
set_option maxRecDepth 100000 in
set_option maxHeartbeats 8000000 in
/-- TippedCrates$Tape.isDigit -/
theorem sd_95 (l : Launch) (f : Nat → Nat) (D : va_G) (cA : FieldType → ClassId) (d : Nat) : mm_Ok2 l f D cA d (yX8_isDigit, cX8_isDigit, 1, (some .boolean), mc_95) := by
  intro p e R s m args below meth c C hRf hRl pc
  obtain ⟨hx, hb, hml, hr, hlk, hnm, hown, hts, hEX, hgo, hf⟩ := C
  obtain ⟨hK, hA, hX, hZs, hZc, hZq, hTx, hSR0, hSR1, hAO, hN⟩ := id hEX
  have hAW : ∀ w ∈ mm_AW, w ∈ (Cond.code yX8_isDigit cX8_isDigit 1 (some .boolean) :: mm_AW) := fun w h => List.mem_cons_of_mem _ h
  have hown : s.vm.findClass "TippedCrates$Tape" = some m.cls := hown
  show mm_S p l e R s m args below meth c f D mm_cl cA 1 _ pc (mc_95 pc)
  unfold mc_95
  exact (ms_b (ms_b (ms_b (ms_lf (ms_iload_n (k := 0) hx hb rfl (by decide +kernel : decode cX8_isDigit 0 = .ok (.iload_n 0, 1))))
    (ms_lf (ms_bipush hx hb (by decide) (by decide +kernel : decode cX8_isDigit 1 = .ok (.bipush 48, 2)))))
    (ms_b (ms_lf (ms_ic_lt hx hb (by decide) (by decide +kernel : decode cX8_isDigit 3 = .ok (.if_icmp .lt 13, 3))))
    (ms_b (ms_lf (ms_iload_n (k := 0) hx hb rfl (by decide +kernel : decode cX8_isDigit 6 = .ok (.iload_n 0, 1))))
    (ms_lf (ms_bipush hx hb (by decide) (by decide +kernel : decode cX8_isDigit 7 = .ok (.bipush 57, 2)))))))
    (ms_b (ms_b (ms_lf (ms_ic_gt hx hb (by decide) (by decide +kernel : decode cX8_isDigit 9 = .ok (.if_icmp .gt 7, 3))))
    (ms_lf (ms_iconst hx hb (by decide) (by decide +kernel : decode cX8_isDigit 12 = .ok (.iconst 1, 1)))))
    (ms_b (ms_lf (ms_goto hx hb (by decide) (by decide +kernel : decode cX8_isDigit 13 = .ok (.goto 4, 3))))
    (ms_b (ms_lf (ms_iconst hx hb (by decide) (by decide +kernel : decode cX8_isDigit 16 = .ok (.iconst 0, 1))))
    (ms_lf (ms_iret hx hb hr hlk (by decide +kernel : decode cX8_isDigit 17 = .ok (.ireturn, 1))))))))
set_option maxRecDepth 100000 in
set_option maxHeartbeats 8000000 in
/-- TippedCrates$Turns.<init> -/
theorem sd_96 (l : Launch) (f : Nat → Nat) (D : va_G) (cA : FieldType → ClassId) (d : Nat) : mm_Ok2 l f D cA d (yX9_init, cX9_init, 5, none, mc_96) := by
  intro p e R s m args below meth c C hRf hRl pc
  obtain ⟨hx, hb, hml, hr, hlk, hnm, hown, hts, hEX, hgo, hf⟩ := C
  obtain ⟨hK, hA, hX, hZs, hZc, hZq, hTx, hSR0, hSR1, hAO, hN⟩ := id hEX
  have hAW : ∀ w ∈ mm_AW, w ∈ (Cond.code yX9_init cX9_init 5 none :: mm_AW) := fun w h => List.mem_cons_of_mem _ h
  have hown : s.vm.findClass "TippedCrates$Turns" = some m.cls := hown
  show mm_S p l e R s m args below meth c f D mm_cl cA 5 _ pc (mc_96 pc)
  unfold mc_96
  exact (ms_b (ms_b (ms_b (ms_b (ms_b (ms_b (ms_lf (ms_aload_n (k := 0) hx hb rfl (by decide +kernel : decode cX9_init 0 = .ok (.aload_n 0, 1))))
    (ms_lf (ms_oi hx hb hml hown (hts _ (hAW _ qw_405)) (hts _ (hAW _ qw_144)) (hts _ (hAW _ qw_145)) (by omega) (by omega) (by decide +kernel : decode cX9_init 1 = .ok (.invokespecial 3, 3)))))
    (ms_b (ms_lf (ms_aload_n (k := 0) hx hb rfl (by decide +kernel : decode cX9_init 4 = .ok (.aload_n 0, 1))))
    (ms_b (ms_lf (ms_sipush hx hb (by decide) (by decide +kernel : decode cX9_init 5 = .ok (.sipush 144, 3))))
    (ms_lf (ms_na (aty := .int) hx hb hf hA rfl (hts _ (hAW _ qw_233)) rfl rfl rfl (by decide) (by decide +kernel : decode cX9_init 8 = .ok (.newarray .int, 2)))))))
    (ms_b (ms_b (ms_lf (ms_putF (C := RX9) (T := TX9) (N := 4) hx hb hf hts (fun w h => hAW w (inq_9 w h)) tyX9 tyX9_ok nmX9 hown hK rfl (by decide) (hts _ (hAW _ qw_420)) rfl rfl hnm rfl rfl (by decide +kernel : decode cX9_init 10 = .ok (.putfield 9, 3))))
    (ms_b (ms_lf (ms_aload_n (k := 0) hx hb rfl (by decide +kernel : decode cX9_init 13 = .ok (.aload_n 0, 1))))
    (ms_lf (ms_bipush hx hb (by decide) (by decide +kernel : decode cX9_init 14 = .ok (.bipush 96, 2))))))
    (ms_b (ms_lf (ms_na (aty := .int) hx hb hf hA rfl (hts _ (hAW _ qw_233)) rfl rfl rfl (by decide) (by decide +kernel : decode cX9_init 16 = .ok (.newarray .int, 2))))
    (ms_b (ms_lf (ms_putF (C := RX9) (T := TX9) (N := 4) hx hb hf hts (fun w h => hAW w (inq_9 w h)) tyX9 tyX9_ok nmX9 hown hK rfl (by decide) (hts _ (hAW _ qw_422)) rfl rfl hnm rfl rfl (by decide +kernel : decode cX9_init 18 = .ok (.putfield 15, 3))))
    (ms_lf (ms_aload_n (k := 0) hx hb rfl (by decide +kernel : decode cX9_init 21 = .ok (.aload_n 0, 1))))))))
    (ms_b (ms_b (ms_b (ms_lf (ms_bipush hx hb (by decide) (by decide +kernel : decode cX9_init 22 = .ok (.bipush 6, 2))))
    (ms_b (ms_lf (ms_na (aty := .int) hx hb hf hA rfl (hts _ (hAW _ qw_233)) rfl rfl rfl (by decide) (by decide +kernel : decode cX9_init 24 = .ok (.newarray .int, 2))))
    (ms_lf (ms_putF (C := RX9) (T := TX9) (N := 4) hx hb hf hts (fun w h => hAW w (inq_9 w h)) tyX9 tyX9_ok nmX9 hown hK rfl (by decide) (hts _ (hAW _ qw_424)) rfl rfl hnm rfl rfl (by decide +kernel : decode cX9_init 26 = .ok (.putfield 18, 3))))))
    (ms_b (ms_lf (ms_aload_n (k := 0) hx hb rfl (by decide +kernel : decode cX9_init 29 = .ok (.aload_n 0, 1))))
    (ms_b (ms_lf (ms_bipush hx hb (by decide) (by decide +kernel : decode cX9_init 30 = .ok (.bipush 24, 2))))
    (ms_lf (ms_na (aty := .int) hx hb hf hA rfl (hts _ (hAW _ qw_233)) rfl rfl rfl (by decide) (by decide +kernel : decode cX9_init 32 = .ok (.newarray .int, 2)))))))
    (ms_b (ms_b (ms_lf (ms_putF (C := RX9) (T := TX9) (N := 4) hx hb hf hts (fun w h => hAW w (inq_9 w h)) tyX9 tyX9_ok nmX9 hown hK rfl (by decide) (hts _ (hAW _ qw_425)) rfl rfl hnm rfl rfl (by decide +kernel : decode cX9_init 34 = .ok (.putfield 21, 3))))
    (ms_b (ms_lf (ms_iconst hx hb (by decide) (by decide +kernel : decode cX9_init 37 = .ok (.iconst 0, 1))))
    (ms_lf (ms_istore_n (k := 1) hx hb rfl (by decide : 1 < 5) (by decide +kernel : decode cX9_init 38 = .ok (.istore_n 1, 1))))))
    (ms_b (ms_lf (ms_iload_n (k := 1) hx hb rfl (by decide +kernel : decode cX9_init 39 = .ok (.iload_n 1, 1))))
    (ms_b (ms_lf (ms_bipush hx hb (by decide) (by decide +kernel : decode cX9_init 40 = .ok (.bipush 6, 2))))
    (ms_lf (ms_ic_ge hx hb (by decide) (by decide +kernel : decode cX9_init 42 = .ok (.if_icmp .ge 16, 3)))))))))
    (ms_b (ms_b (ms_b (ms_b (ms_lf (ms_aload_n (k := 0) hx hb rfl (by decide +kernel : decode cX9_init 45 = .ok (.aload_n 0, 1))))
    (ms_lf (ms_getf (C := RX9) (T := TX9) (N := 4) hx hb hf hts (fun w h => hAW w (inq_9 w h)) hown hK rfl (by decide) (hts _ (hAW _ qw_420)) rfl (by decide +kernel : decode cX9_init 46 = .ok (.getfield 9, 3)))))
    (ms_b (ms_lf (ms_iload_n (k := 1) hx hb rfl (by decide +kernel : decode cX9_init 49 = .ok (.iload_n 1, 1))))
    (ms_b (ms_lf (ms_iload_n (k := 1) hx hb rfl (by decide +kernel : decode cX9_init 50 = .ok (.iload_n 1, 1))))
    (ms_lf (ms_iast hx hb hf hA (by decide +kernel : decode cX9_init 51 = .ok (.iastore, 1)))))))
    (ms_b (ms_b (ms_lf (ms_iinc hx hb (by decide) (by decide : 1 < 5) (by decide +kernel : decode cX9_init 52 = .ok (.iinc 1 1, 3))))
    (ms_b (ms_lf (ms_goto hx hb (by decide) (by decide +kernel : decode cX9_init 55 = .ok (.goto (-16), 3))))
    (ms_lf (ms_iconst hx hb (by decide) (by decide +kernel : decode cX9_init 58 = .ok (.iconst 1, 1))))))
    (ms_b (ms_lf (ms_istore_n (k := 1) hx hb rfl (by decide : 1 < 5) (by decide +kernel : decode cX9_init 59 = .ok (.istore_n 1, 1))))
    (ms_b (ms_lf (ms_iconst hx hb (by decide) (by decide +kernel : decode cX9_init 60 = .ok (.iconst 0, 1))))
    (ms_lf (ms_istore_n (k := 2) hx hb rfl (by decide : 2 < 5) (by decide +kernel : decode cX9_init 61 = .ok (.istore_n 2, 1))))))))
    (ms_b (ms_b (ms_b (ms_lf (ms_iload_n (k := 2) hx hb rfl (by decide +kernel : decode cX9_init 62 = .ok (.iload_n 2, 1))))
    (ms_b (ms_lf (ms_bipush hx hb (by decide) (by decide +kernel : decode cX9_init 63 = .ok (.bipush 24, 2))))
    (ms_lf (ms_ic_ge hx hb (by decide) (by decide +kernel : decode cX9_init 65 = .ok (.if_icmp .ge 101, 3))))))
    (ms_b (ms_lf (ms_iconst hx hb (by decide) (by decide +kernel : decode cX9_init 68 = .ok (.iconst 0, 1))))
    (ms_b (ms_lf (ms_istore_n (k := 3) hx hb rfl (by decide : 3 < 5) (by decide +kernel : decode cX9_init 69 = .ok (.istore_n 3, 1))))
    (ms_lf (ms_iload_n (k := 3) hx hb rfl (by decide +kernel : decode cX9_init 70 = .ok (.iload_n 3, 1)))))))
    (ms_b (ms_b (ms_lf (ms_iconst hx hb (by decide) (by decide +kernel : decode cX9_init 71 = .ok (.iconst 4, 1))))
    (ms_b (ms_lf (ms_ic_ge hx hb (by decide) (by decide +kernel : decode cX9_init 72 = .ok (.if_icmp .ge 88, 3))))
    (ms_lf (ms_aload_n (k := 0) hx hb rfl (by decide +kernel : decode cX9_init 75 = .ok (.aload_n 0, 1))))))
    (ms_b (ms_lf (ms_getf (C := RX9) (T := TX9) (N := 4) hx hb hf hts (fun w h => hAW w (inq_9 w h)) hown hK rfl (by decide) (hts _ (hAW _ qw_420)) rfl (by decide +kernel : decode cX9_init 76 = .ok (.getfield 9, 3))))
    (ms_b (ms_lf (ms_iload_n (k := 2) hx hb rfl (by decide +kernel : decode cX9_init 79 = .ok (.iload_n 2, 1))))
    (ms_lf (ms_bipush hx hb (by decide) (by decide +kernel : decode cX9_init 80 = .ok (.bipush 6, 2))))))))))
    (ms_b (ms_b (ms_b (ms_b (ms_b (ms_lf (ms_imul hx hb (by decide +kernel : decode cX9_init 82 = .ok (.imul, 1))))
    (ms_lf (ms_aload_n (k := 0) hx hb rfl (by decide +kernel : decode cX9_init 83 = .ok (.aload_n 0, 1)))))
    (ms_b (ms_lf (ms_getf (C := RX9) (T := TX9) (N := 4) hx hb hf hts (fun w h => hAW w (inq_9 w h)) hown hK rfl (by decide) (hts _ (hAW _ qw_424)) rfl (by decide +kernel : decode cX9_init 84 = .ok (.getfield 18, 3))))
    (ms_b (ms_lf (ms_iconst hx hb (by decide) (by decide +kernel : decode cX9_init 87 = .ok (.iconst 0, 1))))
    (ms_lf (ms_bipush hx hb (by decide) (by decide +kernel : decode cX9_init 88 = .ok (.bipush 6, 2)))))))
    (ms_b (ms_b (ms_lf (ms_ac hx hb hml hf hA hown (hts _ (hAW _ qw_406)) (hts _ (hAW _ qw_408)) (hts _ (hAW _ qw_407)) (hts _ (hAW _ qw_128)) (by omega) (by rw [hRl]; simp [nativeFrameWords]; omega) (by decide +kernel : decode cX9_init 90 = .ok (.invokestatic 24, 3))))
    (ms_b (ms_lf (ms_aload_n (k := 0) hx hb rfl (by decide +kernel : decode cX9_init 93 = .ok (.aload_n 0, 1))))
    (ms_lf (ms_getf (C := RX9) (T := TX9) (N := 4) hx hb hf hts (fun w h => hAW w (inq_9 w h)) hown hK rfl (by decide) (hts _ (hAW _ qw_424)) rfl (by decide +kernel : decode cX9_init 94 = .ok (.getfield 18, 3))))))
    (ms_b (ms_lf (ms_iconst hx hb (by decide) (by decide +kernel : decode cX9_init 97 = .ok (.iconst 0, 1))))
    (ms_b (ms_lf (ms_iload_n (k := 3) hx hb rfl (by decide +kernel : decode cX9_init 98 = .ok (.iload_n 3, 1))))
    (ms_lf (ms_ivSN hx hb hml hown hts hgo hEX (mm_GI hAW gi_167) rfl (hN.2.2.2.2.2.2.2.2.2.2.2.2.2.1) (hts _ (hAW _ qw_410)) (hts _ (hAW _ qw_117)) hd_167 (mm_rm hRf hRl (Nat.le_of_ble_eq_true rfl)) (by decide +kernel : decode cX9_init 99 = .ok (.invokestatic 30, 3))))))))
    (ms_b (ms_b (ms_b (ms_lf (ms_aload_n (k := 0) hx hb rfl (by decide +kernel : decode cX9_init 102 = .ok (.aload_n 0, 1))))
    (ms_b (ms_lf (ms_iload_n (k := 1) hx hb rfl (by decide +kernel : decode cX9_init 103 = .ok (.iload_n 1, 1))))
    (ms_lf (ms_ivV (C := RX9) (T := TX9) (N := 4) hx hb hml hown hts hgo hEX hf hK rfl (mm_GV hAW (mm_GI hAW gi_97) qw_416 qw_418 qw_0 qw_127) rfl ⟨rfl, hd_97⟩ (mm_rm hRf hRl (Nat.le_of_ble_eq_true rfl)) (by decide +kernel : decode cX9_init 104 = .ok (.invokevirtual 34, 3))))))
    (ms_b (ms_lf (ms_istore hx hb (by decide : 4 < 5) (by decide +kernel : decode cX9_init 107 = .ok (.istore 4, 2))))
    (ms_b (ms_lf (ms_iload hx hb (by decide +kernel : decode cX9_init 109 = .ok (.iload 4, 2))))
    (ms_lf (ms_iload_n (k := 1) hx hb rfl (by decide +kernel : decode cX9_init 111 = .ok (.iload_n 1, 1)))))))
    (ms_b (ms_b (ms_lf (ms_ic_ne hx hb (by decide) (by decide +kernel : decode cX9_init 112 = .ok (.if_icmp .ne 30, 3))))
    (ms_b (ms_lf (ms_iload_n (k := 1) hx hb rfl (by decide +kernel : decode cX9_init 115 = .ok (.iload_n 1, 1))))
    (ms_lf (ms_bipush hx hb (by decide) (by decide +kernel : decode cX9_init 116 = .ok (.bipush 24, 2))))))
    (ms_b (ms_lf (ms_ic_ge hx hb (by decide) (by decide +kernel : decode cX9_init 118 = .ok (.if_icmp .ge 24, 3))))
    (ms_b (ms_lf (ms_aload_n (k := 0) hx hb rfl (by decide +kernel : decode cX9_init 121 = .ok (.aload_n 0, 1))))
    (ms_lf (ms_getf (C := RX9) (T := TX9) (N := 4) hx hb hf hts (fun w h => hAW w (inq_9 w h)) hown hK rfl (by decide) (hts _ (hAW _ qw_424)) rfl (by decide +kernel : decode cX9_init 122 = .ok (.getfield 18, 3)))))))))
    (ms_b (ms_b (ms_b (ms_b (ms_lf (ms_iconst hx hb (by decide) (by decide +kernel : decode cX9_init 125 = .ok (.iconst 0, 1))))
    (ms_lf (ms_aload_n (k := 0) hx hb rfl (by decide +kernel : decode cX9_init 126 = .ok (.aload_n 0, 1)))))
    (ms_b (ms_lf (ms_getf (C := RX9) (T := TX9) (N := 4) hx hb hf hts (fun w h => hAW w (inq_9 w h)) hown hK rfl (by decide) (hts _ (hAW _ qw_420)) rfl (by decide +kernel : decode cX9_init 127 = .ok (.getfield 9, 3))))
    (ms_b (ms_lf (ms_iload_n (k := 1) hx hb rfl (by decide +kernel : decode cX9_init 130 = .ok (.iload_n 1, 1))))
    (ms_lf (ms_bipush hx hb (by decide) (by decide +kernel : decode cX9_init 131 = .ok (.bipush 6, 2)))))))
    (ms_b (ms_b (ms_lf (ms_imul hx hb (by decide +kernel : decode cX9_init 133 = .ok (.imul, 1))))
    (ms_b (ms_lf (ms_bipush hx hb (by decide) (by decide +kernel : decode cX9_init 134 = .ok (.bipush 6, 2))))
    (ms_lf (ms_ac hx hb hml hf hA hown (hts _ (hAW _ qw_406)) (hts _ (hAW _ qw_408)) (hts _ (hAW _ qw_407)) (hts _ (hAW _ qw_128)) (by omega) (by rw [hRl]; simp [nativeFrameWords]; omega) (by decide +kernel : decode cX9_init 136 = .ok (.invokestatic 24, 3))))))
    (ms_b (ms_lf (ms_iinc hx hb (by decide) (by decide : 1 < 5) (by decide +kernel : decode cX9_init 139 = .ok (.iinc 1 1, 3))))
    (ms_b (ms_lf (ms_aload_n (k := 0) hx hb rfl (by decide +kernel : decode cX9_init 142 = .ok (.aload_n 0, 1))))
    (ms_lf (ms_getf (C := RX9) (T := TX9) (N := 4) hx hb hf hts (fun w h => hAW w (inq_9 w h)) hown hK rfl (by decide) (hts _ (hAW _ qw_422)) rfl (by decide +kernel : decode cX9_init 143 = .ok (.getfield 15, 3))))))))
    (ms_b (ms_b (ms_b (ms_lf (ms_iload_n (k := 2) hx hb rfl (by decide +kernel : decode cX9_init 146 = .ok (.iload_n 2, 1))))
    (ms_b (ms_lf (ms_iconst hx hb (by decide) (by decide +kernel : decode cX9_init 147 = .ok (.iconst 4, 1))))
    (ms_lf (ms_imul hx hb (by decide +kernel : decode cX9_init 148 = .ok (.imul, 1))))))
    (ms_b (ms_lf (ms_iload_n (k := 3) hx hb rfl (by decide +kernel : decode cX9_init 149 = .ok (.iload_n 3, 1))))
    (ms_b (ms_lf (ms_iadd hx hb (by decide +kernel : decode cX9_init 150 = .ok (.iadd, 1))))
    (ms_lf (ms_iload hx hb (by decide +kernel : decode cX9_init 151 = .ok (.iload 4, 2)))))))
    (ms_b (ms_b (ms_lf (ms_iast hx hb hf hA (by decide +kernel : decode cX9_init 153 = .ok (.iastore, 1))))
    (ms_b (ms_lf (ms_iinc hx hb (by decide) (by decide : 3 < 5) (by decide +kernel : decode cX9_init 154 = .ok (.iinc 3 1, 3))))
    (ms_lf (ms_goto hx hb (by decide) (by decide +kernel : decode cX9_init 157 = .ok (.goto (-87), 3))))))
    (ms_b (ms_lf (ms_iinc hx hb (by decide) (by decide : 2 < 5) (by decide +kernel : decode cX9_init 160 = .ok (.iinc 2 1, 3))))
    (ms_b (ms_lf (ms_goto hx hb (by decide) (by decide +kernel : decode cX9_init 163 = .ok (.goto (-101), 3))))
    (ms_lf (ms_ret hx hb hr hlk (by decide +kernel : decode cX9_init 166 = .ok (.return_, 1)))))))))))
