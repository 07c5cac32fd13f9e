theorem in_t1 : ∀ w ∈ tables_1_1, w ∈ lw_tbl := fun w h => by
  show w ∈ k2_sels lw_privs ++ (tables_1_1 ++ (tables_1_2 ++ (tables_1_3 ++ (tables_1_4 ++ (tables_1_5 ++ (tables_1_6 ++ (tables_1_7 ++ (tables_1_8 ++ (tables_1_9)))))))))
  exact List.mem_append_right _ (List.mem_append_left _ h)
theorem in_t2 : ∀ w ∈ tables_1_2, w ∈ lw_tbl := fun w h => by
  show w ∈ k2_sels lw_privs ++ (tables_1_1 ++ (tables_1_2 ++ (tables_1_3 ++ (tables_1_4 ++ (tables_1_5 ++ (tables_1_6 ++ (tables_1_7 ++ (tables_1_8 ++ (tables_1_9)))))))))
  exact List.mem_append_right _ (List.mem_append_right _ (List.mem_append_left _ h))
theorem in_t3 : ∀ w ∈ tables_1_3, w ∈ lw_tbl := fun w h => by
  show w ∈ k2_sels lw_privs ++ (tables_1_1 ++ (tables_1_2 ++ (tables_1_3 ++ (tables_1_4 ++ (tables_1_5 ++ (tables_1_6 ++ (tables_1_7 ++ (tables_1_8 ++ (tables_1_9)))))))))
  exact List.mem_append_right _ (List.mem_append_right _ (List.mem_append_right _ (List.mem_append_left _ h)))
theorem in_t4 : ∀ w ∈ tables_1_4, w ∈ lw_tbl := fun w h => by
  show w ∈ k2_sels lw_privs ++ (tables_1_1 ++ (tables_1_2 ++ (tables_1_3 ++ (tables_1_4 ++ (tables_1_5 ++ (tables_1_6 ++ (tables_1_7 ++ (tables_1_8 ++ (tables_1_9)))))))))
  exact List.mem_append_right _ (List.mem_append_right _ (List.mem_append_right _ (List.mem_append_right _ (List.mem_append_left _ h))))
theorem in_t5 : ∀ w ∈ tables_1_5, w ∈ lw_tbl := fun w h => by
  show w ∈ k2_sels lw_privs ++ (tables_1_1 ++ (tables_1_2 ++ (tables_1_3 ++ (tables_1_4 ++ (tables_1_5 ++ (tables_1_6 ++ (tables_1_7 ++ (tables_1_8 ++ (tables_1_9)))))))))
  exact List.mem_append_right _ (List.mem_append_right _ (List.mem_append_right _ (List.mem_append_right _ (List.mem_append_right _ (List.mem_append_left _ h)))))
theorem in_t6 : ∀ w ∈ tables_1_6, w ∈ lw_tbl := fun w h => by
  show w ∈ k2_sels lw_privs ++ (tables_1_1 ++ (tables_1_2 ++ (tables_1_3 ++ (tables_1_4 ++ (tables_1_5 ++ (tables_1_6 ++ (tables_1_7 ++ (tables_1_8 ++ (tables_1_9)))))))))
  exact List.mem_append_right _ (List.mem_append_right _ (List.mem_append_right _ (List.mem_append_right _ (List.mem_append_right _ (List.mem_append_right _ (List.mem_append_left _ h))))))
theorem in_t7 : ∀ w ∈ tables_1_7, w ∈ lw_tbl := fun w h => by
  show w ∈ k2_sels lw_privs ++ (tables_1_1 ++ (tables_1_2 ++ (tables_1_3 ++ (tables_1_4 ++ (tables_1_5 ++ (tables_1_6 ++ (tables_1_7 ++ (tables_1_8 ++ (tables_1_9)))))))))
  exact List.mem_append_right _ (List.mem_append_right _ (List.mem_append_right _ (List.mem_append_right _ (List.mem_append_right _ (List.mem_append_right _ (List.mem_append_right _ (List.mem_append_left _ h)))))))
theorem in_t8 : ∀ w ∈ tables_1_8, w ∈ lw_tbl := fun w h => by
  show w ∈ k2_sels lw_privs ++ (tables_1_1 ++ (tables_1_2 ++ (tables_1_3 ++ (tables_1_4 ++ (tables_1_5 ++ (tables_1_6 ++ (tables_1_7 ++ (tables_1_8 ++ (tables_1_9)))))))))
  exact List.mem_append_right _ (List.mem_append_right _ (List.mem_append_right _ (List.mem_append_right _ (List.mem_append_right _ (List.mem_append_right _ (List.mem_append_right _ (List.mem_append_right _ (List.mem_append_left _ h))))))))
theorem in_t9 : ∀ w ∈ tables_1_9, w ∈ lw_tbl := fun w h => by
  show w ∈ k2_sels lw_privs ++ (tables_1_1 ++ (tables_1_2 ++ (tables_1_3 ++ (tables_1_4 ++ (tables_1_5 ++ (tables_1_6 ++ (tables_1_7 ++ (tables_1_8 ++ (tables_1_9)))))))))
  exact List.mem_append_right _ (List.mem_append_right _ (List.mem_append_right _ (List.mem_append_right _ (List.mem_append_right _ (List.mem_append_right _ (List.mem_append_right _ (List.mem_append_right _ (List.mem_append_right _ h))))))))
theorem mm_aw2 {w : Cond} (h : w ∈ lw_tbl) (g : goodWord w = true) : w ∈ mm_AW := List.mem_filter.mpr ⟨h, g⟩
set_option maxRecDepth 20000 in
theorem gi_0 : Cond.code (mm_Y 0) (mm_B 0) (mm_nL 0) (mm_RT 0) ∈ mm_AW := mm_aw2 (in_t2 _ (List.mem_of_getElem? (i := 38) rfl)) rfl
set_option maxRecDepth 20000 in
theorem gi_1 : Cond.code (mm_Y 1) (mm_B 1) (mm_nL 1) (mm_RT 1) ∈ mm_AW := mm_aw2 (in_t4 _ (List.mem_of_getElem? (i := 126) rfl)) rfl
set_option maxRecDepth 20000 in
theorem gi_2 : Cond.code (mm_Y 2) (mm_B 2) (mm_nL 2) (mm_RT 2) ∈ mm_AW := mm_aw2 (in_t4 _ (List.mem_of_getElem? (i := 110) rfl)) rfl
set_option maxRecDepth 20000 in
theorem gi_3 : Cond.code (mm_Y 3) (mm_B 3) (mm_nL 3) (mm_RT 3) ∈ mm_AW := mm_aw2 (in_t4 _ (List.mem_of_getElem? (i := 116) rfl)) rfl
set_option maxRecDepth 20000 in
theorem gi_4 : Cond.code (mm_Y 4) (mm_B 4) (mm_nL 4) (mm_RT 4) ∈ mm_AW := mm_aw2 (in_t4 _ (List.mem_of_getElem? (i := 132) rfl)) rfl
set_option maxRecDepth 20000 in
theorem gi_5 : Cond.code (mm_Y 5) (mm_B 5) (mm_nL 5) (mm_RT 5) ∈ mm_AW := mm_aw2 (in_t4 _ (List.mem_of_getElem? (i := 146) rfl)) rfl
set_option maxRecDepth 20000 in
theorem gi_6 : Cond.code (mm_Y 6) (mm_B 6) (mm_nL 6) (mm_RT 6) ∈ mm_AW := mm_aw2 (in_t4 _ (List.mem_of_getElem? (i := 142) rfl)) rfl
set_option maxRecDepth 20000 in
theorem gi_7 : Cond.code (mm_Y 7) (mm_B 7) (mm_nL 7) (mm_RT 7) ∈ mm_AW := mm_aw2 (in_t4 _ (List.mem_of_getElem? (i := 163) rfl)) rfl
set_option maxRecDepth 20000 in
theorem gi_8 : Cond.code (mm_Y 8) (mm_B 8) (mm_nL 8) (mm_RT 8) ∈ mm_AW := mm_aw2 (in_t4 _ (List.mem_of_getElem? (i := 182) rfl)) rfl
set_option maxRecDepth 20000 in
theorem gi_9 : Cond.code (mm_Y 9) (mm_B 9) (mm_nL 9) (mm_RT 9) ∈ mm_AW := mm_aw2 (in_t4 _ (List.mem_of_getElem? (i := 186) rfl)) rfl
set_option maxRecDepth 20000 in
theorem gi_10 : Cond.code (mm_Y 10) (mm_B 10) (mm_nL 10) (mm_RT 10) ∈ mm_AW := mm_aw2 (in_t4 _ (List.mem_of_getElem? (i := 189) rfl)) rfl
set_option maxRecDepth 20000 in
theorem gi_11 : Cond.code (mm_Y 11) (mm_B 11) (mm_nL 11) (mm_RT 11) ∈ mm_AW := mm_aw2 (in_t4 _ (List.mem_of_getElem? (i := 192) rfl)) rfl
set_option maxRecDepth 20000 in
theorem gi_12 : Cond.code (mm_Y 12) (mm_B 12) (mm_nL 12) (mm_RT 12) ∈ mm_AW := mm_aw2 (in_t1 _ (List.mem_of_getElem? (i := 130) rfl)) rfl
set_option maxRecDepth 20000 in
theorem gi_13 : Cond.code (mm_Y 13) (mm_B 13) (mm_nL 13) (mm_RT 13) ∈ mm_AW := mm_aw2 (in_t3 _ (List.mem_of_getElem? (i := 35) rfl)) rfl
set_option maxRecDepth 20000 in
theorem gi_14 : Cond.code (mm_Y 14) (mm_B 14) (mm_nL 14) (mm_RT 14) ∈ mm_AW := mm_aw2 (in_t3 _ (List.mem_of_getElem? (i := 39) rfl)) rfl
set_option maxRecDepth 20000 in
theorem gi_15 : Cond.code (mm_Y 15) (mm_B 15) (mm_nL 15) (mm_RT 15) ∈ mm_AW := mm_aw2 (in_t3 _ (List.mem_of_getElem? (i := 43) rfl)) rfl
set_option maxRecDepth 20000 in
theorem gi_16 : Cond.code (mm_Y 16) (mm_B 16) (mm_nL 16) (mm_RT 16) ∈ mm_AW := mm_aw2 (in_t3 _ (List.mem_of_getElem? (i := 203) rfl)) rfl
set_option maxRecDepth 20000 in
theorem gi_17 : Cond.code (mm_Y 17) (mm_B 17) (mm_nL 17) (mm_RT 17) ∈ mm_AW := mm_aw2 (in_t4 _ (List.mem_of_getElem? (i := 3) rfl)) rfl
set_option maxRecDepth 20000 in
theorem gi_18 : Cond.code (mm_Y 18) (mm_B 18) (mm_nL 18) (mm_RT 18) ∈ mm_AW := mm_aw2 (in_t4 _ (List.mem_of_getElem? (i := 136) rfl)) rfl
set_option maxRecDepth 20000 in
theorem gi_19 : Cond.code (mm_Y 19) (mm_B 19) (mm_nL 19) (mm_RT 19) ∈ mm_AW := mm_aw2 (in_t2 _ (List.mem_of_getElem? (i := 199) rfl)) rfl
set_option maxRecDepth 20000 in
theorem gi_20 : Cond.code (mm_Y 20) (mm_B 20) (mm_nL 20) (mm_RT 20) ∈ mm_AW := mm_aw2 (in_t4 _ (List.mem_of_getElem? (i := 66) rfl)) rfl
set_option maxRecDepth 20000 in
theorem gi_21 : Cond.code (mm_Y 21) (mm_B 21) (mm_nL 21) (mm_RT 21) ∈ mm_AW := mm_aw2 (in_t4 _ (List.mem_of_getElem? (i := 154) rfl)) rfl
set_option maxRecDepth 20000 in
theorem gi_22 : Cond.code (mm_Y 22) (mm_B 22) (mm_nL 22) (mm_RT 22) ∈ mm_AW := mm_aw2 (in_t4 _ (List.mem_of_getElem? (i := 205) rfl)) rfl
set_option maxRecDepth 20000 in
theorem gi_23 : Cond.code (mm_Y 23) (mm_B 23) (mm_nL 23) (mm_RT 23) ∈ mm_AW := mm_aw2 (in_t6 _ (List.mem_of_getElem? (i := 12) rfl)) rfl
set_option maxRecDepth 20000 in
theorem gi_24 : Cond.code (mm_Y 24) (mm_B 24) (mm_nL 24) (mm_RT 24) ∈ mm_AW := mm_aw2 (in_t6 _ (List.mem_of_getElem? (i := 20) rfl)) rfl
set_option maxRecDepth 20000 in
theorem gi_25 : Cond.code (mm_Y 25) (mm_B 25) (mm_nL 25) (mm_RT 25) ∈ mm_AW := mm_aw2 (in_t6 _ (List.mem_of_getElem? (i := 28) rfl)) rfl
set_option maxRecDepth 20000 in
theorem gi_26 : Cond.code (mm_Y 26) (mm_B 26) (mm_nL 26) (mm_RT 26) ∈ mm_AW := mm_aw2 (in_t1 _ (List.mem_of_getElem? (i := 124) rfl)) rfl
set_option maxRecDepth 20000 in
theorem gi_27 : Cond.code (mm_Y 27) (mm_B 27) (mm_nL 27) (mm_RT 27) ∈ mm_AW := mm_aw2 (in_t3 _ (List.mem_of_getElem? (i := 223) rfl)) rfl
set_option maxRecDepth 20000 in
theorem gi_28 : Cond.code (mm_Y 28) (mm_B 28) (mm_nL 28) (mm_RT 28) ∈ mm_AW := mm_aw2 (in_t3 _ (List.mem_of_getElem? (i := 230) rfl)) rfl
set_option maxRecDepth 20000 in
theorem gi_29 : Cond.code (mm_Y 29) (mm_B 29) (mm_nL 29) (mm_RT 29) ∈ mm_AW := mm_aw2 (in_t3 _ (List.mem_of_getElem? (i := 234) rfl)) rfl
set_option maxRecDepth 20000 in
theorem gi_30 : Cond.code (mm_Y 30) (mm_B 30) (mm_nL 30) (mm_RT 30) ∈ mm_AW := mm_aw2 (in_t4 _ (List.mem_of_getElem? (i := 120) rfl)) rfl
set_option maxRecDepth 20000 in
theorem gi_31 : Cond.code (mm_Y 31) (mm_B 31) (mm_nL 31) (mm_RT 31) ∈ mm_AW := mm_aw2 (in_t4 _ (List.mem_of_getElem? (i := 87) rfl)) rfl
set_option maxRecDepth 20000 in
theorem gi_32 : Cond.code (mm_Y 32) (mm_B 32) (mm_nL 32) (mm_RT 32) ∈ mm_AW := mm_aw2 (in_t5 _ (List.mem_of_getElem? (i := 40) rfl)) rfl
set_option maxRecDepth 20000 in
theorem gi_33 : Cond.code (mm_Y 33) (mm_B 33) (mm_nL 33) (mm_RT 33) ∈ mm_AW := mm_aw2 (in_t1 _ (List.mem_of_getElem? (i := 211) rfl)) rfl
set_option maxRecDepth 20000 in
theorem gi_34 : Cond.code (mm_Y 34) (mm_B 34) (mm_nL 34) (mm_RT 34) ∈ mm_AW := mm_aw2 (in_t3 _ (List.mem_of_getElem? (i := 27) rfl)) rfl
set_option maxRecDepth 20000 in
theorem gi_35 : Cond.code (mm_Y 35) (mm_B 35) (mm_nL 35) (mm_RT 35) ∈ mm_AW := mm_aw2 (in_t3 _ (List.mem_of_getElem? (i := 31) rfl)) rfl
set_option maxRecDepth 20000 in
theorem gi_36 : Cond.code (mm_Y 36) (mm_B 36) (mm_nL 36) (mm_RT 36) ∈ mm_AW := mm_aw2 (in_t3 _ (List.mem_of_getElem? (i := 138) rfl)) rfl
set_option maxRecDepth 20000 in
theorem gi_37 : Cond.code (mm_Y 37) (mm_B 37) (mm_nL 37) (mm_RT 37) ∈ mm_AW := mm_aw2 (in_t3 _ (List.mem_of_getElem? (i := 165) rfl)) rfl
set_option maxRecDepth 20000 in
theorem gi_38 : Cond.code (mm_Y 38) (mm_B 38) (mm_nL 38) (mm_RT 38) ∈ mm_AW := mm_aw2 (in_t3 _ (List.mem_of_getElem? (i := 157) rfl)) rfl
set_option maxRecDepth 20000 in
theorem gi_39 : Cond.code (mm_Y 39) (mm_B 39) (mm_nL 39) (mm_RT 39) ∈ mm_AW := mm_aw2 (in_t3 _ (List.mem_of_getElem? (i := 146) rfl)) rfl
set_option maxRecDepth 20000 in
theorem gi_40 : Cond.code (mm_Y 40) (mm_B 40) (mm_nL 40) (mm_RT 40) ∈ mm_AW := mm_aw2 (in_t3 _ (List.mem_of_getElem? (i := 150) rfl)) rfl
set_option maxRecDepth 20000 in
theorem gi_41 : Cond.code (mm_Y 41) (mm_B 41) (mm_nL 41) (mm_RT 41) ∈ mm_AW := mm_aw2 (in_t3 _ (List.mem_of_getElem? (i := 142) rfl)) rfl
set_option maxRecDepth 20000 in
theorem gi_42 : Cond.code (mm_Y 42) (mm_B 42) (mm_nL 42) (mm_RT 42) ∈ mm_AW := mm_aw2 (in_t3 _ (List.mem_of_getElem? (i := 161) rfl)) rfl
set_option maxRecDepth 20000 in
theorem gi_43 : Cond.code (mm_Y 43) (mm_B 43) (mm_nL 43) (mm_RT 43) ∈ mm_AW := mm_aw2 (in_t3 _ (List.mem_of_getElem? (i := 169) rfl)) rfl
set_option maxRecDepth 20000 in
theorem gi_44 : Cond.code (mm_Y 44) (mm_B 44) (mm_nL 44) (mm_RT 44) ∈ mm_AW := mm_aw2 (in_t3 _ (List.mem_of_getElem? (i := 173) rfl)) rfl
set_option maxRecDepth 20000 in
theorem gi_45 : Cond.code (mm_Y 45) (mm_B 45) (mm_nL 45) (mm_RT 45) ∈ mm_AW := mm_aw2 (in_t3 _ (List.mem_of_getElem? (i := 177) rfl)) rfl
set_option maxRecDepth 20000 in
theorem gi_46 : Cond.code (mm_Y 46) (mm_B 46) (mm_nL 46) (mm_RT 46) ∈ mm_AW := mm_aw2 (in_t3 _ (List.mem_of_getElem? (i := 181) rfl)) rfl
set_option maxRecDepth 20000 in
theorem gi_47 : Cond.code (mm_Y 47) (mm_B 47) (mm_nL 47) (mm_RT 47) ∈ mm_AW := mm_aw2 (in_t3 _ (List.mem_of_getElem? (i := 186) rfl)) rfl
set_option maxRecDepth 20000 in
theorem gi_48 : Cond.code (mm_Y 48) (mm_B 48) (mm_nL 48) (mm_RT 48) ∈ mm_AW := mm_aw2 (in_t3 _ (List.mem_of_getElem? (i := 190) rfl)) rfl
set_option maxRecDepth 20000 in
theorem gi_49 : Cond.code (mm_Y 49) (mm_B 49) (mm_nL 49) (mm_RT 49) ∈ mm_AW := mm_aw2 (in_t3 _ (List.mem_of_getElem? (i := 194) rfl)) rfl
set_option maxRecDepth 20000 in
theorem gi_50 : Cond.code (mm_Y 50) (mm_B 50) (mm_nL 50) (mm_RT 50) ∈ mm_AW := mm_aw2 (in_t3 _ (List.mem_of_getElem? (i := 199) rfl)) rfl
set_option maxRecDepth 20000 in
theorem gi_51 : Cond.code (mm_Y 51) (mm_B 51) (mm_nL 51) (mm_RT 51) ∈ mm_AW := mm_aw2 (in_t3 _ (List.mem_of_getElem? (i := 207) rfl)) rfl
set_option maxRecDepth 20000 in
theorem gi_52 : Cond.code (mm_Y 52) (mm_B 52) (mm_nL 52) (mm_RT 52) ∈ mm_AW := mm_aw2 (in_t3 _ (List.mem_of_getElem? (i := 211) rfl)) rfl
set_option maxRecDepth 20000 in
theorem gi_53 : Cond.code (mm_Y 53) (mm_B 53) (mm_nL 53) (mm_RT 53) ∈ mm_AW := mm_aw2 (in_t3 _ (List.mem_of_getElem? (i := 215) rfl)) rfl
set_option maxRecDepth 20000 in
theorem gi_54 : Cond.code (mm_Y 54) (mm_B 54) (mm_nL 54) (mm_RT 54) ∈ mm_AW := mm_aw2 (in_t3 _ (List.mem_of_getElem? (i := 219) rfl)) rfl
set_option maxRecDepth 20000 in
theorem gi_55 : Cond.code (mm_Y 55) (mm_B 55) (mm_nL 55) (mm_RT 55) ∈ mm_AW := mm_aw2 (in_t2 _ (List.mem_of_getElem? (i := 155) rfl)) rfl
set_option maxRecDepth 20000 in
theorem gi_56 : Cond.code (mm_Y 56) (mm_B 56) (mm_nL 56) (mm_RT 56) ∈ mm_AW := mm_aw2 (in_t5 _ (List.mem_of_getElem? (i := 202) rfl)) rfl
set_option maxRecDepth 20000 in
theorem gi_57 : Cond.code (mm_Y 57) (mm_B 57) (mm_nL 57) (mm_RT 57) ∈ mm_AW := mm_aw2 (in_t4 _ (List.mem_of_getElem? (i := 70) rfl)) rfl
set_option maxRecDepth 20000 in
theorem gi_58 : Cond.code (mm_Y 58) (mm_B 58) (mm_nL 58) (mm_RT 58) ∈ mm_AW := mm_aw2 (in_t5 _ (List.mem_of_getElem? (i := 218) rfl)) rfl
set_option maxRecDepth 20000 in
theorem gi_59 : Cond.code (mm_Y 59) (mm_B 59) (mm_nL 59) (mm_RT 59) ∈ mm_AW := mm_aw2 (in_t5 _ (List.mem_of_getElem? (i := 223) rfl)) rfl
set_option maxRecDepth 20000 in
theorem gi_60 : Cond.code (mm_Y 60) (mm_B 60) (mm_nL 60) (mm_RT 60) ∈ mm_AW := mm_aw2 (in_t5 _ (List.mem_of_getElem? (i := 231) rfl)) rfl
set_option maxRecDepth 20000 in
theorem gi_61 : Cond.code (mm_Y 61) (mm_B 61) (mm_nL 61) (mm_RT 61) ∈ mm_AW := mm_aw2 (in_t5 _ (List.mem_of_getElem? (i := 227) rfl)) rfl
set_option maxRecDepth 20000 in
theorem gi_62 : Cond.code (mm_Y 62) (mm_B 62) (mm_nL 62) (mm_RT 62) ∈ mm_AW := mm_aw2 (in_t5 _ (List.mem_of_getElem? (i := 239) rfl)) rfl
set_option maxRecDepth 20000 in
theorem gi_63 : Cond.code (mm_Y 63) (mm_B 63) (mm_nL 63) (mm_RT 63) ∈ mm_AW := mm_aw2 (in_t6 _ (List.mem_of_getElem? (i := 3) rfl)) rfl
set_option maxRecDepth 20000 in
theorem gi_64 : Cond.code (mm_Y 64) (mm_B 64) (mm_nL 64) (mm_RT 64) ∈ mm_AW := mm_aw2 (in_t5 _ (List.mem_of_getElem? (i := 91) rfl)) rfl
set_option maxRecDepth 20000 in
theorem gi_65 : Cond.code (mm_Y 65) (mm_B 65) (mm_nL 65) (mm_RT 65) ∈ mm_AW := mm_aw2 (in_t5 _ (List.mem_of_getElem? (i := 95) rfl)) rfl
set_option maxRecDepth 20000 in
theorem gi_66 : Cond.code (mm_Y 66) (mm_B 66) (mm_nL 66) (mm_RT 66) ∈ mm_AW := mm_aw2 (in_t5 _ (List.mem_of_getElem? (i := 106) rfl)) rfl
set_option maxRecDepth 20000 in
theorem gi_67 : Cond.code (mm_Y 67) (mm_B 67) (mm_nL 67) (mm_RT 67) ∈ mm_AW := mm_aw2 (in_t5 _ (List.mem_of_getElem? (i := 115) rfl)) rfl
set_option maxRecDepth 20000 in
theorem gi_68 : Cond.code (mm_Y 68) (mm_B 68) (mm_nL 68) (mm_RT 68) ∈ mm_AW := mm_aw2 (in_t5 _ (List.mem_of_getElem? (i := 110) rfl)) rfl
set_option maxRecDepth 20000 in
theorem gi_69 : Cond.code (mm_Y 69) (mm_B 69) (mm_nL 69) (mm_RT 69) ∈ mm_AW := mm_aw2 (in_t2 _ (List.mem_of_getElem? (i := 83) rfl)) rfl
set_option maxRecDepth 20000 in
theorem gi_70 : Cond.code (mm_Y 70) (mm_B 70) (mm_nL 70) (mm_RT 70) ∈ mm_AW := mm_aw2 (in_t4 _ (List.mem_of_getElem? (i := 213) rfl)) rfl
set_option maxRecDepth 20000 in
theorem gi_71 : Cond.code (mm_Y 71) (mm_B 71) (mm_nL 71) (mm_RT 71) ∈ mm_AW := mm_aw2 (in_t4 _ (List.mem_of_getElem? (i := 232) rfl)) rfl
set_option maxRecDepth 20000 in
theorem gi_72 : Cond.code (mm_Y 72) (mm_B 72) (mm_nL 72) (mm_RT 72) ∈ mm_AW := mm_aw2 (in_t5 _ (List.mem_of_getElem? (i := 0) rfl)) rfl
set_option maxRecDepth 20000 in
theorem gi_73 : Cond.code (mm_Y 73) (mm_B 73) (mm_nL 73) (mm_RT 73) ∈ mm_AW := mm_aw2 (in_t5 _ (List.mem_of_getElem? (i := 30) rfl)) rfl
set_option maxRecDepth 20000 in
theorem gi_74 : Cond.code (mm_Y 74) (mm_B 74) (mm_nL 74) (mm_RT 74) ∈ mm_AW := mm_aw2 (in_t2 _ (List.mem_of_getElem? (i := 206) rfl)) rfl
set_option maxRecDepth 20000 in
theorem gi_75 : Cond.code (mm_Y 75) (mm_B 75) (mm_nL 75) (mm_RT 75) ∈ mm_AW := mm_aw2 (in_t4 _ (List.mem_of_getElem? (i := 10) rfl)) rfl
set_option maxRecDepth 20000 in
theorem gi_76 : Cond.code (mm_Y 76) (mm_B 76) (mm_nL 76) (mm_RT 76) ∈ mm_AW := mm_aw2 (in_t4 _ (List.mem_of_getElem? (i := 158) rfl)) rfl
set_option maxRecDepth 20000 in
theorem gi_77 : Cond.code (mm_Y 77) (mm_B 77) (mm_nL 77) (mm_RT 77) ∈ mm_AW := mm_aw2 (in_t4 _ (List.mem_of_getElem? (i := 91) rfl)) rfl
set_option maxRecDepth 20000 in
theorem gi_78 : Cond.code (mm_Y 78) (mm_B 78) (mm_nL 78) (mm_RT 78) ∈ mm_AW := mm_aw2 (in_t5 _ (List.mem_of_getElem? (i := 182) rfl)) rfl
set_option maxRecDepth 20000 in
theorem gi_79 : Cond.code (mm_Y 79) (mm_B 79) (mm_nL 79) (mm_RT 79) ∈ mm_AW := mm_aw2 (in_t6 _ (List.mem_of_getElem? (i := 36) rfl)) rfl
set_option maxRecDepth 20000 in
theorem gi_80 : Cond.code (mm_Y 80) (mm_B 80) (mm_nL 80) (mm_RT 80) ∈ mm_AW := mm_aw2 (in_t6 _ (List.mem_of_getElem? (i := 40) rfl)) rfl
set_option maxRecDepth 20000 in
theorem gi_81 : Cond.code (mm_Y 81) (mm_B 81) (mm_nL 81) (mm_RT 81) ∈ mm_AW := mm_aw2 (in_t6 _ (List.mem_of_getElem? (i := 49) rfl)) rfl
set_option maxRecDepth 20000 in
theorem gi_82 : Cond.code (mm_Y 82) (mm_B 82) (mm_nL 82) (mm_RT 82) ∈ mm_AW := mm_aw2 (in_t6 _ (List.mem_of_getElem? (i := 44) rfl)) rfl
set_option maxRecDepth 20000 in
theorem gi_83 : Cond.code (mm_Y 83) (mm_B 83) (mm_nL 83) (mm_RT 83) ∈ mm_AW := mm_aw2 (in_t4 _ (List.mem_of_getElem? (i := 218) rfl)) rfl
set_option maxRecDepth 20000 in
theorem gi_84 : Cond.code (mm_Y 84) (mm_B 84) (mm_nL 84) (mm_RT 84) ∈ mm_AW := mm_aw2 (in_t6 _ (List.mem_of_getElem? (i := 58) rfl)) rfl
set_option maxRecDepth 20000 in
theorem gi_85 : Cond.code (mm_Y 85) (mm_B 85) (mm_nL 85) (mm_RT 85) ∈ mm_AW := mm_aw2 (in_t1 _ (List.mem_of_getElem? (i := 34) rfl)) rfl
set_option maxRecDepth 20000 in
theorem gi_86 : Cond.code (mm_Y 86) (mm_B 86) (mm_nL 86) (mm_RT 86) ∈ mm_AW := mm_aw2 (in_t4 _ (List.mem_of_getElem? (i := 54) rfl)) rfl
set_option maxRecDepth 20000 in
theorem gi_87 : Cond.code (mm_Y 87) (mm_B 87) (mm_nL 87) (mm_RT 87) ∈ mm_AW := mm_aw2 (in_t3 _ (List.mem_of_getElem? (i := 47) rfl)) rfl
set_option maxRecDepth 20000 in
theorem gi_88 : Cond.code (mm_Y 88) (mm_B 88) (mm_nL 88) (mm_RT 88) ∈ mm_AW := mm_aw2 (in_t3 _ (List.mem_of_getElem? (i := 54) rfl)) rfl
set_option maxRecDepth 20000 in
theorem gi_89 : Cond.code (mm_Y 89) (mm_B 89) (mm_nL 89) (mm_RT 89) ∈ mm_AW := mm_aw2 (in_t3 _ (List.mem_of_getElem? (i := 61) rfl)) rfl
set_option maxRecDepth 20000 in
theorem gi_90 : Cond.code (mm_Y 90) (mm_B 90) (mm_nL 90) (mm_RT 90) ∈ mm_AW := mm_aw2 (in_t3 _ (List.mem_of_getElem? (i := 65) rfl)) rfl
set_option maxRecDepth 20000 in
theorem gi_91 : Cond.code (mm_Y 91) (mm_B 91) (mm_nL 91) (mm_RT 91) ∈ mm_AW := mm_aw2 (in_t3 _ (List.mem_of_getElem? (i := 72) rfl)) rfl
set_option maxRecDepth 20000 in
theorem gi_92 : Cond.code (mm_Y 92) (mm_B 92) (mm_nL 92) (mm_RT 92) ∈ mm_AW := mm_aw2 (in_t1 _ (List.mem_of_getElem? (i := 87) rfl)) rfl
set_option maxRecDepth 20000 in
theorem gi_93 : Cond.code (mm_Y 93) (mm_B 93) (mm_nL 93) (mm_RT 93) ∈ mm_AW := mm_aw2 (in_t3 _ (List.mem_of_getElem? (i := 50) rfl)) rfl
set_option maxRecDepth 20000 in
theorem gi_94 : Cond.code (mm_Y 94) (mm_B 94) (mm_nL 94) (mm_RT 94) ∈ mm_AW := mm_aw2 (in_t3 _ (List.mem_of_getElem? (i := 57) rfl)) rfl
set_option maxRecDepth 20000 in
theorem gi_95 : Cond.code (mm_Y 95) (mm_B 95) (mm_nL 95) (mm_RT 95) ∈ mm_AW := mm_aw2 (in_t3 _ (List.mem_of_getElem? (i := 68) rfl)) rfl
set_option maxRecDepth 20000 in
theorem gi_96 : Cond.code (mm_Y 96) (mm_B 96) (mm_nL 96) (mm_RT 96) ∈ mm_AW := mm_aw2 (in_t2 _ (List.mem_of_getElem? (i := 48) rfl)) rfl
set_option maxRecDepth 20000 in
theorem gi_97 : Cond.code (mm_Y 97) (mm_B 97) (mm_nL 97) (mm_RT 97) ∈ mm_AW := mm_aw2 (in_t2 _ (List.mem_of_getElem? (i := 63) rfl)) rfl
set_option maxRecDepth 20000 in
theorem gi_98 : Cond.code (mm_Y 98) (mm_B 98) (mm_nL 98) (mm_RT 98) ∈ mm_AW := mm_aw2 (in_t5 _ (List.mem_of_getElem? (i := 144) rfl)) rfl
set_option maxRecDepth 20000 in
theorem gi_99 : Cond.code (mm_Y 99) (mm_B 99) (mm_nL 99) (mm_RT 99) ∈ mm_AW := mm_aw2 (in_t5 _ (List.mem_of_getElem? (i := 169) rfl)) rfl
set_option maxRecDepth 20000 in
theorem gi_100 : Cond.code (mm_Y 100) (mm_B 100) (mm_nL 100) (mm_RT 100) ∈ mm_AW := mm_aw2 (in_t5 _ (List.mem_of_getElem? (i := 140) rfl)) rfl
set_option maxRecDepth 20000 in
theorem gi_101 : Cond.code (mm_Y 101) (mm_B 101) (mm_nL 101) (mm_RT 101) ∈ mm_AW := mm_aw2 (in_t5 _ (List.mem_of_getElem? (i := 149) rfl)) rfl
set_option maxRecDepth 20000 in
theorem gi_102 : Cond.code (mm_Y 102) (mm_B 102) (mm_nL 102) (mm_RT 102) ∈ mm_AW := mm_aw2 (in_t5 _ (List.mem_of_getElem? (i := 161) rfl)) rfl
set_option maxRecDepth 20000 in
theorem gi_103 : Cond.code (mm_Y 103) (mm_B 103) (mm_nL 103) (mm_RT 103) ∈ mm_AW := mm_aw2 (in_t5 _ (List.mem_of_getElem? (i := 153) rfl)) rfl
set_option maxRecDepth 20000 in
theorem gi_104 : Cond.code (mm_Y 104) (mm_B 104) (mm_nL 104) (mm_RT 104) ∈ mm_AW := mm_aw2 (in_t2 _ (List.mem_of_getElem? (i := 108) rfl)) rfl
set_option maxRecDepth 20000 in
theorem gi_105 : Cond.code (mm_Y 105) (mm_B 105) (mm_nL 105) (mm_RT 105) ∈ mm_AW := mm_aw2 (in_t4 _ (List.mem_of_getElem? (i := 223) rfl)) rfl
set_option maxRecDepth 20000 in
theorem gi_106 : Cond.code (mm_Y 106) (mm_B 106) (mm_nL 106) (mm_RT 106) ∈ mm_AW := mm_aw2 (in_t4 _ (List.mem_of_getElem? (i := 228) rfl)) rfl
set_option maxRecDepth 20000 in
theorem gi_107 : Cond.code (mm_Y 107) (mm_B 107) (mm_nL 107) (mm_RT 107) ∈ mm_AW := mm_aw2 (in_t4 _ (List.mem_of_getElem? (i := 236) rfl)) rfl
set_option maxRecDepth 20000 in
theorem gi_108 : Cond.code (mm_Y 108) (mm_B 108) (mm_nL 108) (mm_RT 108) ∈ mm_AW := mm_aw2 (in_t5 _ (List.mem_of_getElem? (i := 4) rfl)) rfl
set_option maxRecDepth 20000 in
theorem gi_109 : Cond.code (mm_Y 109) (mm_B 109) (mm_nL 109) (mm_RT 109) ∈ mm_AW := mm_aw2 (in_t5 _ (List.mem_of_getElem? (i := 44) rfl)) rfl
set_option maxRecDepth 20000 in
theorem gi_110 : Cond.code (mm_Y 110) (mm_B 110) (mm_nL 110) (mm_RT 110) ∈ mm_AW := mm_aw2 (in_t5 _ (List.mem_of_getElem? (i := 52) rfl)) rfl
set_option maxRecDepth 20000 in
theorem gi_111 : Cond.code (mm_Y 111) (mm_B 111) (mm_nL 111) (mm_RT 111) ∈ mm_AW := mm_aw2 (in_t5 _ (List.mem_of_getElem? (i := 64) rfl)) rfl
set_option maxRecDepth 20000 in
theorem gi_112 : Cond.code (mm_Y 112) (mm_B 112) (mm_nL 112) (mm_RT 112) ∈ mm_AW := mm_aw2 (in_t5 _ (List.mem_of_getElem? (i := 68) rfl)) rfl
set_option maxRecDepth 20000 in
theorem gi_113 : Cond.code (mm_Y 113) (mm_B 113) (mm_nL 113) (mm_RT 113) ∈ mm_AW := mm_aw2 (in_t5 _ (List.mem_of_getElem? (i := 123) rfl)) rfl
set_option maxRecDepth 20000 in
theorem gi_114 : Cond.code (mm_Y 114) (mm_B 114) (mm_nL 114) (mm_RT 114) ∈ mm_AW := mm_aw2 (in_t5 _ (List.mem_of_getElem? (i := 131) rfl)) rfl
set_option maxRecDepth 20000 in
theorem gi_115 : Cond.code (mm_Y 115) (mm_B 115) (mm_nL 115) (mm_RT 115) ∈ mm_AW := mm_aw2 (in_t5 _ (List.mem_of_getElem? (i := 12) rfl)) rfl
set_option maxRecDepth 20000 in
theorem gi_116 : Cond.code (mm_Y 116) (mm_B 116) (mm_nL 116) (mm_RT 116) ∈ mm_AW := mm_aw2 (in_t5 _ (List.mem_of_getElem? (i := 26) rfl)) rfl
set_option maxRecDepth 20000 in
theorem gi_117 : Cond.code (mm_Y 117) (mm_B 117) (mm_nL 117) (mm_RT 117) ∈ mm_AW := mm_aw2 (in_t5 _ (List.mem_of_getElem? (i := 17) rfl)) rfl
set_option maxRecDepth 20000 in
theorem gi_118 : Cond.code (mm_Y 118) (mm_B 118) (mm_nL 118) (mm_RT 118) ∈ mm_AW := mm_aw2 (in_t5 _ (List.mem_of_getElem? (i := 21) rfl)) rfl
set_option maxRecDepth 20000 in
theorem gi_119 : Cond.code (mm_Y 119) (mm_B 119) (mm_nL 119) (mm_RT 119) ∈ mm_AW := mm_aw2 (in_t5 _ (List.mem_of_getElem? (i := 76) rfl)) rfl
set_option maxRecDepth 20000 in
theorem gi_120 : Cond.code (mm_Y 120) (mm_B 120) (mm_nL 120) (mm_RT 120) ∈ mm_AW := mm_aw2 (in_t5 _ (List.mem_of_getElem? (i := 80) rfl)) rfl
set_option maxRecDepth 20000 in
theorem gi_121 : Cond.code (mm_Y 121) (mm_B 121) (mm_nL 121) (mm_RT 121) ∈ mm_AW := mm_aw2 (in_t1 _ (List.mem_of_getElem? (i := 26) rfl)) rfl
set_option maxRecDepth 20000 in
theorem gi_122 : Cond.code (mm_Y 122) (mm_B 122) (mm_nL 122) (mm_RT 122) ∈ mm_AW := mm_aw2 (in_t4 _ (List.mem_of_getElem? (i := 50) rfl)) rfl
set_option maxRecDepth 20000 in
theorem gi_123 : Cond.code (mm_Y 123) (mm_B 123) (mm_nL 123) (mm_RT 123) ∈ mm_AW := mm_aw2 (in_t4 _ (List.mem_of_getElem? (i := 58) rfl)) rfl
set_option maxRecDepth 20000 in
theorem gi_124 : Cond.code (mm_Y 124) (mm_B 124) (mm_nL 124) (mm_RT 124) ∈ mm_AW := mm_aw2 (in_t4 _ (List.mem_of_getElem? (i := 62) rfl)) rfl
set_option maxRecDepth 20000 in
theorem gi_125 : Cond.code (mm_Y 125) (mm_B 125) (mm_nL 125) (mm_RT 125) ∈ mm_AW := mm_aw2 (in_t4 _ (List.mem_of_getElem? (i := 74) rfl)) rfl
set_option maxRecDepth 20000 in
theorem gi_126 : Cond.code (mm_Y 126) (mm_B 126) (mm_nL 126) (mm_RT 126) ∈ mm_AW := mm_aw2 (in_t4 _ (List.mem_of_getElem? (i := 78) rfl)) rfl
set_option maxRecDepth 20000 in
theorem gi_127 : Cond.code (mm_Y 127) (mm_B 127) (mm_nL 127) (mm_RT 127) ∈ mm_AW := mm_aw2 (in_t4 _ (List.mem_of_getElem? (i := 95) rfl)) rfl
set_option maxRecDepth 20000 in
theorem gi_128 : Cond.code (mm_Y 128) (mm_B 128) (mm_nL 128) (mm_RT 128) ∈ mm_AW := mm_aw2 (in_t4 _ (List.mem_of_getElem? (i := 103) rfl)) rfl
set_option maxRecDepth 20000 in
theorem gi_129 : Cond.code (mm_Y 129) (mm_B 129) (mm_nL 129) (mm_RT 129) ∈ mm_AW := mm_aw2 (in_t4 _ (List.mem_of_getElem? (i := 150) rfl)) rfl
set_option maxRecDepth 20000 in
theorem gi_130 : Cond.code (mm_Y 130) (mm_B 130) (mm_nL 130) (mm_RT 130) ∈ mm_AW := mm_aw2 (in_t4 _ (List.mem_of_getElem? (i := 171) rfl)) rfl
set_option maxRecDepth 20000 in
theorem gi_131 : Cond.code (mm_Y 131) (mm_B 131) (mm_nL 131) (mm_RT 131) ∈ mm_AW := mm_aw2 (in_t4 _ (List.mem_of_getElem? (i := 178) rfl)) rfl
set_option maxRecDepth 20000 in
theorem gi_132 : Cond.code (mm_Y 132) (mm_B 132) (mm_nL 132) (mm_RT 132) ∈ mm_AW := mm_aw2 (in_t4 _ (List.mem_of_getElem? (i := 201) rfl)) rfl
set_option maxRecDepth 20000 in
theorem gi_133 : Cond.code (mm_Y 133) (mm_B 133) (mm_nL 133) (mm_RT 133) ∈ mm_AW := mm_aw2 (in_t4 _ (List.mem_of_getElem? (i := 209) rfl)) rfl
set_option maxRecDepth 20000 in
theorem gi_134 : Cond.code (mm_Y 134) (mm_B 134) (mm_nL 134) (mm_RT 134) ∈ mm_AW := mm_aw2 (in_t5 _ (List.mem_of_getElem? (i := 8) rfl)) rfl
set_option maxRecDepth 20000 in
theorem gi_135 : Cond.code (mm_Y 135) (mm_B 135) (mm_nL 135) (mm_RT 135) ∈ mm_AW := mm_aw2 (in_t5 _ (List.mem_of_getElem? (i := 36) rfl)) rfl
set_option maxRecDepth 20000 in
theorem gi_136 : Cond.code (mm_Y 136) (mm_B 136) (mm_nL 136) (mm_RT 136) ∈ mm_AW := mm_aw2 (in_t5 _ (List.mem_of_getElem? (i := 48) rfl)) rfl
set_option maxRecDepth 20000 in
theorem gi_137 : Cond.code (mm_Y 137) (mm_B 137) (mm_nL 137) (mm_RT 137) ∈ mm_AW := mm_aw2 (in_t5 _ (List.mem_of_getElem? (i := 56) rfl)) rfl
set_option maxRecDepth 20000 in
theorem gi_138 : Cond.code (mm_Y 138) (mm_B 138) (mm_nL 138) (mm_RT 138) ∈ mm_AW := mm_aw2 (in_t5 _ (List.mem_of_getElem? (i := 60) rfl)) rfl
set_option maxRecDepth 20000 in
theorem gi_139 : Cond.code (mm_Y 139) (mm_B 139) (mm_nL 139) (mm_RT 139) ∈ mm_AW := mm_aw2 (in_t5 _ (List.mem_of_getElem? (i := 72) rfl)) rfl
set_option maxRecDepth 20000 in
theorem gi_140 : Cond.code (mm_Y 140) (mm_B 140) (mm_nL 140) (mm_RT 140) ∈ mm_AW := mm_aw2 (in_t5 _ (List.mem_of_getElem? (i := 85) rfl)) rfl
set_option maxRecDepth 20000 in
theorem gi_141 : Cond.code (mm_Y 141) (mm_B 141) (mm_nL 141) (mm_RT 141) ∈ mm_AW := mm_aw2 (in_t5 _ (List.mem_of_getElem? (i := 102) rfl)) rfl
set_option maxRecDepth 20000 in
theorem gi_142 : Cond.code (mm_Y 142) (mm_B 142) (mm_nL 142) (mm_RT 142) ∈ mm_AW := mm_aw2 (in_t5 _ (List.mem_of_getElem? (i := 119) rfl)) rfl
set_option maxRecDepth 20000 in
theorem gi_143 : Cond.code (mm_Y 143) (mm_B 143) (mm_nL 143) (mm_RT 143) ∈ mm_AW := mm_aw2 (in_t5 _ (List.mem_of_getElem? (i := 127) rfl)) rfl
set_option maxRecDepth 20000 in
theorem gi_144 : Cond.code (mm_Y 144) (mm_B 144) (mm_nL 144) (mm_RT 144) ∈ mm_AW := mm_aw2 (in_t5 _ (List.mem_of_getElem? (i := 136) rfl)) rfl
set_option maxRecDepth 20000 in
theorem gi_145 : Cond.code (mm_Y 145) (mm_B 145) (mm_nL 145) (mm_RT 145) ∈ mm_AW := mm_aw2 (in_t5 _ (List.mem_of_getElem? (i := 157) rfl)) rfl
set_option maxRecDepth 20000 in
theorem gi_146 : Cond.code (mm_Y 146) (mm_B 146) (mm_nL 146) (mm_RT 146) ∈ mm_AW := mm_aw2 (in_t5 _ (List.mem_of_getElem? (i := 165) rfl)) rfl
set_option maxRecDepth 20000 in
theorem gi_147 : Cond.code (mm_Y 147) (mm_B 147) (mm_nL 147) (mm_RT 147) ∈ mm_AW := mm_aw2 (in_t5 _ (List.mem_of_getElem? (i := 173) rfl)) rfl
set_option maxRecDepth 20000 in
theorem gi_148 : Cond.code (mm_Y 148) (mm_B 148) (mm_nL 148) (mm_RT 148) ∈ mm_AW := mm_aw2 (in_t5 _ (List.mem_of_getElem? (i := 186) rfl)) rfl
set_option maxRecDepth 20000 in
theorem gi_149 : Cond.code (mm_Y 149) (mm_B 149) (mm_nL 149) (mm_RT 149) ∈ mm_AW := mm_aw2 (in_t5 _ (List.mem_of_getElem? (i := 190) rfl)) rfl
set_option maxRecDepth 20000 in
theorem gi_150 : Cond.code (mm_Y 150) (mm_B 150) (mm_nL 150) (mm_RT 150) ∈ mm_AW := mm_aw2 (in_t5 _ (List.mem_of_getElem? (i := 194) rfl)) rfl
set_option maxRecDepth 20000 in
theorem gi_151 : Cond.code (mm_Y 151) (mm_B 151) (mm_nL 151) (mm_RT 151) ∈ mm_AW := mm_aw2 (in_t5 _ (List.mem_of_getElem? (i := 198) rfl)) rfl
set_option maxRecDepth 20000 in
theorem gi_152 : Cond.code (mm_Y 152) (mm_B 152) (mm_nL 152) (mm_RT 152) ∈ mm_AW := mm_aw2 (in_t5 _ (List.mem_of_getElem? (i := 206) rfl)) rfl
set_option maxRecDepth 20000 in
theorem gi_153 : Cond.code (mm_Y 153) (mm_B 153) (mm_nL 153) (mm_RT 153) ∈ mm_AW := mm_aw2 (in_t5 _ (List.mem_of_getElem? (i := 210) rfl)) rfl
set_option maxRecDepth 20000 in
theorem gi_154 : Cond.code (mm_Y 154) (mm_B 154) (mm_nL 154) (mm_RT 154) ∈ mm_AW := mm_aw2 (in_t5 _ (List.mem_of_getElem? (i := 235) rfl)) rfl
set_option maxRecDepth 20000 in
theorem gi_155 : Cond.code (mm_Y 155) (mm_B 155) (mm_nL 155) (mm_RT 155) ∈ mm_AW := mm_aw2 (in_t6 _ (List.mem_of_getElem? (i := 8) rfl)) rfl
set_option maxRecDepth 20000 in
theorem gi_156 : Cond.code (mm_Y 156) (mm_B 156) (mm_nL 156) (mm_RT 156) ∈ mm_AW := mm_aw2 (in_t6 _ (List.mem_of_getElem? (i := 16) rfl)) rfl
set_option maxRecDepth 20000 in
theorem gi_157 : Cond.code (mm_Y 157) (mm_B 157) (mm_nL 157) (mm_RT 157) ∈ mm_AW := mm_aw2 (in_t6 _ (List.mem_of_getElem? (i := 24) rfl)) rfl
set_option maxRecDepth 20000 in
theorem gi_158 : Cond.code (mm_Y 158) (mm_B 158) (mm_nL 158) (mm_RT 158) ∈ mm_AW := mm_aw2 (in_t6 _ (List.mem_of_getElem? (i := 32) rfl)) rfl
set_option maxRecDepth 20000 in
theorem gi_159 : Cond.code (mm_Y 159) (mm_B 159) (mm_nL 159) (mm_RT 159) ∈ mm_AW := mm_aw2 (in_t6 _ (List.mem_of_getElem? (i := 54) rfl)) rfl
set_option maxRecDepth 20000 in
theorem gi_160 : Cond.code (mm_Y 160) (mm_B 160) (mm_nL 160) (mm_RT 160) ∈ mm_AW := mm_aw2 (in_t5 _ (List.mem_of_getElem? (i := 177) rfl)) rfl
set_option maxRecDepth 20000 in
theorem gi_161 : Cond.code (mm_Y 161) (mm_B 161) (mm_nL 161) (mm_RT 161) ∈ mm_AW := mm_aw2 (in_t5 _ (List.mem_of_getElem? (i := 214) rfl)) rfl
set_option maxRecDepth 20000 in
theorem gi_162 : Cond.code (mm_Y 162) (mm_B 162) (mm_nL 162) (mm_RT 162) ∈ mm_AW := mm_aw2 (in_t4 _ (List.mem_of_getElem? (i := 99) rfl)) rfl
set_option maxRecDepth 20000 in
theorem gi_163 : Cond.code (mm_Y 163) (mm_B 163) (mm_nL 163) (mm_RT 163) ∈ mm_AW := mm_aw2 (in_t4 _ (List.mem_of_getElem? (i := 82) rfl)) rfl
set_option maxRecDepth 20000 in
theorem gi_164 : Cond.code (mm_Y 164) (mm_B 164) (mm_nL 164) (mm_RT 164) ∈ mm_AW := mm_aw2 (in_t4 _ (List.mem_of_getElem? (i := 174) rfl)) rfl
set_option maxRecDepth 20000 in
theorem gi_165 : Cond.code (mm_Y 165) (mm_B 165) (mm_nL 165) (mm_RT 165) ∈ mm_AW := mm_aw2 (in_t4 _ (List.mem_of_getElem? (i := 106) rfl)) rfl
set_option maxRecDepth 20000 in
theorem gi_166 : Cond.code (mm_Y 166) (mm_B 166) (mm_nL 166) (mm_RT 166) ∈ mm_AW := mm_aw2 (in_t3 _ (List.mem_of_getElem? (i := 153) rfl)) rfl
set_option maxRecDepth 20000 in
theorem gi_167 : Cond.code (mm_Y 167) (mm_B 167) (mm_nL 167) (mm_RT 167) ∈ mm_AW := mm_aw2 (in_t2 _ (List.mem_of_getElem? (i := 55) rfl)) rfl
set_option maxRecDepth 20000 in
theorem gi_168 : Cond.code (mm_Y 168) (mm_B 168) (mm_nL 168) (mm_RT 168) ∈ mm_AW := mm_aw2 (in_t6 _ (List.mem_of_getElem? (i := 64) rfl)) rfl
set_option maxRecDepth 20000 in
theorem gi_169 : Cond.code (mm_Y 169) (mm_B 169) (mm_nL 169) (mm_RT 169) ∈ mm_AW := mm_aw2 (in_t7 _ (List.mem_of_getElem? (i := 103) rfl)) rfl
set_option maxRecDepth 20000 in
theorem gi_170 : Cond.code (mm_Y 170) (mm_B 170) (mm_nL 170) (mm_RT 170) ∈ mm_AW := mm_aw2 (in_t7 _ (List.mem_of_getElem? (i := 107) rfl)) rfl
set_option maxRecDepth 20000 in
theorem gi_171 : Cond.code (mm_Y 171) (mm_B 171) (mm_nL 171) (mm_RT 171) ∈ mm_AW := mm_aw2 (in_t7 _ (List.mem_of_getElem? (i := 111) rfl)) rfl
set_option maxRecDepth 20000 in
theorem gi_172 : Cond.code (mm_Y 172) (mm_B 172) (mm_nL 172) (mm_RT 172) ∈ mm_AW := mm_aw2 (in_t7 _ (List.mem_of_getElem? (i := 123) rfl)) rfl
set_option maxRecDepth 20000 in
theorem gi_173 : Cond.code (mm_Y 173) (mm_B 173) (mm_nL 173) (mm_RT 173) ∈ mm_AW := mm_aw2 (in_t7 _ (List.mem_of_getElem? (i := 133) rfl)) rfl
set_option maxRecDepth 20000 in
theorem gi_174 : Cond.code (mm_Y 174) (mm_B 174) (mm_nL 174) (mm_RT 174) ∈ mm_AW := mm_aw2 (in_t7 _ (List.mem_of_getElem? (i := 130) rfl)) rfl
set_option maxRecDepth 20000 in
theorem gi_175 : Cond.code (mm_Y 175) (mm_B 175) (mm_nL 175) (mm_RT 175) ∈ mm_AW := mm_aw2 (in_t6 _ (List.mem_of_getElem? (i := 75) rfl)) rfl
set_option maxRecDepth 20000 in
theorem gi_176 : Cond.code (mm_Y 176) (mm_B 176) (mm_nL 176) (mm_RT 176) ∈ mm_AW := mm_aw2 (in_t6 _ (List.mem_of_getElem? (i := 72) rfl)) rfl
set_option maxRecDepth 20000 in
theorem gi_177 : Cond.code (mm_Y 177) (mm_B 177) (mm_nL 177) (mm_RT 177) ∈ mm_AW := mm_aw2 (in_t7 _ (List.mem_of_getElem? (i := 127) rfl)) rfl
set_option maxRecDepth 20000 in
theorem gi_178 : Cond.code (mm_Y 178) (mm_B 178) (mm_nL 178) (mm_RT 178) ∈ mm_AW := mm_aw2 (in_t7 _ (List.mem_of_getElem? (i := 119) rfl)) rfl
set_option maxRecDepth 20000 in
theorem gi_179 : Cond.code (mm_Y 179) (mm_B 179) (mm_nL 179) (mm_RT 179) ∈ mm_AW := mm_aw2 (in_t7 _ (List.mem_of_getElem? (i := 137) rfl)) rfl
set_option maxRecDepth 20000 in
theorem gi_180 : Cond.code (mm_Y 180) (mm_B 180) (mm_nL 180) (mm_RT 180) ∈ mm_AW := mm_aw2 (in_t7 _ (List.mem_of_getElem? (i := 141) rfl)) rfl
set_option maxRecDepth 20000 in
theorem gi_181 : Cond.code (mm_Y 181) (mm_B 181) (mm_nL 181) (mm_RT 181) ∈ mm_AW := mm_aw2 (in_t7 _ (List.mem_of_getElem? (i := 153) rfl)) rfl
set_option maxRecDepth 20000 in
theorem gi_182 : Cond.code (mm_Y 182) (mm_B 182) (mm_nL 182) (mm_RT 182) ∈ mm_AW := mm_aw2 (in_t7 _ (List.mem_of_getElem? (i := 161) rfl)) rfl
set_option maxRecDepth 20000 in
theorem gi_183 : Cond.code (mm_Y 183) (mm_B 183) (mm_nL 183) (mm_RT 183) ∈ mm_AW := mm_aw2 (in_t7 _ (List.mem_of_getElem? (i := 149) rfl)) rfl
set_option maxRecDepth 20000 in
theorem gi_184 : Cond.code (mm_Y 184) (mm_B 184) (mm_nL 184) (mm_RT 184) ∈ mm_AW := mm_aw2 (in_t7 _ (List.mem_of_getElem? (i := 165) rfl)) rfl
set_option maxRecDepth 20000 in
theorem gi_185 : Cond.code (mm_Y 185) (mm_B 185) (mm_nL 185) (mm_RT 185) ∈ mm_AW := mm_aw2 (in_t6 _ (List.mem_of_getElem? (i := 69) rfl)) rfl
set_option maxRecDepth 20000 in
theorem gi_186 : Cond.code (mm_Y 186) (mm_B 186) (mm_nL 186) (mm_RT 186) ∈ mm_AW := mm_aw2 (in_t7 _ (List.mem_of_getElem? (i := 115) rfl)) rfl
set_option maxRecDepth 20000 in
theorem gi_187 : Cond.code (mm_Y 187) (mm_B 187) (mm_nL 187) (mm_RT 187) ∈ mm_AW := mm_aw2 (in_t7 _ (List.mem_of_getElem? (i := 213) rfl)) rfl
set_option maxRecDepth 20000 in
theorem gi_188 : Cond.code (mm_Y 188) (mm_B 188) (mm_nL 188) (mm_RT 188) ∈ mm_AW := mm_aw2 (in_t7 _ (List.mem_of_getElem? (i := 205) rfl)) rfl
set_option maxRecDepth 20000 in
theorem gi_189 : Cond.code (mm_Y 189) (mm_B 189) (mm_nL 189) (mm_RT 189) ∈ mm_AW := mm_aw2 (in_t7 _ (List.mem_of_getElem? (i := 209) rfl)) rfl
set_option maxRecDepth 20000 in
theorem gi_190 : Cond.code (mm_Y 190) (mm_B 190) (mm_nL 190) (mm_RT 190) ∈ mm_AW := mm_aw2 (in_t7 _ (List.mem_of_getElem? (i := 201) rfl)) rfl
set_option maxRecDepth 20000 in
theorem gi_191 : Cond.code (mm_Y 191) (mm_B 191) (mm_nL 191) (mm_RT 191) ∈ mm_AW := mm_aw2 (in_t7 _ (List.mem_of_getElem? (i := 169) rfl)) rfl
set_option maxRecDepth 20000 in
theorem gi_192 : Cond.code (mm_Y 192) (mm_B 192) (mm_nL 192) (mm_RT 192) ∈ mm_AW := mm_aw2 (in_t7 _ (List.mem_of_getElem? (i := 145) rfl)) rfl
set_option maxRecDepth 20000 in
theorem gi_193 : Cond.code (mm_Y 193) (mm_B 193) (mm_nL 193) (mm_RT 193) ∈ mm_AW := mm_aw2 (in_t7 _ (List.mem_of_getElem? (i := 157) rfl)) rfl
set_option maxRecDepth 20000 in
theorem gi_194 : Cond.code (mm_Y 194) (mm_B 194) (mm_nL 194) (mm_RT 194) ∈ mm_AW := mm_aw2 (in_t7 _ (List.mem_of_getElem? (i := 173) rfl)) rfl
set_option maxRecDepth 20000 in
theorem gi_195 : Cond.code (mm_Y 195) (mm_B 195) (mm_nL 195) (mm_RT 195) ∈ mm_AW := mm_aw2 (in_t7 _ (List.mem_of_getElem? (i := 177) rfl)) rfl
set_option maxRecDepth 20000 in
theorem gi_196 : Cond.code (mm_Y 196) (mm_B 196) (mm_nL 196) (mm_RT 196) ∈ mm_AW := mm_aw2 (in_t7 _ (List.mem_of_getElem? (i := 197) rfl)) rfl
set_option maxRecDepth 20000 in
theorem gi_197 : Cond.code (mm_Y 197) (mm_B 197) (mm_nL 197) (mm_RT 197) ∈ mm_AW := mm_aw2 (in_t7 _ (List.mem_of_getElem? (i := 189) rfl)) rfl
set_option maxRecDepth 20000 in
theorem gi_198 : Cond.code (mm_Y 198) (mm_B 198) (mm_nL 198) (mm_RT 198) ∈ mm_AW := mm_aw2 (in_t7 _ (List.mem_of_getElem? (i := 193) rfl)) rfl
set_option maxRecDepth 20000 in
theorem gi_199 : Cond.code (mm_Y 199) (mm_B 199) (mm_nL 199) (mm_RT 199) ∈ mm_AW := mm_aw2 (in_t7 _ (List.mem_of_getElem? (i := 181) rfl)) rfl
set_option maxRecDepth 20000 in
theorem gi_200 : Cond.code (mm_Y 200) (mm_B 200) (mm_nL 200) (mm_RT 200) ∈ mm_AW := mm_aw2 (in_t7 _ (List.mem_of_getElem? (i := 185) rfl)) rfl
set_option maxRecDepth 20000 in
theorem gi_201 : Cond.code (mm_Y 201) (mm_B 201) (mm_nL 201) (mm_RT 201) ∈ mm_AW := mm_aw2 (in_t8 _ (List.mem_of_getElem? (i := 63) rfl)) rfl
set_option maxRecDepth 20000 in
theorem gi_202 : Cond.code (mm_Y 202) (mm_B 202) (mm_nL 202) (mm_RT 202) ∈ mm_AW := mm_aw2 (in_t6 _ (List.mem_of_getElem? (i := 91) rfl)) rfl
set_option maxRecDepth 20000 in
theorem gi_203 : Cond.code (mm_Y 203) (mm_B 203) (mm_nL 203) (mm_RT 203) ∈ mm_AW := mm_aw2 (in_t6 _ (List.mem_of_getElem? (i := 88) rfl)) rfl
set_option maxRecDepth 20000 in
theorem gi_204 : Cond.code (mm_Y 204) (mm_B 204) (mm_nL 204) (mm_RT 204) ∈ mm_AW := mm_aw2 (in_t6 _ (List.mem_of_getElem? (i := 84) rfl)) rfl
set_option maxRecDepth 20000 in
theorem gi_205 : Cond.code (mm_Y 205) (mm_B 205) (mm_nL 205) (mm_RT 205) ∈ mm_AW := mm_aw2 (in_t6 _ (List.mem_of_getElem? (i := 80) rfl)) rfl
set_option maxRecDepth 20000 in
theorem gi_206 : Cond.code (mm_Y 206) (mm_B 206) (mm_nL 206) (mm_RT 206) ∈ mm_AW := mm_aw2 (in_t7 _ (List.mem_of_getElem? (i := 228) rfl)) rfl
set_option maxRecDepth 20000 in
theorem gi_207 : Cond.code (mm_Y 207) (mm_B 207) (mm_nL 207) (mm_RT 207) ∈ mm_AW := mm_aw2 (in_t8 _ (List.mem_of_getElem? (i := 66) rfl)) rfl
set_option maxRecDepth 20000 in
theorem gi_208 : Cond.code (mm_Y 208) (mm_B 208) (mm_nL 208) (mm_RT 208) ∈ mm_AW := mm_aw2 (in_t7 _ (List.mem_of_getElem? (i := 225) rfl)) rfl
set_option maxRecDepth 20000 in
theorem gi_209 : Cond.code (mm_Y 209) (mm_B 209) (mm_nL 209) (mm_RT 209) ∈ mm_AW := mm_aw2 (in_t7 _ (List.mem_of_getElem? (i := 221) rfl)) rfl
set_option maxRecDepth 20000 in
theorem gi_210 : Cond.code (mm_Y 210) (mm_B 210) (mm_nL 210) (mm_RT 210) ∈ mm_AW := mm_aw2 (in_t8 _ (List.mem_of_getElem? (i := 8) rfl)) rfl
set_option maxRecDepth 20000 in
theorem gi_211 : Cond.code (mm_Y 211) (mm_B 211) (mm_nL 211) (mm_RT 211) ∈ mm_AW := mm_aw2 (in_t8 _ (List.mem_of_getElem? (i := 97) rfl)) rfl
set_option maxRecDepth 20000 in
theorem gi_212 : Cond.code (mm_Y 212) (mm_B 212) (mm_nL 212) (mm_RT 212) ∈ mm_AW := mm_aw2 (in_t8 _ (List.mem_of_getElem? (i := 15) rfl)) rfl
set_option maxRecDepth 20000 in
theorem gi_213 : Cond.code (mm_Y 213) (mm_B 213) (mm_nL 213) (mm_RT 213) ∈ mm_AW := mm_aw2 (in_t7 _ (List.mem_of_getElem? (i := 236) rfl)) rfl
set_option maxRecDepth 20000 in
theorem gi_214 : Cond.code (mm_Y 214) (mm_B 214) (mm_nL 214) (mm_RT 214) ∈ mm_AW := mm_aw2 (in_t6 _ (List.mem_of_getElem? (i := 95) rfl)) rfl
set_option maxRecDepth 20000 in
theorem gi_215 : Cond.code (mm_Y 215) (mm_B 215) (mm_nL 215) (mm_RT 215) ∈ mm_AW := mm_aw2 (in_t6 _ (List.mem_of_getElem? (i := 99) rfl)) rfl
set_option maxRecDepth 20000 in
theorem gi_216 : Cond.code (mm_Y 216) (mm_B 216) (mm_nL 216) (mm_RT 216) ∈ mm_AW := mm_aw2 (in_t7 _ (List.mem_of_getElem? (i := 232) rfl)) rfl
set_option maxRecDepth 20000 in
theorem gi_217 : Cond.code (mm_Y 217) (mm_B 217) (mm_nL 217) (mm_RT 217) ∈ mm_AW := mm_aw2 (in_t8 _ (List.mem_of_getElem? (i := 119) rfl)) rfl
set_option maxRecDepth 20000 in
theorem gi_218 : Cond.code (mm_Y 218) (mm_B 218) (mm_nL 218) (mm_RT 218) ∈ mm_AW := mm_aw2 (in_t8 _ (List.mem_of_getElem? (i := 116) rfl)) rfl
set_option maxRecDepth 20000 in
theorem gi_219 : Cond.code (mm_Y 219) (mm_B 219) (mm_nL 219) (mm_RT 219) ∈ mm_AW := mm_aw2 (in_t8 _ (List.mem_of_getElem? (i := 31) rfl)) rfl
set_option maxRecDepth 20000 in
theorem gi_220 : Cond.code (mm_Y 220) (mm_B 220) (mm_nL 220) (mm_RT 220) ∈ mm_AW := mm_aw2 (in_t8 _ (List.mem_of_getElem? (i := 35) rfl)) rfl
set_option maxRecDepth 20000 in
theorem gi_221 : Cond.code (mm_Y 221) (mm_B 221) (mm_nL 221) (mm_RT 221) ∈ mm_AW := mm_aw2 (in_t8 _ (List.mem_of_getElem? (i := 27) rfl)) rfl
set_option maxRecDepth 20000 in
theorem gi_222 : Cond.code (mm_Y 222) (mm_B 222) (mm_nL 222) (mm_RT 222) ∈ mm_AW := mm_aw2 (in_t8 _ (List.mem_of_getElem? (i := 39) rfl)) rfl
set_option maxRecDepth 20000 in
theorem gi_223 : Cond.code (mm_Y 223) (mm_B 223) (mm_nL 223) (mm_RT 223) ∈ mm_AW := mm_aw2 (in_t8 _ (List.mem_of_getElem? (i := 23) rfl)) rfl
set_option maxRecDepth 20000 in
theorem gi_224 : Cond.code (mm_Y 224) (mm_B 224) (mm_nL 224) (mm_RT 224) ∈ mm_AW := mm_aw2 (in_t8 _ (List.mem_of_getElem? (i := 19) rfl)) rfl
set_option maxRecDepth 20000 in
theorem gi_225 : Cond.code (mm_Y 225) (mm_B 225) (mm_nL 225) (mm_RT 225) ∈ mm_AW := mm_aw2 (in_t8 _ (List.mem_of_getElem? (i := 59) rfl)) rfl
set_option maxRecDepth 20000 in
theorem gi_226 : Cond.code (mm_Y 226) (mm_B 226) (mm_nL 226) (mm_RT 226) ∈ mm_AW := mm_aw2 (in_t8 _ (List.mem_of_getElem? (i := 51) rfl)) rfl
set_option maxRecDepth 20000 in
theorem gi_227 : Cond.code (mm_Y 227) (mm_B 227) (mm_nL 227) (mm_RT 227) ∈ mm_AW := mm_aw2 (in_t8 _ (List.mem_of_getElem? (i := 55) rfl)) rfl
set_option maxRecDepth 20000 in
theorem gi_228 : Cond.code (mm_Y 228) (mm_B 228) (mm_nL 228) (mm_RT 228) ∈ mm_AW := mm_aw2 (in_t8 _ (List.mem_of_getElem? (i := 47) rfl)) rfl
set_option maxRecDepth 20000 in
theorem gi_229 : Cond.code (mm_Y 229) (mm_B 229) (mm_nL 229) (mm_RT 229) ∈ mm_AW := mm_aw2 (in_t8 _ (List.mem_of_getElem? (i := 43) rfl)) rfl
set_option maxRecDepth 20000 in
theorem gi_230 : Cond.code (mm_Y 230) (mm_B 230) (mm_nL 230) (mm_RT 230) ∈ mm_AW := mm_aw2 (in_t8 _ (List.mem_of_getElem? (i := 70) rfl)) rfl
set_option maxRecDepth 20000 in
theorem gi_231 : Cond.code (mm_Y 231) (mm_B 231) (mm_nL 231) (mm_RT 231) ∈ mm_AW := mm_aw2 (in_t8 _ (List.mem_of_getElem? (i := 74) rfl)) rfl
set_option maxRecDepth 20000 in
theorem gi_232 : Cond.code (mm_Y 232) (mm_B 232) (mm_nL 232) (mm_RT 232) ∈ mm_AW := mm_aw2 (in_t8 _ (List.mem_of_getElem? (i := 78) rfl)) rfl
set_option maxRecDepth 20000 in
theorem gi_233 : Cond.code (mm_Y 233) (mm_B 233) (mm_nL 233) (mm_RT 233) ∈ mm_AW := mm_aw2 (in_t8 _ (List.mem_of_getElem? (i := 86) rfl)) rfl
set_option maxRecDepth 20000 in
theorem gi_234 : Cond.code (mm_Y 234) (mm_B 234) (mm_nL 234) (mm_RT 234) ∈ mm_AW := mm_aw2 (in_t8 _ (List.mem_of_getElem? (i := 112) rfl)) rfl
set_option maxRecDepth 20000 in
theorem gi_235 : Cond.code (mm_Y 235) (mm_B 235) (mm_nL 235) (mm_RT 235) ∈ mm_AW := mm_aw2 (in_t8 _ (List.mem_of_getElem? (i := 108) rfl)) rfl
set_option maxRecDepth 20000 in
theorem gi_236 : Cond.code (mm_Y 236) (mm_B 236) (mm_nL 236) (mm_RT 236) ∈ mm_AW := mm_aw2 (in_t7 _ (List.mem_of_getElem? (i := 217) rfl)) rfl
set_option maxRecDepth 20000 in
theorem gi_237 : Cond.code (mm_Y 237) (mm_B 237) (mm_nL 237) (mm_RT 237) ∈ mm_AW := mm_aw2 (in_t8 _ (List.mem_of_getElem? (i := 0) rfl)) rfl
set_option maxRecDepth 20000 in
theorem gi_238 : Cond.code (mm_Y 238) (mm_B 238) (mm_nL 238) (mm_RT 238) ∈ mm_AW := mm_aw2 (in_t8 _ (List.mem_of_getElem? (i := 4) rfl)) rfl
set_option maxRecDepth 20000 in
theorem gi_239 : Cond.code (mm_Y 239) (mm_B 239) (mm_nL 239) (mm_RT 239) ∈ mm_AW := mm_aw2 (in_t8 _ (List.mem_of_getElem? (i := 12) rfl)) rfl
set_option maxRecDepth 20000 in
theorem gi_240 : Cond.code (mm_Y 240) (mm_B 240) (mm_nL 240) (mm_RT 240) ∈ mm_AW := mm_aw2 (in_t8 _ (List.mem_of_getElem? (i := 90) rfl)) rfl
set_option maxRecDepth 20000 in
theorem gi_241 : Cond.code (mm_Y 241) (mm_B 241) (mm_nL 241) (mm_RT 241) ∈ mm_AW := mm_aw2 (in_t8 _ (List.mem_of_getElem? (i := 82) rfl)) rfl
set_option maxRecDepth 20000 in
theorem gi_242 : Cond.code (mm_Y 242) (mm_B 242) (mm_nL 242) (mm_RT 242) ∈ mm_AW := mm_aw2 (in_t8 _ (List.mem_of_getElem? (i := 94) rfl)) rfl
set_option maxRecDepth 20000 in
theorem gi_243 : Cond.code (mm_Y 243) (mm_B 243) (mm_nL 243) (mm_RT 243) ∈ mm_AW := mm_aw2 (in_t8 _ (List.mem_of_getElem? (i := 104) rfl)) rfl
set_option maxRecDepth 20000 in
theorem gi_244 : Cond.code (mm_Y 244) (mm_B 244) (mm_nL 244) (mm_RT 244) ∈ mm_AW := mm_aw2 (in_t8 _ (List.mem_of_getElem? (i := 101) rfl)) rfl
set_option maxRecDepth 20000 in
theorem gi_245 : Cond.code (mm_Y 245) (mm_B 245) (mm_nL 245) (mm_RT 245) ∈ mm_AW := mm_aw2 (in_t8 _ (List.mem_of_getElem? (i := 125) rfl)) rfl
set_option maxRecDepth 20000 in
theorem gi_246 : Cond.code (mm_Y 246) (mm_B 246) (mm_nL 246) (mm_RT 246) ∈ mm_AW := mm_aw2 (in_t8 _ (List.mem_of_getElem? (i := 137) rfl)) rfl
set_option maxRecDepth 20000 in
theorem gi_247 : Cond.code (mm_Y 247) (mm_B 247) (mm_nL 247) (mm_RT 247) ∈ mm_AW := mm_aw2 (in_t8 _ (List.mem_of_getElem? (i := 157) rfl)) rfl
set_option maxRecDepth 20000 in
theorem gi_248 : Cond.code (mm_Y 248) (mm_B 248) (mm_nL 248) (mm_RT 248) ∈ mm_AW := mm_aw2 (in_t8 _ (List.mem_of_getElem? (i := 141) rfl)) rfl
set_option maxRecDepth 20000 in
theorem gi_249 : Cond.code (mm_Y 249) (mm_B 249) (mm_nL 249) (mm_RT 249) ∈ mm_AW := mm_aw2 (in_t8 _ (List.mem_of_getElem? (i := 133) rfl)) rfl
set_option maxRecDepth 20000 in
theorem gi_250 : Cond.code (mm_Y 250) (mm_B 250) (mm_nL 250) (mm_RT 250) ∈ mm_AW := mm_aw2 (in_t8 _ (List.mem_of_getElem? (i := 129) rfl)) rfl
set_option maxRecDepth 20000 in
theorem gi_251 : Cond.code (mm_Y 251) (mm_B 251) (mm_nL 251) (mm_RT 251) ∈ mm_AW := mm_aw2 (in_t8 _ (List.mem_of_getElem? (i := 145) rfl)) rfl
set_option maxRecDepth 20000 in
theorem gi_252 : Cond.code (mm_Y 252) (mm_B 252) (mm_nL 252) (mm_RT 252) ∈ mm_AW := mm_aw2 (in_t8 _ (List.mem_of_getElem? (i := 149) rfl)) rfl
set_option maxRecDepth 20000 in
theorem gi_253 : Cond.code (mm_Y 253) (mm_B 253) (mm_nL 253) (mm_RT 253) ∈ mm_AW := mm_aw2 (in_t8 _ (List.mem_of_getElem? (i := 153) rfl)) rfl
set_option maxRecDepth 20000 in
theorem gi_254 : Cond.code (mm_Y 254) (mm_B 254) (mm_nL 254) (mm_RT 254) ∈ mm_AW := mm_aw2 (in_t8 _ (List.mem_of_getElem? (i := 161) rfl)) rfl
set_option maxRecDepth 20000 in
theorem gi_255 : Cond.code (mm_Y 255) (mm_B 255) (mm_nL 255) (mm_RT 255) ∈ mm_AW := mm_aw2 (in_t8 _ (List.mem_of_getElem? (i := 173) rfl)) rfl
set_option maxRecDepth 20000 in
theorem gi_256 : Cond.code (mm_Y 256) (mm_B 256) (mm_nL 256) (mm_RT 256) ∈ mm_AW := mm_aw2 (in_t8 _ (List.mem_of_getElem? (i := 169) rfl)) rfl
set_option maxRecDepth 20000 in
theorem gi_257 : Cond.code (mm_Y 257) (mm_B 257) (mm_nL 257) (mm_RT 257) ∈ mm_AW := mm_aw2 (in_t8 _ (List.mem_of_getElem? (i := 165) rfl)) rfl
set_option maxRecDepth 20000 in
theorem gi_258 : Cond.code (mm_Y 258) (mm_B 258) (mm_nL 258) (mm_RT 258) ∈ mm_AW := mm_aw2 (in_t8 _ (List.mem_of_getElem? (i := 189) rfl)) rfl
set_option maxRecDepth 20000 in
theorem gi_259 : Cond.code (mm_Y 259) (mm_B 259) (mm_nL 259) (mm_RT 259) ∈ mm_AW := mm_aw2 (in_t8 _ (List.mem_of_getElem? (i := 185) rfl)) rfl
set_option maxRecDepth 20000 in
theorem gi_260 : Cond.code (mm_Y 260) (mm_B 260) (mm_nL 260) (mm_RT 260) ∈ mm_AW := mm_aw2 (in_t8 _ (List.mem_of_getElem? (i := 181) rfl)) rfl
set_option maxRecDepth 20000 in
theorem gi_261 : Cond.code (mm_Y 261) (mm_B 261) (mm_nL 261) (mm_RT 261) ∈ mm_AW := mm_aw2 (in_t8 _ (List.mem_of_getElem? (i := 177) rfl)) rfl
set_option maxRecDepth 20000 in
theorem gi_262 : Cond.code (mm_Y 262) (mm_B 262) (mm_nL 262) (mm_RT 262) ∈ mm_AW := mm_aw2 (in_t8 _ (List.mem_of_getElem? (i := 193) rfl)) rfl
set_option maxRecDepth 20000 in
theorem gi_263 : Cond.code (mm_Y 263) (mm_B 263) (mm_nL 263) (mm_RT 263) ∈ mm_AW := mm_aw2 (in_t8 _ (List.mem_of_getElem? (i := 201) rfl)) rfl
set_option maxRecDepth 20000 in
theorem gi_264 : Cond.code (mm_Y 264) (mm_B 264) (mm_nL 264) (mm_RT 264) ∈ mm_AW := mm_aw2 (in_t8 _ (List.mem_of_getElem? (i := 197) rfl)) rfl
set_option maxRecDepth 20000 in
theorem gi_265 : Cond.code (mm_Y 265) (mm_B 265) (mm_nL 265) (mm_RT 265) ∈ mm_AW := mm_aw2 (in_t8 _ (List.mem_of_getElem? (i := 205) rfl)) rfl
set_option maxRecDepth 20000 in
theorem gi_266 : Cond.code (mm_Y 266) (mm_B 266) (mm_nL 266) (mm_RT 266) ∈ mm_AW := mm_aw2 (in_t8 _ (List.mem_of_getElem? (i := 213) rfl)) rfl
set_option maxRecDepth 20000 in
theorem gi_267 : Cond.code (mm_Y 267) (mm_B 267) (mm_nL 267) (mm_RT 267) ∈ mm_AW := mm_aw2 (in_t8 _ (List.mem_of_getElem? (i := 209) rfl)) rfl
set_option maxRecDepth 20000 in
theorem gi_268 : Cond.code (mm_Y 268) (mm_B 268) (mm_nL 268) (mm_RT 268) ∈ mm_AW := mm_aw2 (in_t8 _ (List.mem_of_getElem? (i := 225) rfl)) rfl
set_option maxRecDepth 20000 in
theorem gi_269 : Cond.code (mm_Y 269) (mm_B 269) (mm_nL 269) (mm_RT 269) ∈ mm_AW := mm_aw2 (in_t8 _ (List.mem_of_getElem? (i := 221) rfl)) rfl
set_option maxRecDepth 20000 in
theorem gi_270 : Cond.code (mm_Y 270) (mm_B 270) (mm_nL 270) (mm_RT 270) ∈ mm_AW := mm_aw2 (in_t8 _ (List.mem_of_getElem? (i := 217) rfl)) rfl
set_option maxRecDepth 20000 in
theorem gi_271 : Cond.code (mm_Y 271) (mm_B 271) (mm_nL 271) (mm_RT 271) ∈ mm_AW := mm_aw2 (in_t8 _ (List.mem_of_getElem? (i := 229) rfl)) rfl
set_option maxRecDepth 20000 in
theorem gi_272 : Cond.code (mm_Y 272) (mm_B 272) (mm_nL 272) (mm_RT 272) ∈ mm_AW := mm_aw2 (in_t8 _ (List.mem_of_getElem? (i := 233) rfl)) rfl
set_option maxRecDepth 20000 in
theorem gi_273 : Cond.code (mm_Y 273) (mm_B 273) (mm_nL 273) (mm_RT 273) ∈ mm_AW := mm_aw2 (in_t8 _ (List.mem_of_getElem? (i := 237) rfl)) rfl
set_option maxRecDepth 20000 in
theorem gi_274 : Cond.code (mm_Y 274) (mm_B 274) (mm_nL 274) (mm_RT 274) ∈ mm_AW := mm_aw2 (in_t9 _ (List.mem_of_getElem? (i := 1) rfl)) rfl
set_option maxRecDepth 20000 in
theorem gi_275 : Cond.code (mm_Y 275) (mm_B 275) (mm_nL 275) (mm_RT 275) ∈ mm_AW := mm_aw2 (in_t9 _ (List.mem_of_getElem? (i := 5) rfl)) rfl
set_option maxRecDepth 20000 in
theorem gi_276 : Cond.code (mm_Y 276) (mm_B 276) (mm_nL 276) (mm_RT 276) ∈ mm_AW := mm_aw2 (in_t9 _ (List.mem_of_getElem? (i := 9) rfl)) rfl
set_option maxRecDepth 20000 in
theorem gi_277 : Cond.code (mm_Y 277) (mm_B 277) (mm_nL 277) (mm_RT 277) ∈ mm_AW := mm_aw2 (in_t9 _ (List.mem_of_getElem? (i := 13) rfl)) rfl
set_option maxRecDepth 20000 in
theorem gi_278 : Cond.code (mm_Y 278) (mm_B 278) (mm_nL 278) (mm_RT 278) ∈ mm_AW := mm_aw2 (in_t9 _ (List.mem_of_getElem? (i := 17) rfl)) rfl
set_option maxRecDepth 20000 in
theorem gi_279 : Cond.code (mm_Y 279) (mm_B 279) (mm_nL 279) (mm_RT 279) ∈ mm_AW := mm_aw2 (in_t9 _ (List.mem_of_getElem? (i := 28) rfl)) rfl
set_option maxRecDepth 20000 in
theorem gi_280 : Cond.code (mm_Y 280) (mm_B 280) (mm_nL 280) (mm_RT 280) ∈ mm_AW := mm_aw2 (in_t9 _ (List.mem_of_getElem? (i := 32) rfl)) rfl
set_option maxRecDepth 20000 in
theorem gi_281 : Cond.code (mm_Y 281) (mm_B 281) (mm_nL 281) (mm_RT 281) ∈ mm_AW := mm_aw2 (in_t9 _ (List.mem_of_getElem? (i := 25) rfl)) rfl
set_option maxRecDepth 20000 in
theorem gi_282 : Cond.code (mm_Y 282) (mm_B 282) (mm_nL 282) (mm_RT 282) ∈ mm_AW := mm_aw2 (in_t9 _ (List.mem_of_getElem? (i := 21) rfl)) rfl
set_option maxRecDepth 20000 in
theorem gi_283 : Cond.code (mm_Y 283) (mm_B 283) (mm_nL 283) (mm_RT 283) ∈ mm_AW := mm_aw2 (in_t9 _ (List.mem_of_getElem? (i := 36) rfl)) rfl
set_option maxRecDepth 20000 in
theorem gi_284 : Cond.code (mm_Y 284) (mm_B 284) (mm_nL 284) (mm_RT 284) ∈ mm_AW := mm_aw2 (in_t9 _ (List.mem_of_getElem? (i := 40) rfl)) rfl
set_option maxRecDepth 20000 in
theorem gi_285 : Cond.code (mm_Y 285) (mm_B 285) (mm_nL 285) (mm_RT 285) ∈ mm_AW := mm_aw2 (in_t9 _ (List.mem_of_getElem? (i := 44) rfl)) rfl
set_option maxRecDepth 20000 in
theorem gi_286 : Cond.code (mm_Y 286) (mm_B 286) (mm_nL 286) (mm_RT 286) ∈ mm_AW := mm_aw2 (in_t9 _ (List.mem_of_getElem? (i := 52) rfl)) rfl
set_option maxRecDepth 20000 in
theorem gi_287 : Cond.code (mm_Y 287) (mm_B 287) (mm_nL 287) (mm_RT 287) ∈ mm_AW := mm_aw2 (in_t9 _ (List.mem_of_getElem? (i := 48) rfl)) rfl
set_option maxRecDepth 20000 in
theorem gi_288 : Cond.code (mm_Y 288) (mm_B 288) (mm_nL 288) (mm_RT 288) ∈ mm_AW := mm_aw2 (in_t1 _ (List.mem_of_getElem? (i := 40) rfl)) rfl
set_option maxRecDepth 20000 in
theorem gi_289 : Cond.code (mm_Y 289) (mm_B 289) (mm_nL 289) (mm_RT 289) ∈ mm_AW := mm_aw2 (in_t1 _ (List.mem_of_getElem? (i := 50) rfl)) rfl
set_option maxRecDepth 20000 in
theorem gi_290 : Cond.code (mm_Y 290) (mm_B 290) (mm_nL 290) (mm_RT 290) ∈ mm_AW := mm_aw2 (in_t3 _ (List.mem_of_getElem? (i := 79) rfl)) rfl
set_option maxRecDepth 20000 in
theorem gi_291 : Cond.code (mm_Y 291) (mm_B 291) (mm_nL 291) (mm_RT 291) ∈ mm_AW := mm_aw2 (in_t3 _ (List.mem_of_getElem? (i := 83) rfl)) rfl
set_option maxRecDepth 20000 in
theorem gi_292 : Cond.code (mm_Y 292) (mm_B 292) (mm_nL 292) (mm_RT 292) ∈ mm_AW := mm_aw2 (in_t1 _ (List.mem_of_getElem? (i := 44) rfl)) rfl
set_option maxRecDepth 20000 in
theorem gi_293 : Cond.code (mm_Y 293) (mm_B 293) (mm_nL 293) (mm_RT 293) ∈ mm_AW := mm_aw2 (in_t1 _ (List.mem_of_getElem? (i := 54) rfl)) rfl
set_option maxRecDepth 20000 in
theorem gi_294 : Cond.code (mm_Y 294) (mm_B 294) (mm_nL 294) (mm_RT 294) ∈ mm_AW := mm_aw2 (in_t1 _ (List.mem_of_getElem? (i := 60) rfl)) rfl
set_option maxRecDepth 20000 in
theorem gi_295 : Cond.code (mm_Y 295) (mm_B 295) (mm_nL 295) (mm_RT 295) ∈ mm_AW := mm_aw2 (in_t1 _ (List.mem_of_getElem? (i := 57) rfl)) rfl
set_option maxRecDepth 20000 in
theorem gi_296 : Cond.code (mm_Y 296) (mm_B 296) (mm_nL 296) (mm_RT 296) ∈ mm_AW := mm_aw2 (in_t3 _ (List.mem_of_getElem? (i := 90) rfl)) rfl
set_option maxRecDepth 20000 in
theorem gi_297 : Cond.code (mm_Y 297) (mm_B 297) (mm_nL 297) (mm_RT 297) ∈ mm_AW := mm_aw2 (in_t3 _ (List.mem_of_getElem? (i := 87) rfl)) rfl
set_option maxRecDepth 20000 in
theorem gi_298 : Cond.code (mm_Y 298) (mm_B 298) (mm_nL 298) (mm_RT 298) ∈ mm_AW := mm_aw2 (in_t3 _ (List.mem_of_getElem? (i := 99) rfl)) rfl
set_option maxRecDepth 20000 in
theorem gi_299 : Cond.code (mm_Y 299) (mm_B 299) (mm_nL 299) (mm_RT 299) ∈ mm_AW := mm_aw2 (in_t3 _ (List.mem_of_getElem? (i := 226) rfl)) rfl
set_option maxRecDepth 20000 in
theorem gi_300 : Cond.code (mm_Y 300) (mm_B 300) (mm_nL 300) (mm_RT 300) ∈ mm_AW := mm_aw2 (in_t1 _ (List.mem_of_getElem? (i := 65) rfl)) rfl
