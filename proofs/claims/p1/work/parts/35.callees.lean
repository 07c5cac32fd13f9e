theorem hd_0 : (mm_Y 0).cls ≠ "java/lang/invoke/MethodHandle" ∧ (mm_Y 0).cls ≠ "java/lang/invoke/VarHandle" ∧ (parseMethodDescriptor (mm_Y 0).desc).map (fun d => d.parameters.length) = some 1 := by decide +kernel
theorem gi_0 : Cond.code (mm_Y 0) (mm_B 0) (mm_nL 0) (mm_RT 0) ∈ mm_AW := mm_aw (i := 394) (by decide +kernel) rfl
theorem hd_1 : (mm_Y 1).cls ≠ "java/lang/invoke/MethodHandle" ∧ (mm_Y 1).cls ≠ "java/lang/invoke/VarHandle" ∧ (parseMethodDescriptor (mm_Y 1).desc).map (fun d => d.parameters.length) = some 3 := by decide +kernel
theorem gi_1 : Cond.code (mm_Y 1) (mm_B 1) (mm_nL 1) (mm_RT 1) ∈ mm_AW := mm_aw (i := 962) (by decide +kernel) rfl
theorem hd_2 : (mm_Y 2).cls ≠ "java/lang/invoke/MethodHandle" ∧ (mm_Y 2).cls ≠ "java/lang/invoke/VarHandle" ∧ (parseMethodDescriptor (mm_Y 2).desc).map (fun d => d.parameters.length) = some 3 := by decide +kernel
theorem gi_2 : Cond.code (mm_Y 2) (mm_B 2) (mm_nL 2) (mm_RT 2) ∈ mm_AW := mm_aw (i := 946) (by decide +kernel) rfl
theorem hd_3 : (mm_Y 3).cls ≠ "java/lang/invoke/MethodHandle" ∧ (mm_Y 3).cls ≠ "java/lang/invoke/VarHandle" ∧ (parseMethodDescriptor (mm_Y 3).desc).map (fun d => d.parameters.length) = some 6 := by decide +kernel
theorem gi_3 : Cond.code (mm_Y 3) (mm_B 3) (mm_nL 3) (mm_RT 3) ∈ mm_AW := mm_aw (i := 952) (by decide +kernel) rfl
theorem hd_4 : (mm_Y 4).cls ≠ "java/lang/invoke/MethodHandle" ∧ (mm_Y 4).cls ≠ "java/lang/invoke/VarHandle" ∧ (parseMethodDescriptor (mm_Y 4).desc).map (fun d => d.parameters.length) = some 0 := by decide +kernel
theorem gi_4 : Cond.code (mm_Y 4) (mm_B 4) (mm_nL 4) (mm_RT 4) ∈ mm_AW := mm_aw (i := 968) (by decide +kernel) rfl
theorem hd_5 : (mm_Y 5).cls ≠ "java/lang/invoke/MethodHandle" ∧ (mm_Y 5).cls ≠ "java/lang/invoke/VarHandle" ∧ (parseMethodDescriptor (mm_Y 5).desc).map (fun d => d.parameters.length) = some 0 := by decide +kernel
theorem gi_5 : Cond.code (mm_Y 5) (mm_B 5) (mm_nL 5) (mm_RT 5) ∈ mm_AW := mm_aw (i := 982) (by decide +kernel) rfl
theorem hd_6 : (mm_Y 6).cls ≠ "java/lang/invoke/MethodHandle" ∧ (mm_Y 6).cls ≠ "java/lang/invoke/VarHandle" ∧ (parseMethodDescriptor (mm_Y 6).desc).map (fun d => d.parameters.length) = some 1 := by decide +kernel
theorem gi_6 : Cond.code (mm_Y 6) (mm_B 6) (mm_nL 6) (mm_RT 6) ∈ mm_AW := mm_aw (i := 978) (by decide +kernel) rfl
theorem hd_7 : (mm_Y 7).cls ≠ "java/lang/invoke/MethodHandle" ∧ (mm_Y 7).cls ≠ "java/lang/invoke/VarHandle" ∧ (parseMethodDescriptor (mm_Y 7).desc).map (fun d => d.parameters.length) = some 3 := by decide +kernel
theorem gi_7 : Cond.code (mm_Y 7) (mm_B 7) (mm_nL 7) (mm_RT 7) ∈ mm_AW := mm_aw (i := 999) (by decide +kernel) rfl
theorem hd_8 : (mm_Y 8).cls ≠ "java/lang/invoke/MethodHandle" ∧ (mm_Y 8).cls ≠ "java/lang/invoke/VarHandle" ∧ (parseMethodDescriptor (mm_Y 8).desc).map (fun d => d.parameters.length) = some 3 := by decide +kernel
theorem gi_8 : Cond.code (mm_Y 8) (mm_B 8) (mm_nL 8) (mm_RT 8) ∈ mm_AW := mm_aw (i := 1018) (by decide +kernel) rfl
theorem hd_9 : (mm_Y 9).cls ≠ "java/lang/invoke/MethodHandle" ∧ (mm_Y 9).cls ≠ "java/lang/invoke/VarHandle" ∧ (parseMethodDescriptor (mm_Y 9).desc).map (fun d => d.parameters.length) = some 3 := by decide +kernel
theorem gi_9 : Cond.code (mm_Y 9) (mm_B 9) (mm_nL 9) (mm_RT 9) ∈ mm_AW := mm_aw (i := 1022) (by decide +kernel) rfl
theorem hd_10 : (mm_Y 10).cls ≠ "java/lang/invoke/MethodHandle" ∧ (mm_Y 10).cls ≠ "java/lang/invoke/VarHandle" ∧ (parseMethodDescriptor (mm_Y 10).desc).map (fun d => d.parameters.length) = some 3 := by decide +kernel
theorem gi_10 : Cond.code (mm_Y 10) (mm_B 10) (mm_nL 10) (mm_RT 10) ∈ mm_AW := mm_aw (i := 1025) (by decide +kernel) rfl
theorem hd_11 : (mm_Y 11).cls ≠ "java/lang/invoke/MethodHandle" ∧ (mm_Y 11).cls ≠ "java/lang/invoke/VarHandle" ∧ (parseMethodDescriptor (mm_Y 11).desc).map (fun d => d.parameters.length) = some 2 := by decide +kernel
theorem gi_11 : Cond.code (mm_Y 11) (mm_B 11) (mm_nL 11) (mm_RT 11) ∈ mm_AW := mm_aw (i := 1028) (by decide +kernel) rfl
theorem hd_12 : (mm_Y 12).cls ≠ "java/lang/invoke/MethodHandle" ∧ (mm_Y 12).cls ≠ "java/lang/invoke/VarHandle" ∧ (parseMethodDescriptor (mm_Y 12).desc).map (fun d => d.parameters.length) = some 0 := by decide +kernel
theorem gi_12 : Cond.code (mm_Y 12) (mm_B 12) (mm_nL 12) (mm_RT 12) ∈ mm_AW := mm_aw (i := 246) (by decide +kernel) rfl
theorem hd_13 : (mm_Y 13).cls ≠ "java/lang/invoke/MethodHandle" ∧ (mm_Y 13).cls ≠ "java/lang/invoke/VarHandle" ∧ (parseMethodDescriptor (mm_Y 13).desc).map (fun d => d.parameters.length) = some 0 := by decide +kernel
theorem gi_13 : Cond.code (mm_Y 13) (mm_B 13) (mm_nL 13) (mm_RT 13) ∈ mm_AW := mm_aw (i := 631) (by decide +kernel) rfl
theorem hd_14 : (mm_Y 14).cls ≠ "java/lang/invoke/MethodHandle" ∧ (mm_Y 14).cls ≠ "java/lang/invoke/VarHandle" ∧ (parseMethodDescriptor (mm_Y 14).desc).map (fun d => d.parameters.length) = some 1 := by decide +kernel
theorem gi_14 : Cond.code (mm_Y 14) (mm_B 14) (mm_nL 14) (mm_RT 14) ∈ mm_AW := mm_aw (i := 635) (by decide +kernel) rfl
theorem hd_15 : (mm_Y 15).cls ≠ "java/lang/invoke/MethodHandle" ∧ (mm_Y 15).cls ≠ "java/lang/invoke/VarHandle" ∧ (parseMethodDescriptor (mm_Y 15).desc).map (fun d => d.parameters.length) = some 2 := by decide +kernel
theorem gi_15 : Cond.code (mm_Y 15) (mm_B 15) (mm_nL 15) (mm_RT 15) ∈ mm_AW := mm_aw (i := 639) (by decide +kernel) rfl
theorem hd_16 : (mm_Y 16).cls ≠ "java/lang/invoke/MethodHandle" ∧ (mm_Y 16).cls ≠ "java/lang/invoke/VarHandle" ∧ (parseMethodDescriptor (mm_Y 16).desc).map (fun d => d.parameters.length) = some 1 := by decide +kernel
theorem gi_16 : Cond.code (mm_Y 16) (mm_B 16) (mm_nL 16) (mm_RT 16) ∈ mm_AW := mm_aw (i := 799) (by decide +kernel) rfl
theorem hd_17 : (mm_Y 17).cls ≠ "java/lang/invoke/MethodHandle" ∧ (mm_Y 17).cls ≠ "java/lang/invoke/VarHandle" ∧ (parseMethodDescriptor (mm_Y 17).desc).map (fun d => d.parameters.length) = some 1 := by decide +kernel
theorem gi_17 : Cond.code (mm_Y 17) (mm_B 17) (mm_nL 17) (mm_RT 17) ∈ mm_AW := mm_aw (i := 839) (by decide +kernel) rfl
theorem hd_18 : (mm_Y 18).cls ≠ "java/lang/invoke/MethodHandle" ∧ (mm_Y 18).cls ≠ "java/lang/invoke/VarHandle" ∧ (parseMethodDescriptor (mm_Y 18).desc).map (fun d => d.parameters.length) = some 1 := by decide +kernel
theorem gi_18 : Cond.code (mm_Y 18) (mm_B 18) (mm_nL 18) (mm_RT 18) ∈ mm_AW := mm_aw (i := 972) (by decide +kernel) rfl
theorem hd_19 : (mm_Y 19).cls ≠ "java/lang/invoke/MethodHandle" ∧ (mm_Y 19).cls ≠ "java/lang/invoke/VarHandle" ∧ (parseMethodDescriptor (mm_Y 19).desc).map (fun d => d.parameters.length) = some 0 := by decide +kernel
theorem gi_19 : Cond.code (mm_Y 19) (mm_B 19) (mm_nL 19) (mm_RT 19) ∈ mm_AW := mm_aw (i := 555) (by decide +kernel) rfl
theorem hd_20 : (mm_Y 20).cls ≠ "java/lang/invoke/MethodHandle" ∧ (mm_Y 20).cls ≠ "java/lang/invoke/VarHandle" ∧ (parseMethodDescriptor (mm_Y 20).desc).map (fun d => d.parameters.length) = some 0 := by decide +kernel
theorem gi_20 : Cond.code (mm_Y 20) (mm_B 20) (mm_nL 20) (mm_RT 20) ∈ mm_AW := mm_aw (i := 902) (by decide +kernel) rfl
theorem hd_21 : (mm_Y 21).cls ≠ "java/lang/invoke/MethodHandle" ∧ (mm_Y 21).cls ≠ "java/lang/invoke/VarHandle" ∧ (parseMethodDescriptor (mm_Y 21).desc).map (fun d => d.parameters.length) = some 1 := by decide +kernel
theorem gi_21 : Cond.code (mm_Y 21) (mm_B 21) (mm_nL 21) (mm_RT 21) ∈ mm_AW := mm_aw (i := 990) (by decide +kernel) rfl
theorem hd_22 : (mm_Y 22).cls ≠ "java/lang/invoke/MethodHandle" ∧ (mm_Y 22).cls ≠ "java/lang/invoke/VarHandle" ∧ (parseMethodDescriptor (mm_Y 22).desc).map (fun d => d.parameters.length) = some 1 := by decide +kernel
theorem gi_22 : Cond.code (mm_Y 22) (mm_B 22) (mm_nL 22) (mm_RT 22) ∈ mm_AW := mm_aw (i := 1041) (by decide +kernel) rfl
theorem hd_23 : (mm_Y 23).cls ≠ "java/lang/invoke/MethodHandle" ∧ (mm_Y 23).cls ≠ "java/lang/invoke/VarHandle" ∧ (parseMethodDescriptor (mm_Y 23).desc).map (fun d => d.parameters.length) = some 2 := by decide +kernel
theorem gi_23 : Cond.code (mm_Y 23) (mm_B 23) (mm_nL 23) (mm_RT 23) ∈ mm_AW := mm_aw (i := 1328) (by decide +kernel) rfl
theorem hd_24 : (mm_Y 24).cls ≠ "java/lang/invoke/MethodHandle" ∧ (mm_Y 24).cls ≠ "java/lang/invoke/VarHandle" ∧ (parseMethodDescriptor (mm_Y 24).desc).map (fun d => d.parameters.length) = some 2 := by decide +kernel
theorem gi_24 : Cond.code (mm_Y 24) (mm_B 24) (mm_nL 24) (mm_RT 24) ∈ mm_AW := mm_aw (i := 1336) (by decide +kernel) rfl
theorem hd_25 : (mm_Y 25).cls ≠ "java/lang/invoke/MethodHandle" ∧ (mm_Y 25).cls ≠ "java/lang/invoke/VarHandle" ∧ (parseMethodDescriptor (mm_Y 25).desc).map (fun d => d.parameters.length) = some 0 := by decide +kernel
theorem gi_25 : Cond.code (mm_Y 25) (mm_B 25) (mm_nL 25) (mm_RT 25) ∈ mm_AW := mm_aw (i := 1344) (by decide +kernel) rfl
theorem hd_26 : (mm_Y 26).cls ≠ "java/lang/invoke/MethodHandle" ∧ (mm_Y 26).cls ≠ "java/lang/invoke/VarHandle" ∧ (parseMethodDescriptor (mm_Y 26).desc).map (fun d => d.parameters.length) = some 0 := by decide +kernel
theorem gi_26 : Cond.code (mm_Y 26) (mm_B 26) (mm_nL 26) (mm_RT 26) ∈ mm_AW := mm_aw (i := 240) (by decide +kernel) rfl
theorem hd_27 : (mm_Y 27).cls ≠ "java/lang/invoke/MethodHandle" ∧ (mm_Y 27).cls ≠ "java/lang/invoke/VarHandle" ∧ (parseMethodDescriptor (mm_Y 27).desc).map (fun d => d.parameters.length) = some 2 := by decide +kernel
theorem gi_27 : Cond.code (mm_Y 27) (mm_B 27) (mm_nL 27) (mm_RT 27) ∈ mm_AW := mm_aw (i := 819) (by decide +kernel) rfl
theorem hd_28 : (mm_Y 28).cls ≠ "java/lang/invoke/MethodHandle" ∧ (mm_Y 28).cls ≠ "java/lang/invoke/VarHandle" ∧ (parseMethodDescriptor (mm_Y 28).desc).map (fun d => d.parameters.length) = some 2 := by decide +kernel
theorem gi_28 : Cond.code (mm_Y 28) (mm_B 28) (mm_nL 28) (mm_RT 28) ∈ mm_AW := mm_aw (i := 826) (by decide +kernel) rfl
theorem hd_29 : (mm_Y 29).cls ≠ "java/lang/invoke/MethodHandle" ∧ (mm_Y 29).cls ≠ "java/lang/invoke/VarHandle" ∧ (parseMethodDescriptor (mm_Y 29).desc).map (fun d => d.parameters.length) = some 2 := by decide +kernel
theorem gi_29 : Cond.code (mm_Y 29) (mm_B 29) (mm_nL 29) (mm_RT 29) ∈ mm_AW := mm_aw (i := 830) (by decide +kernel) rfl
theorem hd_30 : (mm_Y 30).cls ≠ "java/lang/invoke/MethodHandle" ∧ (mm_Y 30).cls ≠ "java/lang/invoke/VarHandle" ∧ (parseMethodDescriptor (mm_Y 30).desc).map (fun d => d.parameters.length) = some 2 := by decide +kernel
theorem gi_30 : Cond.code (mm_Y 30) (mm_B 30) (mm_nL 30) (mm_RT 30) ∈ mm_AW := mm_aw (i := 956) (by decide +kernel) rfl
theorem hd_31 : (mm_Y 31).cls ≠ "java/lang/invoke/MethodHandle" ∧ (mm_Y 31).cls ≠ "java/lang/invoke/VarHandle" ∧ (parseMethodDescriptor (mm_Y 31).desc).map (fun d => d.parameters.length) = some 1 := by decide +kernel
theorem gi_31 : Cond.code (mm_Y 31) (mm_B 31) (mm_nL 31) (mm_RT 31) ∈ mm_AW := mm_aw (i := 923) (by decide +kernel) rfl
theorem hd_32 : (mm_Y 32).cls ≠ "java/lang/invoke/MethodHandle" ∧ (mm_Y 32).cls ≠ "java/lang/invoke/VarHandle" ∧ (parseMethodDescriptor (mm_Y 32).desc).map (fun d => d.parameters.length) = some 0 := by decide +kernel
theorem gi_32 : Cond.code (mm_Y 32) (mm_B 32) (mm_nL 32) (mm_RT 32) ∈ mm_AW := mm_aw (i := 1116) (by decide +kernel) rfl
theorem hd_33 : (mm_Y 33).cls ≠ "java/lang/invoke/MethodHandle" ∧ (mm_Y 33).cls ≠ "java/lang/invoke/VarHandle" ∧ (parseMethodDescriptor (mm_Y 33).desc).map (fun d => d.parameters.length) = some 2 := by decide +kernel
theorem gi_33 : Cond.code (mm_Y 33) (mm_B 33) (mm_nL 33) (mm_RT 33) ∈ mm_AW := mm_aw (i := 327) (by decide +kernel) rfl
theorem hd_34 : (mm_Y 34).cls ≠ "java/lang/invoke/MethodHandle" ∧ (mm_Y 34).cls ≠ "java/lang/invoke/VarHandle" ∧ (parseMethodDescriptor (mm_Y 34).desc).map (fun d => d.parameters.length) = some 0 := by decide +kernel
theorem gi_34 : Cond.code (mm_Y 34) (mm_B 34) (mm_nL 34) (mm_RT 34) ∈ mm_AW := mm_aw (i := 623) (by decide +kernel) rfl
theorem hd_35 : (mm_Y 35).cls ≠ "java/lang/invoke/MethodHandle" ∧ (mm_Y 35).cls ≠ "java/lang/invoke/VarHandle" ∧ (parseMethodDescriptor (mm_Y 35).desc).map (fun d => d.parameters.length) = some 0 := by decide +kernel
theorem gi_35 : Cond.code (mm_Y 35) (mm_B 35) (mm_nL 35) (mm_RT 35) ∈ mm_AW := mm_aw (i := 627) (by decide +kernel) rfl
theorem hd_36 : (mm_Y 36).cls ≠ "java/lang/invoke/MethodHandle" ∧ (mm_Y 36).cls ≠ "java/lang/invoke/VarHandle" ∧ (parseMethodDescriptor (mm_Y 36).desc).map (fun d => d.parameters.length) = some 0 := by decide +kernel
theorem gi_36 : Cond.code (mm_Y 36) (mm_B 36) (mm_nL 36) (mm_RT 36) ∈ mm_AW := mm_aw (i := 734) (by decide +kernel) rfl
theorem hd_37 : (mm_Y 37).cls ≠ "java/lang/invoke/MethodHandle" ∧ (mm_Y 37).cls ≠ "java/lang/invoke/VarHandle" ∧ (parseMethodDescriptor (mm_Y 37).desc).map (fun d => d.parameters.length) = some 1 := by decide +kernel
theorem gi_37 : Cond.code (mm_Y 37) (mm_B 37) (mm_nL 37) (mm_RT 37) ∈ mm_AW := mm_aw (i := 761) (by decide +kernel) rfl
theorem hd_38 : (mm_Y 38).cls ≠ "java/lang/invoke/MethodHandle" ∧ (mm_Y 38).cls ≠ "java/lang/invoke/VarHandle" ∧ (parseMethodDescriptor (mm_Y 38).desc).map (fun d => d.parameters.length) = some 2 := by decide +kernel
theorem gi_38 : Cond.code (mm_Y 38) (mm_B 38) (mm_nL 38) (mm_RT 38) ∈ mm_AW := mm_aw (i := 753) (by decide +kernel) rfl
theorem hd_39 : (mm_Y 39).cls ≠ "java/lang/invoke/MethodHandle" ∧ (mm_Y 39).cls ≠ "java/lang/invoke/VarHandle" ∧ (parseMethodDescriptor (mm_Y 39).desc).map (fun d => d.parameters.length) = some 1 := by decide +kernel
theorem gi_39 : Cond.code (mm_Y 39) (mm_B 39) (mm_nL 39) (mm_RT 39) ∈ mm_AW := mm_aw (i := 742) (by decide +kernel) rfl
theorem hd_40 : (mm_Y 40).cls ≠ "java/lang/invoke/MethodHandle" ∧ (mm_Y 40).cls ≠ "java/lang/invoke/VarHandle" ∧ (parseMethodDescriptor (mm_Y 40).desc).map (fun d => d.parameters.length) = some 2 := by decide +kernel
theorem gi_40 : Cond.code (mm_Y 40) (mm_B 40) (mm_nL 40) (mm_RT 40) ∈ mm_AW := mm_aw (i := 746) (by decide +kernel) rfl
theorem hd_41 : (mm_Y 41).cls ≠ "java/lang/invoke/MethodHandle" ∧ (mm_Y 41).cls ≠ "java/lang/invoke/VarHandle" ∧ (parseMethodDescriptor (mm_Y 41).desc).map (fun d => d.parameters.length) = some 0 := by decide +kernel
theorem gi_41 : Cond.code (mm_Y 41) (mm_B 41) (mm_nL 41) (mm_RT 41) ∈ mm_AW := mm_aw (i := 738) (by decide +kernel) rfl
theorem hd_42 : (mm_Y 42).cls ≠ "java/lang/invoke/MethodHandle" ∧ (mm_Y 42).cls ≠ "java/lang/invoke/VarHandle" ∧ (parseMethodDescriptor (mm_Y 42).desc).map (fun d => d.parameters.length) = some 0 := by decide +kernel
theorem gi_42 : Cond.code (mm_Y 42) (mm_B 42) (mm_nL 42) (mm_RT 42) ∈ mm_AW := mm_aw (i := 757) (by decide +kernel) rfl
theorem hd_43 : (mm_Y 43).cls ≠ "java/lang/invoke/MethodHandle" ∧ (mm_Y 43).cls ≠ "java/lang/invoke/VarHandle" ∧ (parseMethodDescriptor (mm_Y 43).desc).map (fun d => d.parameters.length) = some 0 := by decide +kernel
theorem gi_43 : Cond.code (mm_Y 43) (mm_B 43) (mm_nL 43) (mm_RT 43) ∈ mm_AW := mm_aw (i := 765) (by decide +kernel) rfl
theorem hd_44 : (mm_Y 44).cls ≠ "java/lang/invoke/MethodHandle" ∧ (mm_Y 44).cls ≠ "java/lang/invoke/VarHandle" ∧ (parseMethodDescriptor (mm_Y 44).desc).map (fun d => d.parameters.length) = some 0 := by decide +kernel
theorem gi_44 : Cond.code (mm_Y 44) (mm_B 44) (mm_nL 44) (mm_RT 44) ∈ mm_AW := mm_aw (i := 769) (by decide +kernel) rfl
theorem hd_45 : (mm_Y 45).cls ≠ "java/lang/invoke/MethodHandle" ∧ (mm_Y 45).cls ≠ "java/lang/invoke/VarHandle" ∧ (parseMethodDescriptor (mm_Y 45).desc).map (fun d => d.parameters.length) = some 0 := by decide +kernel
theorem gi_45 : Cond.code (mm_Y 45) (mm_B 45) (mm_nL 45) (mm_RT 45) ∈ mm_AW := mm_aw (i := 773) (by decide +kernel) rfl
theorem hd_46 : (mm_Y 46).cls ≠ "java/lang/invoke/MethodHandle" ∧ (mm_Y 46).cls ≠ "java/lang/invoke/VarHandle" ∧ (parseMethodDescriptor (mm_Y 46).desc).map (fun d => d.parameters.length) = some 1 := by decide +kernel
theorem gi_46 : Cond.code (mm_Y 46) (mm_B 46) (mm_nL 46) (mm_RT 46) ∈ mm_AW := mm_aw (i := 777) (by decide +kernel) rfl
theorem hd_47 : (mm_Y 47).cls ≠ "java/lang/invoke/MethodHandle" ∧ (mm_Y 47).cls ≠ "java/lang/invoke/VarHandle" ∧ (parseMethodDescriptor (mm_Y 47).desc).map (fun d => d.parameters.length) = some 1 := by decide +kernel
theorem gi_47 : Cond.code (mm_Y 47) (mm_B 47) (mm_nL 47) (mm_RT 47) ∈ mm_AW := mm_aw (i := 782) (by decide +kernel) rfl
theorem hd_48 : (mm_Y 48).cls ≠ "java/lang/invoke/MethodHandle" ∧ (mm_Y 48).cls ≠ "java/lang/invoke/VarHandle" ∧ (parseMethodDescriptor (mm_Y 48).desc).map (fun d => d.parameters.length) = some 1 := by decide +kernel
theorem gi_48 : Cond.code (mm_Y 48) (mm_B 48) (mm_nL 48) (mm_RT 48) ∈ mm_AW := mm_aw (i := 786) (by decide +kernel) rfl
theorem hd_49 : (mm_Y 49).cls ≠ "java/lang/invoke/MethodHandle" ∧ (mm_Y 49).cls ≠ "java/lang/invoke/VarHandle" ∧ (parseMethodDescriptor (mm_Y 49).desc).map (fun d => d.parameters.length) = some 1 := by decide +kernel
theorem gi_49 : Cond.code (mm_Y 49) (mm_B 49) (mm_nL 49) (mm_RT 49) ∈ mm_AW := mm_aw (i := 790) (by decide +kernel) rfl
theorem hd_50 : (mm_Y 50).cls ≠ "java/lang/invoke/MethodHandle" ∧ (mm_Y 50).cls ≠ "java/lang/invoke/VarHandle" ∧ (parseMethodDescriptor (mm_Y 50).desc).map (fun d => d.parameters.length) = some 2 := by decide +kernel
theorem gi_50 : Cond.code (mm_Y 50) (mm_B 50) (mm_nL 50) (mm_RT 50) ∈ mm_AW := mm_aw (i := 795) (by decide +kernel) rfl
theorem hd_51 : (mm_Y 51).cls ≠ "java/lang/invoke/MethodHandle" ∧ (mm_Y 51).cls ≠ "java/lang/invoke/VarHandle" ∧ (parseMethodDescriptor (mm_Y 51).desc).map (fun d => d.parameters.length) = some 0 := by decide +kernel
theorem gi_51 : Cond.code (mm_Y 51) (mm_B 51) (mm_nL 51) (mm_RT 51) ∈ mm_AW := mm_aw (i := 803) (by decide +kernel) rfl
theorem hd_52 : (mm_Y 52).cls ≠ "java/lang/invoke/MethodHandle" ∧ (mm_Y 52).cls ≠ "java/lang/invoke/VarHandle" ∧ (parseMethodDescriptor (mm_Y 52).desc).map (fun d => d.parameters.length) = some 2 := by decide +kernel
theorem gi_52 : Cond.code (mm_Y 52) (mm_B 52) (mm_nL 52) (mm_RT 52) ∈ mm_AW := mm_aw (i := 807) (by decide +kernel) rfl
theorem hd_53 : (mm_Y 53).cls ≠ "java/lang/invoke/MethodHandle" ∧ (mm_Y 53).cls ≠ "java/lang/invoke/VarHandle" ∧ (parseMethodDescriptor (mm_Y 53).desc).map (fun d => d.parameters.length) = some 3 := by decide +kernel
theorem gi_53 : Cond.code (mm_Y 53) (mm_B 53) (mm_nL 53) (mm_RT 53) ∈ mm_AW := mm_aw (i := 811) (by decide +kernel) rfl
theorem hd_54 : (mm_Y 54).cls ≠ "java/lang/invoke/MethodHandle" ∧ (mm_Y 54).cls ≠ "java/lang/invoke/VarHandle" ∧ (parseMethodDescriptor (mm_Y 54).desc).map (fun d => d.parameters.length) = some 0 := by decide +kernel
theorem gi_54 : Cond.code (mm_Y 54) (mm_B 54) (mm_nL 54) (mm_RT 54) ∈ mm_AW := mm_aw (i := 815) (by decide +kernel) rfl
theorem hd_55 : (mm_Y 55).cls ≠ "java/lang/invoke/MethodHandle" ∧ (mm_Y 55).cls ≠ "java/lang/invoke/VarHandle" ∧ (parseMethodDescriptor (mm_Y 55).desc).map (fun d => d.parameters.length) = some 1 := by decide +kernel
theorem gi_55 : Cond.code (mm_Y 55) (mm_B 55) (mm_nL 55) (mm_RT 55) ∈ mm_AW := mm_aw (i := 511) (by decide +kernel) rfl
theorem hd_56 : (mm_Y 56).cls ≠ "java/lang/invoke/MethodHandle" ∧ (mm_Y 56).cls ≠ "java/lang/invoke/VarHandle" ∧ (parseMethodDescriptor (mm_Y 56).desc).map (fun d => d.parameters.length) = some 3 := by decide +kernel
theorem gi_56 : Cond.code (mm_Y 56) (mm_B 56) (mm_nL 56) (mm_RT 56) ∈ mm_AW := mm_aw (i := 1278) (by decide +kernel) rfl
theorem hd_57 : (mm_Y 57).cls ≠ "java/lang/invoke/MethodHandle" ∧ (mm_Y 57).cls ≠ "java/lang/invoke/VarHandle" ∧ (parseMethodDescriptor (mm_Y 57).desc).map (fun d => d.parameters.length) = some 0 := by decide +kernel
theorem gi_57 : Cond.code (mm_Y 57) (mm_B 57) (mm_nL 57) (mm_RT 57) ∈ mm_AW := mm_aw (i := 906) (by decide +kernel) rfl
theorem hd_58 : (mm_Y 58).cls ≠ "java/lang/invoke/MethodHandle" ∧ (mm_Y 58).cls ≠ "java/lang/invoke/VarHandle" ∧ (parseMethodDescriptor (mm_Y 58).desc).map (fun d => d.parameters.length) = some 2 := by decide +kernel
theorem gi_58 : Cond.code (mm_Y 58) (mm_B 58) (mm_nL 58) (mm_RT 58) ∈ mm_AW := mm_aw (i := 1294) (by decide +kernel) rfl
theorem hd_59 : (mm_Y 59).cls ≠ "java/lang/invoke/MethodHandle" ∧ (mm_Y 59).cls ≠ "java/lang/invoke/VarHandle" ∧ (parseMethodDescriptor (mm_Y 59).desc).map (fun d => d.parameters.length) = some 3 := by decide +kernel
theorem gi_59 : Cond.code (mm_Y 59) (mm_B 59) (mm_nL 59) (mm_RT 59) ∈ mm_AW := mm_aw (i := 1299) (by decide +kernel) rfl
theorem hd_60 : (mm_Y 60).cls ≠ "java/lang/invoke/MethodHandle" ∧ (mm_Y 60).cls ≠ "java/lang/invoke/VarHandle" ∧ (parseMethodDescriptor (mm_Y 60).desc).map (fun d => d.parameters.length) = some 2 := by decide +kernel
theorem gi_60 : Cond.code (mm_Y 60) (mm_B 60) (mm_nL 60) (mm_RT 60) ∈ mm_AW := mm_aw (i := 1307) (by decide +kernel) rfl
theorem hd_61 : (mm_Y 61).cls ≠ "java/lang/invoke/MethodHandle" ∧ (mm_Y 61).cls ≠ "java/lang/invoke/VarHandle" ∧ (parseMethodDescriptor (mm_Y 61).desc).map (fun d => d.parameters.length) = some 1 := by decide +kernel
theorem gi_61 : Cond.code (mm_Y 61) (mm_B 61) (mm_nL 61) (mm_RT 61) ∈ mm_AW := mm_aw (i := 1303) (by decide +kernel) rfl
theorem hd_62 : (mm_Y 62).cls ≠ "java/lang/invoke/MethodHandle" ∧ (mm_Y 62).cls ≠ "java/lang/invoke/VarHandle" ∧ (parseMethodDescriptor (mm_Y 62).desc).map (fun d => d.parameters.length) = some 1 := by decide +kernel
theorem gi_62 : Cond.code (mm_Y 62) (mm_B 62) (mm_nL 62) (mm_RT 62) ∈ mm_AW := mm_aw (i := 1315) (by decide +kernel) rfl
theorem hd_63 : (mm_Y 63).cls ≠ "java/lang/invoke/MethodHandle" ∧ (mm_Y 63).cls ≠ "java/lang/invoke/VarHandle" ∧ (parseMethodDescriptor (mm_Y 63).desc).map (fun d => d.parameters.length) = some 1 := by decide +kernel
theorem gi_63 : Cond.code (mm_Y 63) (mm_B 63) (mm_nL 63) (mm_RT 63) ∈ mm_AW := mm_aw (i := 1319) (by decide +kernel) rfl
theorem hd_64 : (mm_Y 64).cls ≠ "java/lang/invoke/MethodHandle" ∧ (mm_Y 64).cls ≠ "java/lang/invoke/VarHandle" ∧ (parseMethodDescriptor (mm_Y 64).desc).map (fun d => d.parameters.length) = some 2 := by decide +kernel
theorem gi_64 : Cond.code (mm_Y 64) (mm_B 64) (mm_nL 64) (mm_RT 64) ∈ mm_AW := mm_aw (i := 1167) (by decide +kernel) rfl
theorem hd_65 : (mm_Y 65).cls ≠ "java/lang/invoke/MethodHandle" ∧ (mm_Y 65).cls ≠ "java/lang/invoke/VarHandle" ∧ (parseMethodDescriptor (mm_Y 65).desc).map (fun d => d.parameters.length) = some 3 := by decide +kernel
theorem gi_65 : Cond.code (mm_Y 65) (mm_B 65) (mm_nL 65) (mm_RT 65) ∈ mm_AW := mm_aw (i := 1171) (by decide +kernel) rfl
theorem hd_66 : (mm_Y 66).cls ≠ "java/lang/invoke/MethodHandle" ∧ (mm_Y 66).cls ≠ "java/lang/invoke/VarHandle" ∧ (parseMethodDescriptor (mm_Y 66).desc).map (fun d => d.parameters.length) = some 1 := by decide +kernel
theorem gi_66 : Cond.code (mm_Y 66) (mm_B 66) (mm_nL 66) (mm_RT 66) ∈ mm_AW := mm_aw (i := 1182) (by decide +kernel) rfl
theorem hd_67 : (mm_Y 67).cls ≠ "java/lang/invoke/MethodHandle" ∧ (mm_Y 67).cls ≠ "java/lang/invoke/VarHandle" ∧ (parseMethodDescriptor (mm_Y 67).desc).map (fun d => d.parameters.length) = some 2 := by decide +kernel
theorem gi_67 : Cond.code (mm_Y 67) (mm_B 67) (mm_nL 67) (mm_RT 67) ∈ mm_AW := mm_aw (i := 1191) (by decide +kernel) rfl
theorem hd_68 : (mm_Y 68).cls ≠ "java/lang/invoke/MethodHandle" ∧ (mm_Y 68).cls ≠ "java/lang/invoke/VarHandle" ∧ (parseMethodDescriptor (mm_Y 68).desc).map (fun d => d.parameters.length) = some 3 := by decide +kernel
theorem gi_68 : Cond.code (mm_Y 68) (mm_B 68) (mm_nL 68) (mm_RT 68) ∈ mm_AW := mm_aw (i := 1186) (by decide +kernel) rfl
theorem hd_69 : (mm_Y 69).cls ≠ "java/lang/invoke/MethodHandle" ∧ (mm_Y 69).cls ≠ "java/lang/invoke/VarHandle" ∧ (parseMethodDescriptor (mm_Y 69).desc).map (fun d => d.parameters.length) = some 2 := by decide +kernel
theorem gi_69 : Cond.code (mm_Y 69) (mm_B 69) (mm_nL 69) (mm_RT 69) ∈ mm_AW := mm_aw (i := 439) (by decide +kernel) rfl
theorem hd_70 : (mm_Y 70).cls ≠ "java/lang/invoke/MethodHandle" ∧ (mm_Y 70).cls ≠ "java/lang/invoke/VarHandle" ∧ (parseMethodDescriptor (mm_Y 70).desc).map (fun d => d.parameters.length) = some 2 := by decide +kernel
theorem gi_70 : Cond.code (mm_Y 70) (mm_B 70) (mm_nL 70) (mm_RT 70) ∈ mm_AW := mm_aw (i := 1049) (by decide +kernel) rfl
theorem hd_71 : (mm_Y 71).cls ≠ "java/lang/invoke/MethodHandle" ∧ (mm_Y 71).cls ≠ "java/lang/invoke/VarHandle" ∧ (parseMethodDescriptor (mm_Y 71).desc).map (fun d => d.parameters.length) = some 2 := by decide +kernel
theorem gi_71 : Cond.code (mm_Y 71) (mm_B 71) (mm_nL 71) (mm_RT 71) ∈ mm_AW := mm_aw (i := 1068) (by decide +kernel) rfl
theorem hd_72 : (mm_Y 72).cls ≠ "java/lang/invoke/MethodHandle" ∧ (mm_Y 72).cls ≠ "java/lang/invoke/VarHandle" ∧ (parseMethodDescriptor (mm_Y 72).desc).map (fun d => d.parameters.length) = some 1 := by decide +kernel
theorem gi_72 : Cond.code (mm_Y 72) (mm_B 72) (mm_nL 72) (mm_RT 72) ∈ mm_AW := mm_aw (i := 1076) (by decide +kernel) rfl
theorem hd_73 : (mm_Y 73).cls ≠ "java/lang/invoke/MethodHandle" ∧ (mm_Y 73).cls ≠ "java/lang/invoke/VarHandle" ∧ (parseMethodDescriptor (mm_Y 73).desc).map (fun d => d.parameters.length) = some 1 := by decide +kernel
theorem gi_73 : Cond.code (mm_Y 73) (mm_B 73) (mm_nL 73) (mm_RT 73) ∈ mm_AW := mm_aw (i := 1106) (by decide +kernel) rfl
theorem hd_74 : (mm_Y 74).cls ≠ "java/lang/invoke/MethodHandle" ∧ (mm_Y 74).cls ≠ "java/lang/invoke/VarHandle" ∧ (parseMethodDescriptor (mm_Y 74).desc).map (fun d => d.parameters.length) = some 0 := by decide +kernel
theorem gi_74 : Cond.code (mm_Y 74) (mm_B 74) (mm_nL 74) (mm_RT 74) ∈ mm_AW := mm_aw (i := 562) (by decide +kernel) rfl
theorem hd_75 : (mm_Y 75).cls ≠ "java/lang/invoke/MethodHandle" ∧ (mm_Y 75).cls ≠ "java/lang/invoke/VarHandle" ∧ (parseMethodDescriptor (mm_Y 75).desc).map (fun d => d.parameters.length) = some 1 := by decide +kernel
theorem gi_75 : Cond.code (mm_Y 75) (mm_B 75) (mm_nL 75) (mm_RT 75) ∈ mm_AW := mm_aw (i := 846) (by decide +kernel) rfl
theorem hd_76 : (mm_Y 76).cls ≠ "java/lang/invoke/MethodHandle" ∧ (mm_Y 76).cls ≠ "java/lang/invoke/VarHandle" ∧ (parseMethodDescriptor (mm_Y 76).desc).map (fun d => d.parameters.length) = some 1 := by decide +kernel
theorem gi_76 : Cond.code (mm_Y 76) (mm_B 76) (mm_nL 76) (mm_RT 76) ∈ mm_AW := mm_aw (i := 994) (by decide +kernel) rfl
theorem hd_77 : (mm_Y 77).cls ≠ "java/lang/invoke/MethodHandle" ∧ (mm_Y 77).cls ≠ "java/lang/invoke/VarHandle" ∧ (parseMethodDescriptor (mm_Y 77).desc).map (fun d => d.parameters.length) = some 1 := by decide +kernel
theorem gi_77 : Cond.code (mm_Y 77) (mm_B 77) (mm_nL 77) (mm_RT 77) ∈ mm_AW := mm_aw (i := 927) (by decide +kernel) rfl
theorem hd_78 : (mm_Y 78).cls ≠ "java/lang/invoke/MethodHandle" ∧ (mm_Y 78).cls ≠ "java/lang/invoke/VarHandle" ∧ (parseMethodDescriptor (mm_Y 78).desc).map (fun d => d.parameters.length) = some 1 := by decide +kernel
theorem gi_78 : Cond.code (mm_Y 78) (mm_B 78) (mm_nL 78) (mm_RT 78) ∈ mm_AW := mm_aw (i := 1258) (by decide +kernel) rfl
theorem hd_79 : (mm_Y 79).cls ≠ "java/lang/invoke/MethodHandle" ∧ (mm_Y 79).cls ≠ "java/lang/invoke/VarHandle" ∧ (parseMethodDescriptor (mm_Y 79).desc).map (fun d => d.parameters.length) = some 0 := by decide +kernel
theorem gi_79 : Cond.code (mm_Y 79) (mm_B 79) (mm_nL 79) (mm_RT 79) ∈ mm_AW := mm_aw (i := 1352) (by decide +kernel) rfl
theorem hd_80 : (mm_Y 80).cls ≠ "java/lang/invoke/MethodHandle" ∧ (mm_Y 80).cls ≠ "java/lang/invoke/VarHandle" ∧ (parseMethodDescriptor (mm_Y 80).desc).map (fun d => d.parameters.length) = some 0 := by decide +kernel
theorem gi_80 : Cond.code (mm_Y 80) (mm_B 80) (mm_nL 80) (mm_RT 80) ∈ mm_AW := mm_aw (i := 1356) (by decide +kernel) rfl
theorem hd_81 : (mm_Y 81).cls ≠ "java/lang/invoke/MethodHandle" ∧ (mm_Y 81).cls ≠ "java/lang/invoke/VarHandle" ∧ (parseMethodDescriptor (mm_Y 81).desc).map (fun d => d.parameters.length) = some 0 := by decide +kernel
theorem gi_81 : Cond.code (mm_Y 81) (mm_B 81) (mm_nL 81) (mm_RT 81) ∈ mm_AW := mm_aw (i := 1365) (by decide +kernel) rfl
theorem hd_82 : (mm_Y 82).cls ≠ "java/lang/invoke/MethodHandle" ∧ (mm_Y 82).cls ≠ "java/lang/invoke/VarHandle" ∧ (parseMethodDescriptor (mm_Y 82).desc).map (fun d => d.parameters.length) = some 0 := by decide +kernel
theorem gi_82 : Cond.code (mm_Y 82) (mm_B 82) (mm_nL 82) (mm_RT 82) ∈ mm_AW := mm_aw (i := 1360) (by decide +kernel) rfl
theorem hd_83 : (mm_Y 83).cls ≠ "java/lang/invoke/MethodHandle" ∧ (mm_Y 83).cls ≠ "java/lang/invoke/VarHandle" ∧ (parseMethodDescriptor (mm_Y 83).desc).map (fun d => d.parameters.length) = some 0 := by decide +kernel
theorem gi_83 : Cond.code (mm_Y 83) (mm_B 83) (mm_nL 83) (mm_RT 83) ∈ mm_AW := mm_aw (i := 1054) (by decide +kernel) rfl
theorem hd_84 : (mm_Y 84).cls ≠ "java/lang/invoke/MethodHandle" ∧ (mm_Y 84).cls ≠ "java/lang/invoke/VarHandle" ∧ (parseMethodDescriptor (mm_Y 84).desc).map (fun d => d.parameters.length) = some 0 := by decide +kernel
theorem gi_84 : Cond.code (mm_Y 84) (mm_B 84) (mm_nL 84) (mm_RT 84) ∈ mm_AW := mm_aw (i := 1374) (by decide +kernel) rfl
theorem hd_85 : (mm_Y 85).cls ≠ "java/lang/invoke/MethodHandle" ∧ (mm_Y 85).cls ≠ "java/lang/invoke/VarHandle" ∧ (parseMethodDescriptor (mm_Y 85).desc).map (fun d => d.parameters.length) = some 0 := by decide +kernel
theorem gi_85 : Cond.code (mm_Y 85) (mm_B 85) (mm_nL 85) (mm_RT 85) ∈ mm_AW := mm_aw (i := 150) (by decide +kernel) rfl
theorem hd_86 : (mm_Y 86).cls ≠ "java/lang/invoke/MethodHandle" ∧ (mm_Y 86).cls ≠ "java/lang/invoke/VarHandle" ∧ (parseMethodDescriptor (mm_Y 86).desc).map (fun d => d.parameters.length) = some 1 := by decide +kernel
theorem gi_86 : Cond.code (mm_Y 86) (mm_B 86) (mm_nL 86) (mm_RT 86) ∈ mm_AW := mm_aw (i := 890) (by decide +kernel) rfl
theorem hd_87 : (mm_Y 87).cls ≠ "java/lang/invoke/MethodHandle" ∧ (mm_Y 87).cls ≠ "java/lang/invoke/VarHandle" ∧ (parseMethodDescriptor (mm_Y 87).desc).map (fun d => d.parameters.length) = some 0 := by decide +kernel
theorem gi_87 : Cond.code (mm_Y 87) (mm_B 87) (mm_nL 87) (mm_RT 87) ∈ mm_AW := mm_aw (i := 643) (by decide +kernel) rfl
theorem hd_88 : (mm_Y 88).cls ≠ "java/lang/invoke/MethodHandle" ∧ (mm_Y 88).cls ≠ "java/lang/invoke/VarHandle" ∧ (parseMethodDescriptor (mm_Y 88).desc).map (fun d => d.parameters.length) = some 1 := by decide +kernel
theorem gi_88 : Cond.code (mm_Y 88) (mm_B 88) (mm_nL 88) (mm_RT 88) ∈ mm_AW := mm_aw (i := 650) (by decide +kernel) rfl
theorem hd_89 : (mm_Y 89).cls ≠ "java/lang/invoke/MethodHandle" ∧ (mm_Y 89).cls ≠ "java/lang/invoke/VarHandle" ∧ (parseMethodDescriptor (mm_Y 89).desc).map (fun d => d.parameters.length) = some 1 := by decide +kernel
theorem gi_89 : Cond.code (mm_Y 89) (mm_B 89) (mm_nL 89) (mm_RT 89) ∈ mm_AW := mm_aw (i := 657) (by decide +kernel) rfl
theorem hd_90 : (mm_Y 90).cls ≠ "java/lang/invoke/MethodHandle" ∧ (mm_Y 90).cls ≠ "java/lang/invoke/VarHandle" ∧ (parseMethodDescriptor (mm_Y 90).desc).map (fun d => d.parameters.length) = some 1 := by decide +kernel
theorem gi_90 : Cond.code (mm_Y 90) (mm_B 90) (mm_nL 90) (mm_RT 90) ∈ mm_AW := mm_aw (i := 661) (by decide +kernel) rfl
theorem hd_91 : (mm_Y 91).cls ≠ "java/lang/invoke/MethodHandle" ∧ (mm_Y 91).cls ≠ "java/lang/invoke/VarHandle" ∧ (parseMethodDescriptor (mm_Y 91).desc).map (fun d => d.parameters.length) = some 1 := by decide +kernel
theorem gi_91 : Cond.code (mm_Y 91) (mm_B 91) (mm_nL 91) (mm_RT 91) ∈ mm_AW := mm_aw (i := 668) (by decide +kernel) rfl
theorem hd_92 : (mm_Y 92).cls ≠ "java/lang/invoke/MethodHandle" ∧ (mm_Y 92).cls ≠ "java/lang/invoke/VarHandle" ∧ (parseMethodDescriptor (mm_Y 92).desc).map (fun d => d.parameters.length) = some 2 := by decide +kernel
theorem gi_92 : Cond.code (mm_Y 92) (mm_B 92) (mm_nL 92) (mm_RT 92) ∈ mm_AW := mm_aw (i := 203) (by decide +kernel) rfl
theorem hd_93 : (mm_Y 93).cls ≠ "java/lang/invoke/MethodHandle" ∧ (mm_Y 93).cls ≠ "java/lang/invoke/VarHandle" ∧ (parseMethodDescriptor (mm_Y 93).desc).map (fun d => d.parameters.length) = some 1 := by decide +kernel
theorem gi_93 : Cond.code (mm_Y 93) (mm_B 93) (mm_nL 93) (mm_RT 93) ∈ mm_AW := mm_aw (i := 646) (by decide +kernel) rfl
theorem hd_94 : (mm_Y 94).cls ≠ "java/lang/invoke/MethodHandle" ∧ (mm_Y 94).cls ≠ "java/lang/invoke/VarHandle" ∧ (parseMethodDescriptor (mm_Y 94).desc).map (fun d => d.parameters.length) = some 1 := by decide +kernel
theorem gi_94 : Cond.code (mm_Y 94) (mm_B 94) (mm_nL 94) (mm_RT 94) ∈ mm_AW := mm_aw (i := 653) (by decide +kernel) rfl
theorem hd_95 : (mm_Y 95).cls ≠ "java/lang/invoke/MethodHandle" ∧ (mm_Y 95).cls ≠ "java/lang/invoke/VarHandle" ∧ (parseMethodDescriptor (mm_Y 95).desc).map (fun d => d.parameters.length) = some 1 := by decide +kernel
theorem gi_95 : Cond.code (mm_Y 95) (mm_B 95) (mm_nL 95) (mm_RT 95) ∈ mm_AW := mm_aw (i := 664) (by decide +kernel) rfl
theorem hd_96 : (mm_Y 96).cls ≠ "java/lang/invoke/MethodHandle" ∧ (mm_Y 96).cls ≠ "java/lang/invoke/VarHandle" ∧ (parseMethodDescriptor (mm_Y 96).desc).map (fun d => d.parameters.length) = some 0 := by decide +kernel
theorem gi_96 : Cond.code (mm_Y 96) (mm_B 96) (mm_nL 96) (mm_RT 96) ∈ mm_AW := mm_aw (i := 404) (by decide +kernel) rfl
theorem hd_97 : (mm_Y 97).cls ≠ "java/lang/invoke/MethodHandle" ∧ (mm_Y 97).cls ≠ "java/lang/invoke/VarHandle" ∧ (parseMethodDescriptor (mm_Y 97).desc).map (fun d => d.parameters.length) = some 1 := by decide +kernel
theorem gi_97 : Cond.code (mm_Y 97) (mm_B 97) (mm_nL 97) (mm_RT 97) ∈ mm_AW := mm_aw (i := 419) (by decide +kernel) rfl
theorem hd_98 : (mm_Y 98).cls ≠ "java/lang/invoke/MethodHandle" ∧ (mm_Y 98).cls ≠ "java/lang/invoke/VarHandle" ∧ (parseMethodDescriptor (mm_Y 98).desc).map (fun d => d.parameters.length) = some 3 := by decide +kernel
theorem gi_98 : Cond.code (mm_Y 98) (mm_B 98) (mm_nL 98) (mm_RT 98) ∈ mm_AW := mm_aw (i := 1220) (by decide +kernel) rfl
theorem hd_99 : (mm_Y 99).cls ≠ "java/lang/invoke/MethodHandle" ∧ (mm_Y 99).cls ≠ "java/lang/invoke/VarHandle" ∧ (parseMethodDescriptor (mm_Y 99).desc).map (fun d => d.parameters.length) = some 2 := by decide +kernel
theorem gi_99 : Cond.code (mm_Y 99) (mm_B 99) (mm_nL 99) (mm_RT 99) ∈ mm_AW := mm_aw (i := 1245) (by decide +kernel) rfl
theorem hd_100 : (mm_Y 100).cls ≠ "java/lang/invoke/MethodHandle" ∧ (mm_Y 100).cls ≠ "java/lang/invoke/VarHandle" ∧ (parseMethodDescriptor (mm_Y 100).desc).map (fun d => d.parameters.length) = some 2 := by decide +kernel
theorem gi_100 : Cond.code (mm_Y 100) (mm_B 100) (mm_nL 100) (mm_RT 100) ∈ mm_AW := mm_aw (i := 1216) (by decide +kernel) rfl
theorem hd_101 : (mm_Y 101).cls ≠ "java/lang/invoke/MethodHandle" ∧ (mm_Y 101).cls ≠ "java/lang/invoke/VarHandle" ∧ (parseMethodDescriptor (mm_Y 101).desc).map (fun d => d.parameters.length) = some 1 := by decide +kernel
theorem gi_101 : Cond.code (mm_Y 101) (mm_B 101) (mm_nL 101) (mm_RT 101) ∈ mm_AW := mm_aw (i := 1225) (by decide +kernel) rfl
theorem hd_102 : (mm_Y 102).cls ≠ "java/lang/invoke/MethodHandle" ∧ (mm_Y 102).cls ≠ "java/lang/invoke/VarHandle" ∧ (parseMethodDescriptor (mm_Y 102).desc).map (fun d => d.parameters.length) = some 0 := by decide +kernel
theorem gi_102 : Cond.code (mm_Y 102) (mm_B 102) (mm_nL 102) (mm_RT 102) ∈ mm_AW := mm_aw (i := 1237) (by decide +kernel) rfl
theorem hd_103 : (mm_Y 103).cls ≠ "java/lang/invoke/MethodHandle" ∧ (mm_Y 103).cls ≠ "java/lang/invoke/VarHandle" ∧ (parseMethodDescriptor (mm_Y 103).desc).map (fun d => d.parameters.length) = some 2 := by decide +kernel
theorem gi_103 : Cond.code (mm_Y 103) (mm_B 103) (mm_nL 103) (mm_RT 103) ∈ mm_AW := mm_aw (i := 1229) (by decide +kernel) rfl
theorem hd_104 : (mm_Y 104).cls ≠ "java/lang/invoke/MethodHandle" ∧ (mm_Y 104).cls ≠ "java/lang/invoke/VarHandle" ∧ (parseMethodDescriptor (mm_Y 104).desc).map (fun d => d.parameters.length) = some 2 := by decide +kernel
theorem gi_104 : Cond.code (mm_Y 104) (mm_B 104) (mm_nL 104) (mm_RT 104) ∈ mm_AW := mm_aw (i := 464) (by decide +kernel) rfl
theorem hd_105 : (mm_Y 105).cls ≠ "java/lang/invoke/MethodHandle" ∧ (mm_Y 105).cls ≠ "java/lang/invoke/VarHandle" ∧ (parseMethodDescriptor (mm_Y 105).desc).map (fun d => d.parameters.length) = some 0 := by decide +kernel
theorem gi_105 : Cond.code (mm_Y 105) (mm_B 105) (mm_nL 105) (mm_RT 105) ∈ mm_AW := mm_aw (i := 1059) (by decide +kernel) rfl
theorem hd_106 : (mm_Y 106).cls ≠ "java/lang/invoke/MethodHandle" ∧ (mm_Y 106).cls ≠ "java/lang/invoke/VarHandle" ∧ (parseMethodDescriptor (mm_Y 106).desc).map (fun d => d.parameters.length) = some 3 := by decide +kernel
theorem gi_106 : Cond.code (mm_Y 106) (mm_B 106) (mm_nL 106) (mm_RT 106) ∈ mm_AW := mm_aw (i := 1064) (by decide +kernel) rfl
theorem hd_107 : (mm_Y 107).cls ≠ "java/lang/invoke/MethodHandle" ∧ (mm_Y 107).cls ≠ "java/lang/invoke/VarHandle" ∧ (parseMethodDescriptor (mm_Y 107).desc).map (fun d => d.parameters.length) = some 2 := by decide +kernel
theorem gi_107 : Cond.code (mm_Y 107) (mm_B 107) (mm_nL 107) (mm_RT 107) ∈ mm_AW := mm_aw (i := 1072) (by decide +kernel) rfl
theorem hd_108 : (mm_Y 108).cls ≠ "java/lang/invoke/MethodHandle" ∧ (mm_Y 108).cls ≠ "java/lang/invoke/VarHandle" ∧ (parseMethodDescriptor (mm_Y 108).desc).map (fun d => d.parameters.length) = some 2 := by decide +kernel
theorem gi_108 : Cond.code (mm_Y 108) (mm_B 108) (mm_nL 108) (mm_RT 108) ∈ mm_AW := mm_aw (i := 1080) (by decide +kernel) rfl
theorem hd_109 : (mm_Y 109).cls ≠ "java/lang/invoke/MethodHandle" ∧ (mm_Y 109).cls ≠ "java/lang/invoke/VarHandle" ∧ (parseMethodDescriptor (mm_Y 109).desc).map (fun d => d.parameters.length) = some 1 := by decide +kernel
theorem gi_109 : Cond.code (mm_Y 109) (mm_B 109) (mm_nL 109) (mm_RT 109) ∈ mm_AW := mm_aw (i := 1120) (by decide +kernel) rfl
theorem hd_110 : (mm_Y 110).cls ≠ "java/lang/invoke/MethodHandle" ∧ (mm_Y 110).cls ≠ "java/lang/invoke/VarHandle" ∧ (parseMethodDescriptor (mm_Y 110).desc).map (fun d => d.parameters.length) = some 2 := by decide +kernel
theorem gi_110 : Cond.code (mm_Y 110) (mm_B 110) (mm_nL 110) (mm_RT 110) ∈ mm_AW := mm_aw (i := 1128) (by decide +kernel) rfl
theorem hd_111 : (mm_Y 111).cls ≠ "java/lang/invoke/MethodHandle" ∧ (mm_Y 111).cls ≠ "java/lang/invoke/VarHandle" ∧ (parseMethodDescriptor (mm_Y 111).desc).map (fun d => d.parameters.length) = some 0 := by decide +kernel
theorem gi_111 : Cond.code (mm_Y 111) (mm_B 111) (mm_nL 111) (mm_RT 111) ∈ mm_AW := mm_aw (i := 1140) (by decide +kernel) rfl
theorem hd_112 : (mm_Y 112).cls ≠ "java/lang/invoke/MethodHandle" ∧ (mm_Y 112).cls ≠ "java/lang/invoke/VarHandle" ∧ (parseMethodDescriptor (mm_Y 112).desc).map (fun d => d.parameters.length) = some 0 := by decide +kernel
theorem gi_112 : Cond.code (mm_Y 112) (mm_B 112) (mm_nL 112) (mm_RT 112) ∈ mm_AW := mm_aw (i := 1144) (by decide +kernel) rfl
theorem hd_113 : (mm_Y 113).cls ≠ "java/lang/invoke/MethodHandle" ∧ (mm_Y 113).cls ≠ "java/lang/invoke/VarHandle" ∧ (parseMethodDescriptor (mm_Y 113).desc).map (fun d => d.parameters.length) = some 0 := by decide +kernel
theorem gi_113 : Cond.code (mm_Y 113) (mm_B 113) (mm_nL 113) (mm_RT 113) ∈ mm_AW := mm_aw (i := 1199) (by decide +kernel) rfl
theorem hd_114 : (mm_Y 114).cls ≠ "java/lang/invoke/MethodHandle" ∧ (mm_Y 114).cls ≠ "java/lang/invoke/VarHandle" ∧ (parseMethodDescriptor (mm_Y 114).desc).map (fun d => d.parameters.length) = some 1 := by decide +kernel
theorem gi_114 : Cond.code (mm_Y 114) (mm_B 114) (mm_nL 114) (mm_RT 114) ∈ mm_AW := mm_aw (i := 1207) (by decide +kernel) rfl
theorem hd_115 : (mm_Y 115).cls ≠ "java/lang/invoke/MethodHandle" ∧ (mm_Y 115).cls ≠ "java/lang/invoke/VarHandle" ∧ (parseMethodDescriptor (mm_Y 115).desc).map (fun d => d.parameters.length) = some 3 := by decide +kernel
theorem gi_115 : Cond.code (mm_Y 115) (mm_B 115) (mm_nL 115) (mm_RT 115) ∈ mm_AW := mm_aw (i := 1088) (by decide +kernel) rfl
theorem hd_116 : (mm_Y 116).cls ≠ "java/lang/invoke/MethodHandle" ∧ (mm_Y 116).cls ≠ "java/lang/invoke/VarHandle" ∧ (parseMethodDescriptor (mm_Y 116).desc).map (fun d => d.parameters.length) = some 3 := by decide +kernel
theorem gi_116 : Cond.code (mm_Y 116) (mm_B 116) (mm_nL 116) (mm_RT 116) ∈ mm_AW := mm_aw (i := 1102) (by decide +kernel) rfl
theorem hd_117 : (mm_Y 117).cls ≠ "java/lang/invoke/MethodHandle" ∧ (mm_Y 117).cls ≠ "java/lang/invoke/VarHandle" ∧ (parseMethodDescriptor (mm_Y 117).desc).map (fun d => d.parameters.length) = some 2 := by decide +kernel
theorem gi_117 : Cond.code (mm_Y 117) (mm_B 117) (mm_nL 117) (mm_RT 117) ∈ mm_AW := mm_aw (i := 1093) (by decide +kernel) rfl
theorem hd_118 : (mm_Y 118).cls ≠ "java/lang/invoke/MethodHandle" ∧ (mm_Y 118).cls ≠ "java/lang/invoke/VarHandle" ∧ (parseMethodDescriptor (mm_Y 118).desc).map (fun d => d.parameters.length) = some 1 := by decide +kernel
theorem gi_118 : Cond.code (mm_Y 118) (mm_B 118) (mm_nL 118) (mm_RT 118) ∈ mm_AW := mm_aw (i := 1097) (by decide +kernel) rfl
theorem hd_119 : (mm_Y 119).cls ≠ "java/lang/invoke/MethodHandle" ∧ (mm_Y 119).cls ≠ "java/lang/invoke/VarHandle" ∧ (parseMethodDescriptor (mm_Y 119).desc).map (fun d => d.parameters.length) = some 2 := by decide +kernel
theorem gi_119 : Cond.code (mm_Y 119) (mm_B 119) (mm_nL 119) (mm_RT 119) ∈ mm_AW := mm_aw (i := 1152) (by decide +kernel) rfl
theorem hd_120 : (mm_Y 120).cls ≠ "java/lang/invoke/MethodHandle" ∧ (mm_Y 120).cls ≠ "java/lang/invoke/VarHandle" ∧ (parseMethodDescriptor (mm_Y 120).desc).map (fun d => d.parameters.length) = some 2 := by decide +kernel
theorem gi_120 : Cond.code (mm_Y 120) (mm_B 120) (mm_nL 120) (mm_RT 120) ∈ mm_AW := mm_aw (i := 1156) (by decide +kernel) rfl
theorem hd_121 : (mm_Y 121).cls ≠ "java/lang/invoke/MethodHandle" ∧ (mm_Y 121).cls ≠ "java/lang/invoke/VarHandle" ∧ (parseMethodDescriptor (mm_Y 121).desc).map (fun d => d.parameters.length) = some 0 := by decide +kernel
theorem gi_121 : Cond.code (mm_Y 121) (mm_B 121) (mm_nL 121) (mm_RT 121) ∈ mm_AW := mm_aw (i := 142) (by decide +kernel) rfl
theorem hd_122 : (mm_Y 122).cls ≠ "java/lang/invoke/MethodHandle" ∧ (mm_Y 122).cls ≠ "java/lang/invoke/VarHandle" ∧ (parseMethodDescriptor (mm_Y 122).desc).map (fun d => d.parameters.length) = some 5 := by decide +kernel
theorem gi_122 : Cond.code (mm_Y 122) (mm_B 122) (mm_nL 122) (mm_RT 122) ∈ mm_AW := mm_aw (i := 886) (by decide +kernel) rfl
theorem hd_123 : (mm_Y 123).cls ≠ "java/lang/invoke/MethodHandle" ∧ (mm_Y 123).cls ≠ "java/lang/invoke/VarHandle" ∧ (parseMethodDescriptor (mm_Y 123).desc).map (fun d => d.parameters.length) = some 1 := by decide +kernel
theorem gi_123 : Cond.code (mm_Y 123) (mm_B 123) (mm_nL 123) (mm_RT 123) ∈ mm_AW := mm_aw (i := 894) (by decide +kernel) rfl
theorem hd_124 : (mm_Y 124).cls ≠ "java/lang/invoke/MethodHandle" ∧ (mm_Y 124).cls ≠ "java/lang/invoke/VarHandle" ∧ (parseMethodDescriptor (mm_Y 124).desc).map (fun d => d.parameters.length) = some 0 := by decide +kernel
theorem gi_124 : Cond.code (mm_Y 124) (mm_B 124) (mm_nL 124) (mm_RT 124) ∈ mm_AW := mm_aw (i := 898) (by decide +kernel) rfl
theorem hd_125 : (mm_Y 125).cls ≠ "java/lang/invoke/MethodHandle" ∧ (mm_Y 125).cls ≠ "java/lang/invoke/VarHandle" ∧ (parseMethodDescriptor (mm_Y 125).desc).map (fun d => d.parameters.length) = some 0 := by decide +kernel
theorem gi_125 : Cond.code (mm_Y 125) (mm_B 125) (mm_nL 125) (mm_RT 125) ∈ mm_AW := mm_aw (i := 910) (by decide +kernel) rfl
theorem hd_126 : (mm_Y 126).cls ≠ "java/lang/invoke/MethodHandle" ∧ (mm_Y 126).cls ≠ "java/lang/invoke/VarHandle" ∧ (parseMethodDescriptor (mm_Y 126).desc).map (fun d => d.parameters.length) = some 2 := by decide +kernel
theorem gi_126 : Cond.code (mm_Y 126) (mm_B 126) (mm_nL 126) (mm_RT 126) ∈ mm_AW := mm_aw (i := 914) (by decide +kernel) rfl
theorem hd_127 : (mm_Y 127).cls ≠ "java/lang/invoke/MethodHandle" ∧ (mm_Y 127).cls ≠ "java/lang/invoke/VarHandle" ∧ (parseMethodDescriptor (mm_Y 127).desc).map (fun d => d.parameters.length) = some 2 := by decide +kernel
theorem gi_127 : Cond.code (mm_Y 127) (mm_B 127) (mm_nL 127) (mm_RT 127) ∈ mm_AW := mm_aw (i := 931) (by decide +kernel) rfl
theorem hd_128 : (mm_Y 128).cls ≠ "java/lang/invoke/MethodHandle" ∧ (mm_Y 128).cls ≠ "java/lang/invoke/VarHandle" ∧ (parseMethodDescriptor (mm_Y 128).desc).map (fun d => d.parameters.length) = some 3 := by decide +kernel
theorem gi_128 : Cond.code (mm_Y 128) (mm_B 128) (mm_nL 128) (mm_RT 128) ∈ mm_AW := mm_aw (i := 939) (by decide +kernel) rfl
theorem hd_129 : (mm_Y 129).cls ≠ "java/lang/invoke/MethodHandle" ∧ (mm_Y 129).cls ≠ "java/lang/invoke/VarHandle" ∧ (parseMethodDescriptor (mm_Y 129).desc).map (fun d => d.parameters.length) = some 2 := by decide +kernel
theorem gi_129 : Cond.code (mm_Y 129) (mm_B 129) (mm_nL 129) (mm_RT 129) ∈ mm_AW := mm_aw (i := 986) (by decide +kernel) rfl
theorem hd_130 : (mm_Y 130).cls ≠ "java/lang/invoke/MethodHandle" ∧ (mm_Y 130).cls ≠ "java/lang/invoke/VarHandle" ∧ (parseMethodDescriptor (mm_Y 130).desc).map (fun d => d.parameters.length) = some 2 := by decide +kernel
theorem gi_130 : Cond.code (mm_Y 130) (mm_B 130) (mm_nL 130) (mm_RT 130) ∈ mm_AW := mm_aw (i := 1007) (by decide +kernel) rfl
theorem hd_131 : (mm_Y 131).cls ≠ "java/lang/invoke/MethodHandle" ∧ (mm_Y 131).cls ≠ "java/lang/invoke/VarHandle" ∧ (parseMethodDescriptor (mm_Y 131).desc).map (fun d => d.parameters.length) = some 1 := by decide +kernel
theorem gi_131 : Cond.code (mm_Y 131) (mm_B 131) (mm_nL 131) (mm_RT 131) ∈ mm_AW := mm_aw (i := 1014) (by decide +kernel) rfl
theorem hd_132 : (mm_Y 132).cls ≠ "java/lang/invoke/MethodHandle" ∧ (mm_Y 132).cls ≠ "java/lang/invoke/VarHandle" ∧ (parseMethodDescriptor (mm_Y 132).desc).map (fun d => d.parameters.length) = some 0 := by decide +kernel
theorem gi_132 : Cond.code (mm_Y 132) (mm_B 132) (mm_nL 132) (mm_RT 132) ∈ mm_AW := mm_aw (i := 1037) (by decide +kernel) rfl
theorem hd_133 : (mm_Y 133).cls ≠ "java/lang/invoke/MethodHandle" ∧ (mm_Y 133).cls ≠ "java/lang/invoke/VarHandle" ∧ (parseMethodDescriptor (mm_Y 133).desc).map (fun d => d.parameters.length) = some 4 := by decide +kernel
theorem gi_133 : Cond.code (mm_Y 133) (mm_B 133) (mm_nL 133) (mm_RT 133) ∈ mm_AW := mm_aw (i := 1045) (by decide +kernel) rfl
theorem hd_134 : (mm_Y 134).cls ≠ "java/lang/invoke/MethodHandle" ∧ (mm_Y 134).cls ≠ "java/lang/invoke/VarHandle" ∧ (parseMethodDescriptor (mm_Y 134).desc).map (fun d => d.parameters.length) = some 2 := by decide +kernel
theorem gi_134 : Cond.code (mm_Y 134) (mm_B 134) (mm_nL 134) (mm_RT 134) ∈ mm_AW := mm_aw (i := 1084) (by decide +kernel) rfl
theorem hd_135 : (mm_Y 135).cls ≠ "java/lang/invoke/MethodHandle" ∧ (mm_Y 135).cls ≠ "java/lang/invoke/VarHandle" ∧ (parseMethodDescriptor (mm_Y 135).desc).map (fun d => d.parameters.length) = some 2 := by decide +kernel
theorem gi_135 : Cond.code (mm_Y 135) (mm_B 135) (mm_nL 135) (mm_RT 135) ∈ mm_AW := mm_aw (i := 1112) (by decide +kernel) rfl
theorem hd_136 : (mm_Y 136).cls ≠ "java/lang/invoke/MethodHandle" ∧ (mm_Y 136).cls ≠ "java/lang/invoke/VarHandle" ∧ (parseMethodDescriptor (mm_Y 136).desc).map (fun d => d.parameters.length) = some 3 := by decide +kernel
theorem gi_136 : Cond.code (mm_Y 136) (mm_B 136) (mm_nL 136) (mm_RT 136) ∈ mm_AW := mm_aw (i := 1124) (by decide +kernel) rfl
theorem hd_137 : (mm_Y 137).cls ≠ "java/lang/invoke/MethodHandle" ∧ (mm_Y 137).cls ≠ "java/lang/invoke/VarHandle" ∧ (parseMethodDescriptor (mm_Y 137).desc).map (fun d => d.parameters.length) = some 1 := by decide +kernel
theorem gi_137 : Cond.code (mm_Y 137) (mm_B 137) (mm_nL 137) (mm_RT 137) ∈ mm_AW := mm_aw (i := 1132) (by decide +kernel) rfl
theorem hd_138 : (mm_Y 138).cls ≠ "java/lang/invoke/MethodHandle" ∧ (mm_Y 138).cls ≠ "java/lang/invoke/VarHandle" ∧ (parseMethodDescriptor (mm_Y 138).desc).map (fun d => d.parameters.length) = some 2 := by decide +kernel
theorem gi_138 : Cond.code (mm_Y 138) (mm_B 138) (mm_nL 138) (mm_RT 138) ∈ mm_AW := mm_aw (i := 1136) (by decide +kernel) rfl
theorem hd_139 : (mm_Y 139).cls ≠ "java/lang/invoke/MethodHandle" ∧ (mm_Y 139).cls ≠ "java/lang/invoke/VarHandle" ∧ (parseMethodDescriptor (mm_Y 139).desc).map (fun d => d.parameters.length) = some 3 := by decide +kernel
theorem gi_139 : Cond.code (mm_Y 139) (mm_B 139) (mm_nL 139) (mm_RT 139) ∈ mm_AW := mm_aw (i := 1148) (by decide +kernel) rfl
theorem hd_140 : (mm_Y 140).cls ≠ "java/lang/invoke/MethodHandle" ∧ (mm_Y 140).cls ≠ "java/lang/invoke/VarHandle" ∧ (parseMethodDescriptor (mm_Y 140).desc).map (fun d => d.parameters.length) = some 3 := by decide +kernel
theorem gi_140 : Cond.code (mm_Y 140) (mm_B 140) (mm_nL 140) (mm_RT 140) ∈ mm_AW := mm_aw (i := 1161) (by decide +kernel) rfl
theorem hd_141 : (mm_Y 141).cls ≠ "java/lang/invoke/MethodHandle" ∧ (mm_Y 141).cls ≠ "java/lang/invoke/VarHandle" ∧ (parseMethodDescriptor (mm_Y 141).desc).map (fun d => d.parameters.length) = some 3 := by decide +kernel
theorem gi_141 : Cond.code (mm_Y 141) (mm_B 141) (mm_nL 141) (mm_RT 141) ∈ mm_AW := mm_aw (i := 1178) (by decide +kernel) rfl
theorem hd_142 : (mm_Y 142).cls ≠ "java/lang/invoke/MethodHandle" ∧ (mm_Y 142).cls ≠ "java/lang/invoke/VarHandle" ∧ (parseMethodDescriptor (mm_Y 142).desc).map (fun d => d.parameters.length) = some 1 := by decide +kernel
theorem gi_142 : Cond.code (mm_Y 142) (mm_B 142) (mm_nL 142) (mm_RT 142) ∈ mm_AW := mm_aw (i := 1195) (by decide +kernel) rfl
theorem hd_143 : (mm_Y 143).cls ≠ "java/lang/invoke/MethodHandle" ∧ (mm_Y 143).cls ≠ "java/lang/invoke/VarHandle" ∧ (parseMethodDescriptor (mm_Y 143).desc).map (fun d => d.parameters.length) = some 2 := by decide +kernel
theorem gi_143 : Cond.code (mm_Y 143) (mm_B 143) (mm_nL 143) (mm_RT 143) ∈ mm_AW := mm_aw (i := 1203) (by decide +kernel) rfl
theorem hd_144 : (mm_Y 144).cls ≠ "java/lang/invoke/MethodHandle" ∧ (mm_Y 144).cls ≠ "java/lang/invoke/VarHandle" ∧ (parseMethodDescriptor (mm_Y 144).desc).map (fun d => d.parameters.length) = some 2 := by decide +kernel
theorem gi_144 : Cond.code (mm_Y 144) (mm_B 144) (mm_nL 144) (mm_RT 144) ∈ mm_AW := mm_aw (i := 1212) (by decide +kernel) rfl
theorem hd_145 : (mm_Y 145).cls ≠ "java/lang/invoke/MethodHandle" ∧ (mm_Y 145).cls ≠ "java/lang/invoke/VarHandle" ∧ (parseMethodDescriptor (mm_Y 145).desc).map (fun d => d.parameters.length) = some 1 := by decide +kernel
theorem gi_145 : Cond.code (mm_Y 145) (mm_B 145) (mm_nL 145) (mm_RT 145) ∈ mm_AW := mm_aw (i := 1233) (by decide +kernel) rfl
theorem hd_146 : (mm_Y 146).cls ≠ "java/lang/invoke/MethodHandle" ∧ (mm_Y 146).cls ≠ "java/lang/invoke/VarHandle" ∧ (parseMethodDescriptor (mm_Y 146).desc).map (fun d => d.parameters.length) = some 1 := by decide +kernel
theorem gi_146 : Cond.code (mm_Y 146) (mm_B 146) (mm_nL 146) (mm_RT 146) ∈ mm_AW := mm_aw (i := 1241) (by decide +kernel) rfl
theorem hd_147 : (mm_Y 147).cls ≠ "java/lang/invoke/MethodHandle" ∧ (mm_Y 147).cls ≠ "java/lang/invoke/VarHandle" ∧ (parseMethodDescriptor (mm_Y 147).desc).map (fun d => d.parameters.length) = some 3 := by decide +kernel
theorem gi_147 : Cond.code (mm_Y 147) (mm_B 147) (mm_nL 147) (mm_RT 147) ∈ mm_AW := mm_aw (i := 1249) (by decide +kernel) rfl
theorem hd_148 : (mm_Y 148).cls ≠ "java/lang/invoke/MethodHandle" ∧ (mm_Y 148).cls ≠ "java/lang/invoke/VarHandle" ∧ (parseMethodDescriptor (mm_Y 148).desc).map (fun d => d.parameters.length) = some 2 := by decide +kernel
theorem gi_148 : Cond.code (mm_Y 148) (mm_B 148) (mm_nL 148) (mm_RT 148) ∈ mm_AW := mm_aw (i := 1262) (by decide +kernel) rfl
theorem hd_149 : (mm_Y 149).cls ≠ "java/lang/invoke/MethodHandle" ∧ (mm_Y 149).cls ≠ "java/lang/invoke/VarHandle" ∧ (parseMethodDescriptor (mm_Y 149).desc).map (fun d => d.parameters.length) = some 1 := by decide +kernel
theorem gi_149 : Cond.code (mm_Y 149) (mm_B 149) (mm_nL 149) (mm_RT 149) ∈ mm_AW := mm_aw (i := 1266) (by decide +kernel) rfl
theorem hd_150 : (mm_Y 150).cls ≠ "java/lang/invoke/MethodHandle" ∧ (mm_Y 150).cls ≠ "java/lang/invoke/VarHandle" ∧ (parseMethodDescriptor (mm_Y 150).desc).map (fun d => d.parameters.length) = some 4 := by decide +kernel
theorem gi_150 : Cond.code (mm_Y 150) (mm_B 150) (mm_nL 150) (mm_RT 150) ∈ mm_AW := mm_aw (i := 1270) (by decide +kernel) rfl
theorem hd_151 : (mm_Y 151).cls ≠ "java/lang/invoke/MethodHandle" ∧ (mm_Y 151).cls ≠ "java/lang/invoke/VarHandle" ∧ (parseMethodDescriptor (mm_Y 151).desc).map (fun d => d.parameters.length) = some 3 := by decide +kernel
theorem gi_151 : Cond.code (mm_Y 151) (mm_B 151) (mm_nL 151) (mm_RT 151) ∈ mm_AW := mm_aw (i := 1274) (by decide +kernel) rfl
theorem hd_152 : (mm_Y 152).cls ≠ "java/lang/invoke/MethodHandle" ∧ (mm_Y 152).cls ≠ "java/lang/invoke/VarHandle" ∧ (parseMethodDescriptor (mm_Y 152).desc).map (fun d => d.parameters.length) = some 0 := by decide +kernel
theorem gi_152 : Cond.code (mm_Y 152) (mm_B 152) (mm_nL 152) (mm_RT 152) ∈ mm_AW := mm_aw (i := 1282) (by decide +kernel) rfl
theorem hd_153 : (mm_Y 153).cls ≠ "java/lang/invoke/MethodHandle" ∧ (mm_Y 153).cls ≠ "java/lang/invoke/VarHandle" ∧ (parseMethodDescriptor (mm_Y 153).desc).map (fun d => d.parameters.length) = some 4 := by decide +kernel
theorem gi_153 : Cond.code (mm_Y 153) (mm_B 153) (mm_nL 153) (mm_RT 153) ∈ mm_AW := mm_aw (i := 1286) (by decide +kernel) rfl
theorem hd_154 : (mm_Y 154).cls ≠ "java/lang/invoke/MethodHandle" ∧ (mm_Y 154).cls ≠ "java/lang/invoke/VarHandle" ∧ (parseMethodDescriptor (mm_Y 154).desc).map (fun d => d.parameters.length) = some 3 := by decide +kernel
theorem gi_154 : Cond.code (mm_Y 154) (mm_B 154) (mm_nL 154) (mm_RT 154) ∈ mm_AW := mm_aw (i := 1311) (by decide +kernel) rfl
theorem hd_155 : (mm_Y 155).cls ≠ "java/lang/invoke/MethodHandle" ∧ (mm_Y 155).cls ≠ "java/lang/invoke/VarHandle" ∧ (parseMethodDescriptor (mm_Y 155).desc).map (fun d => d.parameters.length) = some 1 := by decide +kernel
theorem gi_155 : Cond.code (mm_Y 155) (mm_B 155) (mm_nL 155) (mm_RT 155) ∈ mm_AW := mm_aw (i := 1324) (by decide +kernel) rfl
theorem hd_156 : (mm_Y 156).cls ≠ "java/lang/invoke/MethodHandle" ∧ (mm_Y 156).cls ≠ "java/lang/invoke/VarHandle" ∧ (parseMethodDescriptor (mm_Y 156).desc).map (fun d => d.parameters.length) = some 1 := by decide +kernel
theorem gi_156 : Cond.code (mm_Y 156) (mm_B 156) (mm_nL 156) (mm_RT 156) ∈ mm_AW := mm_aw (i := 1332) (by decide +kernel) rfl
theorem hd_157 : (mm_Y 157).cls ≠ "java/lang/invoke/MethodHandle" ∧ (mm_Y 157).cls ≠ "java/lang/invoke/VarHandle" ∧ (parseMethodDescriptor (mm_Y 157).desc).map (fun d => d.parameters.length) = some 1 := by decide +kernel
theorem gi_157 : Cond.code (mm_Y 157) (mm_B 157) (mm_nL 157) (mm_RT 157) ∈ mm_AW := mm_aw (i := 1340) (by decide +kernel) rfl
theorem hd_158 : (mm_Y 158).cls ≠ "java/lang/invoke/MethodHandle" ∧ (mm_Y 158).cls ≠ "java/lang/invoke/VarHandle" ∧ (parseMethodDescriptor (mm_Y 158).desc).map (fun d => d.parameters.length) = some 1 := by decide +kernel
theorem gi_158 : Cond.code (mm_Y 158) (mm_B 158) (mm_nL 158) (mm_RT 158) ∈ mm_AW := mm_aw (i := 1348) (by decide +kernel) rfl
theorem hd_159 : (mm_Y 159).cls ≠ "java/lang/invoke/MethodHandle" ∧ (mm_Y 159).cls ≠ "java/lang/invoke/VarHandle" ∧ (parseMethodDescriptor (mm_Y 159).desc).map (fun d => d.parameters.length) = some 0 := by decide +kernel
theorem gi_159 : Cond.code (mm_Y 159) (mm_B 159) (mm_nL 159) (mm_RT 159) ∈ mm_AW := mm_aw (i := 1370) (by decide +kernel) rfl
theorem hd_160 : (mm_Y 160).cls ≠ "java/lang/invoke/MethodHandle" ∧ (mm_Y 160).cls ≠ "java/lang/invoke/VarHandle" ∧ (parseMethodDescriptor (mm_Y 160).desc).map (fun d => d.parameters.length) = some 2 := by decide +kernel
theorem gi_160 : Cond.code (mm_Y 160) (mm_B 160) (mm_nL 160) (mm_RT 160) ∈ mm_AW := mm_aw (i := 1253) (by decide +kernel) rfl
theorem hd_161 : (mm_Y 161).cls ≠ "java/lang/invoke/MethodHandle" ∧ (mm_Y 161).cls ≠ "java/lang/invoke/VarHandle" ∧ (parseMethodDescriptor (mm_Y 161).desc).map (fun d => d.parameters.length) = some 3 := by decide +kernel
theorem gi_161 : Cond.code (mm_Y 161) (mm_B 161) (mm_nL 161) (mm_RT 161) ∈ mm_AW := mm_aw (i := 1290) (by decide +kernel) rfl
theorem hd_162 : (mm_Y 162).cls ≠ "java/lang/invoke/MethodHandle" ∧ (mm_Y 162).cls ≠ "java/lang/invoke/VarHandle" ∧ (parseMethodDescriptor (mm_Y 162).desc).map (fun d => d.parameters.length) = some 1 := by decide +kernel
theorem gi_162 : Cond.code (mm_Y 162) (mm_B 162) (mm_nL 162) (mm_RT 162) ∈ mm_AW := mm_aw (i := 935) (by decide +kernel) rfl
theorem hd_163 : (mm_Y 163).cls ≠ "java/lang/invoke/MethodHandle" ∧ (mm_Y 163).cls ≠ "java/lang/invoke/VarHandle" ∧ (parseMethodDescriptor (mm_Y 163).desc).map (fun d => d.parameters.length) = some 1 := by decide +kernel
theorem gi_163 : Cond.code (mm_Y 163) (mm_B 163) (mm_nL 163) (mm_RT 163) ∈ mm_AW := mm_aw (i := 918) (by decide +kernel) rfl
theorem hd_164 : (mm_Y 164).cls ≠ "java/lang/invoke/MethodHandle" ∧ (mm_Y 164).cls ≠ "java/lang/invoke/VarHandle" ∧ (parseMethodDescriptor (mm_Y 164).desc).map (fun d => d.parameters.length) = some 1 := by decide +kernel
theorem gi_164 : Cond.code (mm_Y 164) (mm_B 164) (mm_nL 164) (mm_RT 164) ∈ mm_AW := mm_aw (i := 1010) (by decide +kernel) rfl
theorem hd_165 : (mm_Y 165).cls ≠ "java/lang/invoke/MethodHandle" ∧ (mm_Y 165).cls ≠ "java/lang/invoke/VarHandle" ∧ (parseMethodDescriptor (mm_Y 165).desc).map (fun d => d.parameters.length) = some 1 := by decide +kernel
theorem gi_165 : Cond.code (mm_Y 165) (mm_B 165) (mm_nL 165) (mm_RT 165) ∈ mm_AW := mm_aw (i := 942) (by decide +kernel) rfl
theorem hd_166 : (mm_Y 166).cls ≠ "java/lang/invoke/MethodHandle" ∧ (mm_Y 166).cls ≠ "java/lang/invoke/VarHandle" ∧ (parseMethodDescriptor (mm_Y 166).desc).map (fun d => d.parameters.length) = some 3 := by decide +kernel
theorem gi_166 : Cond.code (mm_Y 166) (mm_B 166) (mm_nL 166) (mm_RT 166) ∈ mm_AW := mm_aw (i := 749) (by decide +kernel) rfl
theorem hd_167 : (mm_Y 167).cls ≠ "java/lang/invoke/MethodHandle" ∧ (mm_Y 167).cls ≠ "java/lang/invoke/VarHandle" ∧ (parseMethodDescriptor (mm_Y 167).desc).map (fun d => d.parameters.length) = some 3 := by decide +kernel
theorem gi_167 : Cond.code (mm_Y 167) (mm_B 167) (mm_nL 167) (mm_RT 167) ∈ mm_AW := mm_aw (i := 411) (by decide +kernel) rfl
theorem hd_168 : (mm_Y 168).cls ≠ "java/lang/invoke/MethodHandle" ∧ (mm_Y 168).cls ≠ "java/lang/invoke/VarHandle" ∧ (parseMethodDescriptor (mm_Y 168).desc).map (fun d => d.parameters.length) = some 0 := by decide +kernel
theorem gi_168 : Cond.code (mm_Y 168) (mm_B 168) (mm_nL 168) (mm_RT 168) ∈ mm_AW := mm_aw (i := 1380) (by decide +kernel) rfl
theorem hd_169 : (mm_Y 169).cls ≠ "java/lang/invoke/MethodHandle" ∧ (mm_Y 169).cls ≠ "java/lang/invoke/VarHandle" ∧ (parseMethodDescriptor (mm_Y 169).desc).map (fun d => d.parameters.length) = some 5 := by decide +kernel
theorem gi_169 : Cond.code (mm_Y 169) (mm_B 169) (mm_nL 169) (mm_RT 169) ∈ mm_AW := mm_aw (i := 1659) (by decide +kernel) rfl
theorem hd_170 : (mm_Y 170).cls ≠ "java/lang/invoke/MethodHandle" ∧ (mm_Y 170).cls ≠ "java/lang/invoke/VarHandle" ∧ (parseMethodDescriptor (mm_Y 170).desc).map (fun d => d.parameters.length) = some 1 := by decide +kernel
theorem gi_170 : Cond.code (mm_Y 170) (mm_B 170) (mm_nL 170) (mm_RT 170) ∈ mm_AW := mm_aw (i := 1663) (by decide +kernel) rfl
theorem hd_171 : (mm_Y 171).cls ≠ "java/lang/invoke/MethodHandle" ∧ (mm_Y 171).cls ≠ "java/lang/invoke/VarHandle" ∧ (parseMethodDescriptor (mm_Y 171).desc).map (fun d => d.parameters.length) = some 1 := by decide +kernel
theorem gi_171 : Cond.code (mm_Y 171) (mm_B 171) (mm_nL 171) (mm_RT 171) ∈ mm_AW := mm_aw (i := 1667) (by decide +kernel) rfl
theorem hd_172 : (mm_Y 172).cls ≠ "java/lang/invoke/MethodHandle" ∧ (mm_Y 172).cls ≠ "java/lang/invoke/VarHandle" ∧ (parseMethodDescriptor (mm_Y 172).desc).map (fun d => d.parameters.length) = some 1 := by decide +kernel
theorem gi_172 : Cond.code (mm_Y 172) (mm_B 172) (mm_nL 172) (mm_RT 172) ∈ mm_AW := mm_aw (i := 1679) (by decide +kernel) rfl
theorem hd_173 : (mm_Y 173).cls ≠ "java/lang/invoke/MethodHandle" ∧ (mm_Y 173).cls ≠ "java/lang/invoke/VarHandle" ∧ (parseMethodDescriptor (mm_Y 173).desc).map (fun d => d.parameters.length) = some 1 := by decide +kernel
theorem gi_173 : Cond.code (mm_Y 173) (mm_B 173) (mm_nL 173) (mm_RT 173) ∈ mm_AW := mm_aw (i := 1689) (by decide +kernel) rfl
theorem hd_174 : (mm_Y 174).cls ≠ "java/lang/invoke/MethodHandle" ∧ (mm_Y 174).cls ≠ "java/lang/invoke/VarHandle" ∧ (parseMethodDescriptor (mm_Y 174).desc).map (fun d => d.parameters.length) = some 1 := by decide +kernel
theorem gi_174 : Cond.code (mm_Y 174) (mm_B 174) (mm_nL 174) (mm_RT 174) ∈ mm_AW := mm_aw (i := 1686) (by decide +kernel) rfl
theorem hd_175 : (mm_Y 175).cls ≠ "java/lang/invoke/MethodHandle" ∧ (mm_Y 175).cls ≠ "java/lang/invoke/VarHandle" ∧ (parseMethodDescriptor (mm_Y 175).desc).map (fun d => d.parameters.length) = some 2 := by decide +kernel
theorem gi_175 : Cond.code (mm_Y 175) (mm_B 175) (mm_nL 175) (mm_RT 175) ∈ mm_AW := mm_aw (i := 1391) (by decide +kernel) rfl
theorem hd_176 : (mm_Y 176).cls ≠ "java/lang/invoke/MethodHandle" ∧ (mm_Y 176).cls ≠ "java/lang/invoke/VarHandle" ∧ (parseMethodDescriptor (mm_Y 176).desc).map (fun d => d.parameters.length) = some 7 := by decide +kernel
theorem gi_176 : Cond.code (mm_Y 176) (mm_B 176) (mm_nL 176) (mm_RT 176) ∈ mm_AW := mm_aw (i := 1388) (by decide +kernel) rfl
theorem hd_177 : (mm_Y 177).cls ≠ "java/lang/invoke/MethodHandle" ∧ (mm_Y 177).cls ≠ "java/lang/invoke/VarHandle" ∧ (parseMethodDescriptor (mm_Y 177).desc).map (fun d => d.parameters.length) = some 4 := by decide +kernel
theorem gi_177 : Cond.code (mm_Y 177) (mm_B 177) (mm_nL 177) (mm_RT 177) ∈ mm_AW := mm_aw (i := 1683) (by decide +kernel) rfl
theorem hd_178 : (mm_Y 178).cls ≠ "java/lang/invoke/MethodHandle" ∧ (mm_Y 178).cls ≠ "java/lang/invoke/VarHandle" ∧ (parseMethodDescriptor (mm_Y 178).desc).map (fun d => d.parameters.length) = some 0 := by decide +kernel
theorem gi_178 : Cond.code (mm_Y 178) (mm_B 178) (mm_nL 178) (mm_RT 178) ∈ mm_AW := mm_aw (i := 1675) (by decide +kernel) rfl
theorem hd_179 : (mm_Y 179).cls ≠ "java/lang/invoke/MethodHandle" ∧ (mm_Y 179).cls ≠ "java/lang/invoke/VarHandle" ∧ (parseMethodDescriptor (mm_Y 179).desc).map (fun d => d.parameters.length) = some 3 := by decide +kernel
theorem gi_179 : Cond.code (mm_Y 179) (mm_B 179) (mm_nL 179) (mm_RT 179) ∈ mm_AW := mm_aw (i := 1693) (by decide +kernel) rfl
theorem hd_180 : (mm_Y 180).cls ≠ "java/lang/invoke/MethodHandle" ∧ (mm_Y 180).cls ≠ "java/lang/invoke/VarHandle" ∧ (parseMethodDescriptor (mm_Y 180).desc).map (fun d => d.parameters.length) = some 1 := by decide +kernel
theorem gi_180 : Cond.code (mm_Y 180) (mm_B 180) (mm_nL 180) (mm_RT 180) ∈ mm_AW := mm_aw (i := 1697) (by decide +kernel) rfl
theorem hd_181 : (mm_Y 181).cls ≠ "java/lang/invoke/MethodHandle" ∧ (mm_Y 181).cls ≠ "java/lang/invoke/VarHandle" ∧ (parseMethodDescriptor (mm_Y 181).desc).map (fun d => d.parameters.length) = some 1 := by decide +kernel
theorem gi_181 : Cond.code (mm_Y 181) (mm_B 181) (mm_nL 181) (mm_RT 181) ∈ mm_AW := mm_aw (i := 1709) (by decide +kernel) rfl
theorem hd_182 : (mm_Y 182).cls ≠ "java/lang/invoke/MethodHandle" ∧ (mm_Y 182).cls ≠ "java/lang/invoke/VarHandle" ∧ (parseMethodDescriptor (mm_Y 182).desc).map (fun d => d.parameters.length) = some 2 := by decide +kernel
theorem gi_182 : Cond.code (mm_Y 182) (mm_B 182) (mm_nL 182) (mm_RT 182) ∈ mm_AW := mm_aw (i := 1717) (by decide +kernel) rfl
theorem hd_183 : (mm_Y 183).cls ≠ "java/lang/invoke/MethodHandle" ∧ (mm_Y 183).cls ≠ "java/lang/invoke/VarHandle" ∧ (parseMethodDescriptor (mm_Y 183).desc).map (fun d => d.parameters.length) = some 0 := by decide +kernel
theorem gi_183 : Cond.code (mm_Y 183) (mm_B 183) (mm_nL 183) (mm_RT 183) ∈ mm_AW := mm_aw (i := 1705) (by decide +kernel) rfl
theorem hd_184 : (mm_Y 184).cls ≠ "java/lang/invoke/MethodHandle" ∧ (mm_Y 184).cls ≠ "java/lang/invoke/VarHandle" ∧ (parseMethodDescriptor (mm_Y 184).desc).map (fun d => d.parameters.length) = some 1 := by decide +kernel
theorem gi_184 : Cond.code (mm_Y 184) (mm_B 184) (mm_nL 184) (mm_RT 184) ∈ mm_AW := mm_aw (i := 1721) (by decide +kernel) rfl
theorem hd_185 : (mm_Y 185).cls ≠ "java/lang/invoke/MethodHandle" ∧ (mm_Y 185).cls ≠ "java/lang/invoke/VarHandle" ∧ (parseMethodDescriptor (mm_Y 185).desc).map (fun d => d.parameters.length) = some 1 := by decide +kernel
theorem gi_185 : Cond.code (mm_Y 185) (mm_B 185) (mm_nL 185) (mm_RT 185) ∈ mm_AW := mm_aw (i := 1385) (by decide +kernel) rfl
theorem hd_186 : (mm_Y 186).cls ≠ "java/lang/invoke/MethodHandle" ∧ (mm_Y 186).cls ≠ "java/lang/invoke/VarHandle" ∧ (parseMethodDescriptor (mm_Y 186).desc).map (fun d => d.parameters.length) = some 0 := by decide +kernel
theorem gi_186 : Cond.code (mm_Y 186) (mm_B 186) (mm_nL 186) (mm_RT 186) ∈ mm_AW := mm_aw (i := 1671) (by decide +kernel) rfl
theorem hd_187 : (mm_Y 187).cls ≠ "java/lang/invoke/MethodHandle" ∧ (mm_Y 187).cls ≠ "java/lang/invoke/VarHandle" ∧ (parseMethodDescriptor (mm_Y 187).desc).map (fun d => d.parameters.length) = some 0 := by decide +kernel
theorem gi_187 : Cond.code (mm_Y 187) (mm_B 187) (mm_nL 187) (mm_RT 187) ∈ mm_AW := mm_aw (i := 1769) (by decide +kernel) rfl
theorem hd_188 : (mm_Y 188).cls ≠ "java/lang/invoke/MethodHandle" ∧ (mm_Y 188).cls ≠ "java/lang/invoke/VarHandle" ∧ (parseMethodDescriptor (mm_Y 188).desc).map (fun d => d.parameters.length) = some 2 := by decide +kernel
theorem gi_188 : Cond.code (mm_Y 188) (mm_B 188) (mm_nL 188) (mm_RT 188) ∈ mm_AW := mm_aw (i := 1761) (by decide +kernel) rfl
theorem hd_189 : (mm_Y 189).cls ≠ "java/lang/invoke/MethodHandle" ∧ (mm_Y 189).cls ≠ "java/lang/invoke/VarHandle" ∧ (parseMethodDescriptor (mm_Y 189).desc).map (fun d => d.parameters.length) = some 2 := by decide +kernel
theorem gi_189 : Cond.code (mm_Y 189) (mm_B 189) (mm_nL 189) (mm_RT 189) ∈ mm_AW := mm_aw (i := 1765) (by decide +kernel) rfl
theorem hd_190 : (mm_Y 190).cls ≠ "java/lang/invoke/MethodHandle" ∧ (mm_Y 190).cls ≠ "java/lang/invoke/VarHandle" ∧ (parseMethodDescriptor (mm_Y 190).desc).map (fun d => d.parameters.length) = some 0 := by decide +kernel
theorem gi_190 : Cond.code (mm_Y 190) (mm_B 190) (mm_nL 190) (mm_RT 190) ∈ mm_AW := mm_aw (i := 1757) (by decide +kernel) rfl
theorem hd_191 : (mm_Y 191).cls ≠ "java/lang/invoke/MethodHandle" ∧ (mm_Y 191).cls ≠ "java/lang/invoke/VarHandle" ∧ (parseMethodDescriptor (mm_Y 191).desc).map (fun d => d.parameters.length) = some 2 := by decide +kernel
theorem gi_191 : Cond.code (mm_Y 191) (mm_B 191) (mm_nL 191) (mm_RT 191) ∈ mm_AW := mm_aw (i := 1725) (by decide +kernel) rfl
theorem hd_192 : (mm_Y 192).cls ≠ "java/lang/invoke/MethodHandle" ∧ (mm_Y 192).cls ≠ "java/lang/invoke/VarHandle" ∧ (parseMethodDescriptor (mm_Y 192).desc).map (fun d => d.parameters.length) = some 0 := by decide +kernel
theorem gi_192 : Cond.code (mm_Y 192) (mm_B 192) (mm_nL 192) (mm_RT 192) ∈ mm_AW := mm_aw (i := 1701) (by decide +kernel) rfl
theorem hd_193 : (mm_Y 193).cls ≠ "java/lang/invoke/MethodHandle" ∧ (mm_Y 193).cls ≠ "java/lang/invoke/VarHandle" ∧ (parseMethodDescriptor (mm_Y 193).desc).map (fun d => d.parameters.length) = some 2 := by decide +kernel
theorem gi_193 : Cond.code (mm_Y 193) (mm_B 193) (mm_nL 193) (mm_RT 193) ∈ mm_AW := mm_aw (i := 1713) (by decide +kernel) rfl
theorem hd_194 : (mm_Y 194).cls ≠ "java/lang/invoke/MethodHandle" ∧ (mm_Y 194).cls ≠ "java/lang/invoke/VarHandle" ∧ (parseMethodDescriptor (mm_Y 194).desc).map (fun d => d.parameters.length) = some 0 := by decide +kernel
theorem gi_194 : Cond.code (mm_Y 194) (mm_B 194) (mm_nL 194) (mm_RT 194) ∈ mm_AW := mm_aw (i := 1729) (by decide +kernel) rfl
theorem hd_195 : (mm_Y 195).cls ≠ "java/lang/invoke/MethodHandle" ∧ (mm_Y 195).cls ≠ "java/lang/invoke/VarHandle" ∧ (parseMethodDescriptor (mm_Y 195).desc).map (fun d => d.parameters.length) = some 1 := by decide +kernel
theorem gi_195 : Cond.code (mm_Y 195) (mm_B 195) (mm_nL 195) (mm_RT 195) ∈ mm_AW := mm_aw (i := 1733) (by decide +kernel) rfl
theorem hd_196 : (mm_Y 196).cls ≠ "java/lang/invoke/MethodHandle" ∧ (mm_Y 196).cls ≠ "java/lang/invoke/VarHandle" ∧ (parseMethodDescriptor (mm_Y 196).desc).map (fun d => d.parameters.length) = some 0 := by decide +kernel
theorem gi_196 : Cond.code (mm_Y 196) (mm_B 196) (mm_nL 196) (mm_RT 196) ∈ mm_AW := mm_aw (i := 1753) (by decide +kernel) rfl
theorem hd_197 : (mm_Y 197).cls ≠ "java/lang/invoke/MethodHandle" ∧ (mm_Y 197).cls ≠ "java/lang/invoke/VarHandle" ∧ (parseMethodDescriptor (mm_Y 197).desc).map (fun d => d.parameters.length) = some 2 := by decide +kernel
theorem gi_197 : Cond.code (mm_Y 197) (mm_B 197) (mm_nL 197) (mm_RT 197) ∈ mm_AW := mm_aw (i := 1745) (by decide +kernel) rfl
theorem hd_198 : (mm_Y 198).cls ≠ "java/lang/invoke/MethodHandle" ∧ (mm_Y 198).cls ≠ "java/lang/invoke/VarHandle" ∧ (parseMethodDescriptor (mm_Y 198).desc).map (fun d => d.parameters.length) = some 1 := by decide +kernel
theorem gi_198 : Cond.code (mm_Y 198) (mm_B 198) (mm_nL 198) (mm_RT 198) ∈ mm_AW := mm_aw (i := 1749) (by decide +kernel) rfl
theorem hd_199 : (mm_Y 199).cls ≠ "java/lang/invoke/MethodHandle" ∧ (mm_Y 199).cls ≠ "java/lang/invoke/VarHandle" ∧ (parseMethodDescriptor (mm_Y 199).desc).map (fun d => d.parameters.length) = some 0 := by decide +kernel
theorem gi_199 : Cond.code (mm_Y 199) (mm_B 199) (mm_nL 199) (mm_RT 199) ∈ mm_AW := mm_aw (i := 1737) (by decide +kernel) rfl
theorem hd_200 : (mm_Y 200).cls ≠ "java/lang/invoke/MethodHandle" ∧ (mm_Y 200).cls ≠ "java/lang/invoke/VarHandle" ∧ (parseMethodDescriptor (mm_Y 200).desc).map (fun d => d.parameters.length) = some 0 := by decide +kernel
theorem gi_200 : Cond.code (mm_Y 200) (mm_B 200) (mm_nL 200) (mm_RT 200) ∈ mm_AW := mm_aw (i := 1741) (by decide +kernel) rfl
theorem hd_201 : (mm_Y 201).cls ≠ "java/lang/invoke/MethodHandle" ∧ (mm_Y 201).cls ≠ "java/lang/invoke/VarHandle" ∧ (parseMethodDescriptor (mm_Y 201).desc).map (fun d => d.parameters.length) = some 2 := by decide +kernel
theorem gi_201 : Cond.code (mm_Y 201) (mm_B 201) (mm_nL 201) (mm_RT 201) ∈ mm_AW := mm_aw (i := 1859) (by decide +kernel) rfl
theorem hd_202 : (mm_Y 202).cls ≠ "java/lang/invoke/MethodHandle" ∧ (mm_Y 202).cls ≠ "java/lang/invoke/VarHandle" ∧ (parseMethodDescriptor (mm_Y 202).desc).map (fun d => d.parameters.length) = some 2 := by decide +kernel
theorem gi_202 : Cond.code (mm_Y 202) (mm_B 202) (mm_nL 202) (mm_RT 202) ∈ mm_AW := mm_aw (i := 1407) (by decide +kernel) rfl
theorem hd_203 : (mm_Y 203).cls ≠ "java/lang/invoke/MethodHandle" ∧ (mm_Y 203).cls ≠ "java/lang/invoke/VarHandle" ∧ (parseMethodDescriptor (mm_Y 203).desc).map (fun d => d.parameters.length) = some 1 := by decide +kernel
theorem gi_203 : Cond.code (mm_Y 203) (mm_B 203) (mm_nL 203) (mm_RT 203) ∈ mm_AW := mm_aw (i := 1404) (by decide +kernel) rfl
theorem hd_204 : (mm_Y 204).cls ≠ "java/lang/invoke/MethodHandle" ∧ (mm_Y 204).cls ≠ "java/lang/invoke/VarHandle" ∧ (parseMethodDescriptor (mm_Y 204).desc).map (fun d => d.parameters.length) = some 0 := by decide +kernel
theorem gi_204 : Cond.code (mm_Y 204) (mm_B 204) (mm_nL 204) (mm_RT 204) ∈ mm_AW := mm_aw (i := 1400) (by decide +kernel) rfl
theorem hd_205 : (mm_Y 205).cls ≠ "java/lang/invoke/MethodHandle" ∧ (mm_Y 205).cls ≠ "java/lang/invoke/VarHandle" ∧ (parseMethodDescriptor (mm_Y 205).desc).map (fun d => d.parameters.length) = some 0 := by decide +kernel
theorem gi_205 : Cond.code (mm_Y 205) (mm_B 205) (mm_nL 205) (mm_RT 205) ∈ mm_AW := mm_aw (i := 1396) (by decide +kernel) rfl
theorem hd_206 : (mm_Y 206).cls ≠ "java/lang/invoke/MethodHandle" ∧ (mm_Y 206).cls ≠ "java/lang/invoke/VarHandle" ∧ (parseMethodDescriptor (mm_Y 206).desc).map (fun d => d.parameters.length) = some 3 := by decide +kernel
theorem gi_206 : Cond.code (mm_Y 206) (mm_B 206) (mm_nL 206) (mm_RT 206) ∈ mm_AW := mm_aw (i := 1784) (by decide +kernel) rfl
theorem hd_207 : (mm_Y 207).cls ≠ "java/lang/invoke/MethodHandle" ∧ (mm_Y 207).cls ≠ "java/lang/invoke/VarHandle" ∧ (parseMethodDescriptor (mm_Y 207).desc).map (fun d => d.parameters.length) = some 3 := by decide +kernel
theorem gi_207 : Cond.code (mm_Y 207) (mm_B 207) (mm_nL 207) (mm_RT 207) ∈ mm_AW := mm_aw (i := 1862) (by decide +kernel) rfl
theorem hd_208 : (mm_Y 208).cls ≠ "java/lang/invoke/MethodHandle" ∧ (mm_Y 208).cls ≠ "java/lang/invoke/VarHandle" ∧ (parseMethodDescriptor (mm_Y 208).desc).map (fun d => d.parameters.length) = some 0 := by decide +kernel
theorem gi_208 : Cond.code (mm_Y 208) (mm_B 208) (mm_nL 208) (mm_RT 208) ∈ mm_AW := mm_aw (i := 1781) (by decide +kernel) rfl
theorem hd_209 : (mm_Y 209).cls ≠ "java/lang/invoke/MethodHandle" ∧ (mm_Y 209).cls ≠ "java/lang/invoke/VarHandle" ∧ (parseMethodDescriptor (mm_Y 209).desc).map (fun d => d.parameters.length) = some 1 := by decide +kernel
theorem gi_209 : Cond.code (mm_Y 209) (mm_B 209) (mm_nL 209) (mm_RT 209) ∈ mm_AW := mm_aw (i := 1777) (by decide +kernel) rfl
theorem hd_210 : (mm_Y 210).cls ≠ "java/lang/invoke/MethodHandle" ∧ (mm_Y 210).cls ≠ "java/lang/invoke/VarHandle" ∧ (parseMethodDescriptor (mm_Y 210).desc).map (fun d => d.parameters.length) = some 1 := by decide +kernel
theorem gi_210 : Cond.code (mm_Y 210) (mm_B 210) (mm_nL 210) (mm_RT 210) ∈ mm_AW := mm_aw (i := 1804) (by decide +kernel) rfl
theorem hd_211 : (mm_Y 211).cls ≠ "java/lang/invoke/MethodHandle" ∧ (mm_Y 211).cls ≠ "java/lang/invoke/VarHandle" ∧ (parseMethodDescriptor (mm_Y 211).desc).map (fun d => d.parameters.length) = some 1 := by decide +kernel
theorem gi_211 : Cond.code (mm_Y 211) (mm_B 211) (mm_nL 211) (mm_RT 211) ∈ mm_AW := mm_aw (i := 1893) (by decide +kernel) rfl
theorem hd_212 : (mm_Y 212).cls ≠ "java/lang/invoke/MethodHandle" ∧ (mm_Y 212).cls ≠ "java/lang/invoke/VarHandle" ∧ (parseMethodDescriptor (mm_Y 212).desc).map (fun d => d.parameters.length) = some 1 := by decide +kernel
theorem gi_212 : Cond.code (mm_Y 212) (mm_B 212) (mm_nL 212) (mm_RT 212) ∈ mm_AW := mm_aw (i := 1811) (by decide +kernel) rfl
theorem hd_213 : (mm_Y 213).cls ≠ "java/lang/invoke/MethodHandle" ∧ (mm_Y 213).cls ≠ "java/lang/invoke/VarHandle" ∧ (parseMethodDescriptor (mm_Y 213).desc).map (fun d => d.parameters.length) = some 1 := by decide +kernel
theorem gi_213 : Cond.code (mm_Y 213) (mm_B 213) (mm_nL 213) (mm_RT 213) ∈ mm_AW := mm_aw (i := 1792) (by decide +kernel) rfl
theorem hd_214 : (mm_Y 214).cls ≠ "java/lang/invoke/MethodHandle" ∧ (mm_Y 214).cls ≠ "java/lang/invoke/VarHandle" ∧ (parseMethodDescriptor (mm_Y 214).desc).map (fun d => d.parameters.length) = some 0 := by decide +kernel
theorem gi_214 : Cond.code (mm_Y 214) (mm_B 214) (mm_nL 214) (mm_RT 214) ∈ mm_AW := mm_aw (i := 1411) (by decide +kernel) rfl
theorem hd_215 : (mm_Y 215).cls ≠ "java/lang/invoke/MethodHandle" ∧ (mm_Y 215).cls ≠ "java/lang/invoke/VarHandle" ∧ (parseMethodDescriptor (mm_Y 215).desc).map (fun d => d.parameters.length) = some 0 := by decide +kernel
theorem gi_215 : Cond.code (mm_Y 215) (mm_B 215) (mm_nL 215) (mm_RT 215) ∈ mm_AW := mm_aw (i := 1415) (by decide +kernel) rfl
theorem hd_216 : (mm_Y 216).cls ≠ "java/lang/invoke/MethodHandle" ∧ (mm_Y 216).cls ≠ "java/lang/invoke/VarHandle" ∧ (parseMethodDescriptor (mm_Y 216).desc).map (fun d => d.parameters.length) = some 0 := by decide +kernel
theorem gi_216 : Cond.code (mm_Y 216) (mm_B 216) (mm_nL 216) (mm_RT 216) ∈ mm_AW := mm_aw (i := 1788) (by decide +kernel) rfl
theorem hd_217 : (mm_Y 217).cls ≠ "java/lang/invoke/MethodHandle" ∧ (mm_Y 217).cls ≠ "java/lang/invoke/VarHandle" ∧ (parseMethodDescriptor (mm_Y 217).desc).map (fun d => d.parameters.length) = some 2 := by decide +kernel
theorem gi_217 : Cond.code (mm_Y 217) (mm_B 217) (mm_nL 217) (mm_RT 217) ∈ mm_AW := mm_aw (i := 1915) (by decide +kernel) rfl
theorem hd_218 : (mm_Y 218).cls ≠ "java/lang/invoke/MethodHandle" ∧ (mm_Y 218).cls ≠ "java/lang/invoke/VarHandle" ∧ (parseMethodDescriptor (mm_Y 218).desc).map (fun d => d.parameters.length) = some 2 := by decide +kernel
theorem gi_218 : Cond.code (mm_Y 218) (mm_B 218) (mm_nL 218) (mm_RT 218) ∈ mm_AW := mm_aw (i := 1912) (by decide +kernel) rfl
theorem hd_219 : (mm_Y 219).cls ≠ "java/lang/invoke/MethodHandle" ∧ (mm_Y 219).cls ≠ "java/lang/invoke/VarHandle" ∧ (parseMethodDescriptor (mm_Y 219).desc).map (fun d => d.parameters.length) = some 2 := by decide +kernel
theorem gi_219 : Cond.code (mm_Y 219) (mm_B 219) (mm_nL 219) (mm_RT 219) ∈ mm_AW := mm_aw (i := 1827) (by decide +kernel) rfl
theorem hd_220 : (mm_Y 220).cls ≠ "java/lang/invoke/MethodHandle" ∧ (mm_Y 220).cls ≠ "java/lang/invoke/VarHandle" ∧ (parseMethodDescriptor (mm_Y 220).desc).map (fun d => d.parameters.length) = some 2 := by decide +kernel
theorem gi_220 : Cond.code (mm_Y 220) (mm_B 220) (mm_nL 220) (mm_RT 220) ∈ mm_AW := mm_aw (i := 1831) (by decide +kernel) rfl
theorem hd_221 : (mm_Y 221).cls ≠ "java/lang/invoke/MethodHandle" ∧ (mm_Y 221).cls ≠ "java/lang/invoke/VarHandle" ∧ (parseMethodDescriptor (mm_Y 221).desc).map (fun d => d.parameters.length) = some 2 := by decide +kernel
theorem gi_221 : Cond.code (mm_Y 221) (mm_B 221) (mm_nL 221) (mm_RT 221) ∈ mm_AW := mm_aw (i := 1823) (by decide +kernel) rfl
theorem hd_222 : (mm_Y 222).cls ≠ "java/lang/invoke/MethodHandle" ∧ (mm_Y 222).cls ≠ "java/lang/invoke/VarHandle" ∧ (parseMethodDescriptor (mm_Y 222).desc).map (fun d => d.parameters.length) = some 2 := by decide +kernel
theorem gi_222 : Cond.code (mm_Y 222) (mm_B 222) (mm_nL 222) (mm_RT 222) ∈ mm_AW := mm_aw (i := 1835) (by decide +kernel) rfl
theorem hd_223 : (mm_Y 223).cls ≠ "java/lang/invoke/MethodHandle" ∧ (mm_Y 223).cls ≠ "java/lang/invoke/VarHandle" ∧ (parseMethodDescriptor (mm_Y 223).desc).map (fun d => d.parameters.length) = some 3 := by decide +kernel
theorem gi_223 : Cond.code (mm_Y 223) (mm_B 223) (mm_nL 223) (mm_RT 223) ∈ mm_AW := mm_aw (i := 1819) (by decide +kernel) rfl
theorem hd_224 : (mm_Y 224).cls ≠ "java/lang/invoke/MethodHandle" ∧ (mm_Y 224).cls ≠ "java/lang/invoke/VarHandle" ∧ (parseMethodDescriptor (mm_Y 224).desc).map (fun d => d.parameters.length) = some 2 := by decide +kernel
theorem gi_224 : Cond.code (mm_Y 224) (mm_B 224) (mm_nL 224) (mm_RT 224) ∈ mm_AW := mm_aw (i := 1815) (by decide +kernel) rfl
theorem hd_225 : (mm_Y 225).cls ≠ "java/lang/invoke/MethodHandle" ∧ (mm_Y 225).cls ≠ "java/lang/invoke/VarHandle" ∧ (parseMethodDescriptor (mm_Y 225).desc).map (fun d => d.parameters.length) = some 2 := by decide +kernel
theorem gi_225 : Cond.code (mm_Y 225) (mm_B 225) (mm_nL 225) (mm_RT 225) ∈ mm_AW := mm_aw (i := 1855) (by decide +kernel) rfl
theorem hd_226 : (mm_Y 226).cls ≠ "java/lang/invoke/MethodHandle" ∧ (mm_Y 226).cls ≠ "java/lang/invoke/VarHandle" ∧ (parseMethodDescriptor (mm_Y 226).desc).map (fun d => d.parameters.length) = some 4 := by decide +kernel
theorem gi_226 : Cond.code (mm_Y 226) (mm_B 226) (mm_nL 226) (mm_RT 226) ∈ mm_AW := mm_aw (i := 1847) (by decide +kernel) rfl
theorem hd_227 : (mm_Y 227).cls ≠ "java/lang/invoke/MethodHandle" ∧ (mm_Y 227).cls ≠ "java/lang/invoke/VarHandle" ∧ (parseMethodDescriptor (mm_Y 227).desc).map (fun d => d.parameters.length) = some 3 := by decide +kernel
theorem gi_227 : Cond.code (mm_Y 227) (mm_B 227) (mm_nL 227) (mm_RT 227) ∈ mm_AW := mm_aw (i := 1851) (by decide +kernel) rfl
theorem hd_228 : (mm_Y 228).cls ≠ "java/lang/invoke/MethodHandle" ∧ (mm_Y 228).cls ≠ "java/lang/invoke/VarHandle" ∧ (parseMethodDescriptor (mm_Y 228).desc).map (fun d => d.parameters.length) = some 4 := by decide +kernel
theorem gi_228 : Cond.code (mm_Y 228) (mm_B 228) (mm_nL 228) (mm_RT 228) ∈ mm_AW := mm_aw (i := 1843) (by decide +kernel) rfl
theorem hd_229 : (mm_Y 229).cls ≠ "java/lang/invoke/MethodHandle" ∧ (mm_Y 229).cls ≠ "java/lang/invoke/VarHandle" ∧ (parseMethodDescriptor (mm_Y 229).desc).map (fun d => d.parameters.length) = some 2 := by decide +kernel
theorem gi_229 : Cond.code (mm_Y 229) (mm_B 229) (mm_nL 229) (mm_RT 229) ∈ mm_AW := mm_aw (i := 1839) (by decide +kernel) rfl
theorem hd_230 : (mm_Y 230).cls ≠ "java/lang/invoke/MethodHandle" ∧ (mm_Y 230).cls ≠ "java/lang/invoke/VarHandle" ∧ (parseMethodDescriptor (mm_Y 230).desc).map (fun d => d.parameters.length) = some 2 := by decide +kernel
theorem gi_230 : Cond.code (mm_Y 230) (mm_B 230) (mm_nL 230) (mm_RT 230) ∈ mm_AW := mm_aw (i := 1866) (by decide +kernel) rfl
theorem hd_231 : (mm_Y 231).cls ≠ "java/lang/invoke/MethodHandle" ∧ (mm_Y 231).cls ≠ "java/lang/invoke/VarHandle" ∧ (parseMethodDescriptor (mm_Y 231).desc).map (fun d => d.parameters.length) = some 2 := by decide +kernel
theorem gi_231 : Cond.code (mm_Y 231) (mm_B 231) (mm_nL 231) (mm_RT 231) ∈ mm_AW := mm_aw (i := 1870) (by decide +kernel) rfl
theorem hd_232 : (mm_Y 232).cls ≠ "java/lang/invoke/MethodHandle" ∧ (mm_Y 232).cls ≠ "java/lang/invoke/VarHandle" ∧ (parseMethodDescriptor (mm_Y 232).desc).map (fun d => d.parameters.length) = some 2 := by decide +kernel
theorem gi_232 : Cond.code (mm_Y 232) (mm_B 232) (mm_nL 232) (mm_RT 232) ∈ mm_AW := mm_aw (i := 1874) (by decide +kernel) rfl
theorem hd_233 : (mm_Y 233).cls ≠ "java/lang/invoke/MethodHandle" ∧ (mm_Y 233).cls ≠ "java/lang/invoke/VarHandle" ∧ (parseMethodDescriptor (mm_Y 233).desc).map (fun d => d.parameters.length) = some 2 := by decide +kernel
theorem gi_233 : Cond.code (mm_Y 233) (mm_B 233) (mm_nL 233) (mm_RT 233) ∈ mm_AW := mm_aw (i := 1882) (by decide +kernel) rfl
theorem hd_234 : (mm_Y 234).cls ≠ "java/lang/invoke/MethodHandle" ∧ (mm_Y 234).cls ≠ "java/lang/invoke/VarHandle" ∧ (parseMethodDescriptor (mm_Y 234).desc).map (fun d => d.parameters.length) = some 0 := by decide +kernel
theorem gi_234 : Cond.code (mm_Y 234) (mm_B 234) (mm_nL 234) (mm_RT 234) ∈ mm_AW := mm_aw (i := 1908) (by decide +kernel) rfl
theorem hd_235 : (mm_Y 235).cls ≠ "java/lang/invoke/MethodHandle" ∧ (mm_Y 235).cls ≠ "java/lang/invoke/VarHandle" ∧ (parseMethodDescriptor (mm_Y 235).desc).map (fun d => d.parameters.length) = some 1 := by decide +kernel
theorem gi_235 : Cond.code (mm_Y 235) (mm_B 235) (mm_nL 235) (mm_RT 235) ∈ mm_AW := mm_aw (i := 1904) (by decide +kernel) rfl
theorem hd_236 : (mm_Y 236).cls ≠ "java/lang/invoke/MethodHandle" ∧ (mm_Y 236).cls ≠ "java/lang/invoke/VarHandle" ∧ (parseMethodDescriptor (mm_Y 236).desc).map (fun d => d.parameters.length) = some 2 := by decide +kernel
theorem gi_236 : Cond.code (mm_Y 236) (mm_B 236) (mm_nL 236) (mm_RT 236) ∈ mm_AW := mm_aw (i := 1773) (by decide +kernel) rfl
theorem hd_237 : (mm_Y 237).cls ≠ "java/lang/invoke/MethodHandle" ∧ (mm_Y 237).cls ≠ "java/lang/invoke/VarHandle" ∧ (parseMethodDescriptor (mm_Y 237).desc).map (fun d => d.parameters.length) = some 1 := by decide +kernel
theorem gi_237 : Cond.code (mm_Y 237) (mm_B 237) (mm_nL 237) (mm_RT 237) ∈ mm_AW := mm_aw (i := 1796) (by decide +kernel) rfl
theorem hd_238 : (mm_Y 238).cls ≠ "java/lang/invoke/MethodHandle" ∧ (mm_Y 238).cls ≠ "java/lang/invoke/VarHandle" ∧ (parseMethodDescriptor (mm_Y 238).desc).map (fun d => d.parameters.length) = some 2 := by decide +kernel
theorem gi_238 : Cond.code (mm_Y 238) (mm_B 238) (mm_nL 238) (mm_RT 238) ∈ mm_AW := mm_aw (i := 1800) (by decide +kernel) rfl
theorem hd_239 : (mm_Y 239).cls ≠ "java/lang/invoke/MethodHandle" ∧ (mm_Y 239).cls ≠ "java/lang/invoke/VarHandle" ∧ (parseMethodDescriptor (mm_Y 239).desc).map (fun d => d.parameters.length) = some 3 := by decide +kernel
theorem gi_239 : Cond.code (mm_Y 239) (mm_B 239) (mm_nL 239) (mm_RT 239) ∈ mm_AW := mm_aw (i := 1808) (by decide +kernel) rfl
theorem hd_240 : (mm_Y 240).cls ≠ "java/lang/invoke/MethodHandle" ∧ (mm_Y 240).cls ≠ "java/lang/invoke/VarHandle" ∧ (parseMethodDescriptor (mm_Y 240).desc).map (fun d => d.parameters.length) = some 0 := by decide +kernel
theorem gi_240 : Cond.code (mm_Y 240) (mm_B 240) (mm_nL 240) (mm_RT 240) ∈ mm_AW := mm_aw (i := 1886) (by decide +kernel) rfl
theorem hd_241 : (mm_Y 241).cls ≠ "java/lang/invoke/MethodHandle" ∧ (mm_Y 241).cls ≠ "java/lang/invoke/VarHandle" ∧ (parseMethodDescriptor (mm_Y 241).desc).map (fun d => d.parameters.length) = some 2 := by decide +kernel
theorem gi_241 : Cond.code (mm_Y 241) (mm_B 241) (mm_nL 241) (mm_RT 241) ∈ mm_AW := mm_aw (i := 1878) (by decide +kernel) rfl
theorem hd_242 : (mm_Y 242).cls ≠ "java/lang/invoke/MethodHandle" ∧ (mm_Y 242).cls ≠ "java/lang/invoke/VarHandle" ∧ (parseMethodDescriptor (mm_Y 242).desc).map (fun d => d.parameters.length) = some 2 := by decide +kernel
theorem gi_242 : Cond.code (mm_Y 242) (mm_B 242) (mm_nL 242) (mm_RT 242) ∈ mm_AW := mm_aw (i := 1890) (by decide +kernel) rfl
theorem hd_243 : (mm_Y 243).cls ≠ "java/lang/invoke/MethodHandle" ∧ (mm_Y 243).cls ≠ "java/lang/invoke/VarHandle" ∧ (parseMethodDescriptor (mm_Y 243).desc).map (fun d => d.parameters.length) = some 1 := by decide +kernel
theorem gi_243 : Cond.code (mm_Y 243) (mm_B 243) (mm_nL 243) (mm_RT 243) ∈ mm_AW := mm_aw (i := 1900) (by decide +kernel) rfl
theorem hd_244 : (mm_Y 244).cls ≠ "java/lang/invoke/MethodHandle" ∧ (mm_Y 244).cls ≠ "java/lang/invoke/VarHandle" ∧ (parseMethodDescriptor (mm_Y 244).desc).map (fun d => d.parameters.length) = some 1 := by decide +kernel
theorem gi_244 : Cond.code (mm_Y 244) (mm_B 244) (mm_nL 244) (mm_RT 244) ∈ mm_AW := mm_aw (i := 1897) (by decide +kernel) rfl
theorem hd_245 : (mm_Y 245).cls ≠ "java/lang/invoke/MethodHandle" ∧ (mm_Y 245).cls ≠ "java/lang/invoke/VarHandle" ∧ (parseMethodDescriptor (mm_Y 245).desc).map (fun d => d.parameters.length) = some 0 := by decide +kernel
theorem gi_245 : Cond.code (mm_Y 245) (mm_B 245) (mm_nL 245) (mm_RT 245) ∈ mm_AW := mm_aw (i := 1921) (by decide +kernel) rfl
theorem hd_246 : (mm_Y 246).cls ≠ "java/lang/invoke/MethodHandle" ∧ (mm_Y 246).cls ≠ "java/lang/invoke/VarHandle" ∧ (parseMethodDescriptor (mm_Y 246).desc).map (fun d => d.parameters.length) = some 1 := by decide +kernel
theorem gi_246 : Cond.code (mm_Y 246) (mm_B 246) (mm_nL 246) (mm_RT 246) ∈ mm_AW := mm_aw (i := 1933) (by decide +kernel) rfl
theorem hd_247 : (mm_Y 247).cls ≠ "java/lang/invoke/MethodHandle" ∧ (mm_Y 247).cls ≠ "java/lang/invoke/VarHandle" ∧ (parseMethodDescriptor (mm_Y 247).desc).map (fun d => d.parameters.length) = some 0 := by decide +kernel
theorem gi_247 : Cond.code (mm_Y 247) (mm_B 247) (mm_nL 247) (mm_RT 247) ∈ mm_AW := mm_aw (i := 1953) (by decide +kernel) rfl
theorem hd_248 : (mm_Y 248).cls ≠ "java/lang/invoke/MethodHandle" ∧ (mm_Y 248).cls ≠ "java/lang/invoke/VarHandle" ∧ (parseMethodDescriptor (mm_Y 248).desc).map (fun d => d.parameters.length) = some 3 := by decide +kernel
theorem gi_248 : Cond.code (mm_Y 248) (mm_B 248) (mm_nL 248) (mm_RT 248) ∈ mm_AW := mm_aw (i := 1937) (by decide +kernel) rfl
theorem hd_249 : (mm_Y 249).cls ≠ "java/lang/invoke/MethodHandle" ∧ (mm_Y 249).cls ≠ "java/lang/invoke/VarHandle" ∧ (parseMethodDescriptor (mm_Y 249).desc).map (fun d => d.parameters.length) = some 1 := by decide +kernel
theorem gi_249 : Cond.code (mm_Y 249) (mm_B 249) (mm_nL 249) (mm_RT 249) ∈ mm_AW := mm_aw (i := 1929) (by decide +kernel) rfl
theorem hd_250 : (mm_Y 250).cls ≠ "java/lang/invoke/MethodHandle" ∧ (mm_Y 250).cls ≠ "java/lang/invoke/VarHandle" ∧ (parseMethodDescriptor (mm_Y 250).desc).map (fun d => d.parameters.length) = some 4 := by decide +kernel
theorem gi_250 : Cond.code (mm_Y 250) (mm_B 250) (mm_nL 250) (mm_RT 250) ∈ mm_AW := mm_aw (i := 1925) (by decide +kernel) rfl
theorem hd_251 : (mm_Y 251).cls ≠ "java/lang/invoke/MethodHandle" ∧ (mm_Y 251).cls ≠ "java/lang/invoke/VarHandle" ∧ (parseMethodDescriptor (mm_Y 251).desc).map (fun d => d.parameters.length) = some 2 := by decide +kernel
theorem gi_251 : Cond.code (mm_Y 251) (mm_B 251) (mm_nL 251) (mm_RT 251) ∈ mm_AW := mm_aw (i := 1941) (by decide +kernel) rfl
theorem hd_252 : (mm_Y 252).cls ≠ "java/lang/invoke/MethodHandle" ∧ (mm_Y 252).cls ≠ "java/lang/invoke/VarHandle" ∧ (parseMethodDescriptor (mm_Y 252).desc).map (fun d => d.parameters.length) = some 2 := by decide +kernel
theorem gi_252 : Cond.code (mm_Y 252) (mm_B 252) (mm_nL 252) (mm_RT 252) ∈ mm_AW := mm_aw (i := 1945) (by decide +kernel) rfl
theorem hd_253 : (mm_Y 253).cls ≠ "java/lang/invoke/MethodHandle" ∧ (mm_Y 253).cls ≠ "java/lang/invoke/VarHandle" ∧ (parseMethodDescriptor (mm_Y 253).desc).map (fun d => d.parameters.length) = some 3 := by decide +kernel
theorem gi_253 : Cond.code (mm_Y 253) (mm_B 253) (mm_nL 253) (mm_RT 253) ∈ mm_AW := mm_aw (i := 1949) (by decide +kernel) rfl
theorem hd_254 : (mm_Y 254).cls ≠ "java/lang/invoke/MethodHandle" ∧ (mm_Y 254).cls ≠ "java/lang/invoke/VarHandle" ∧ (parseMethodDescriptor (mm_Y 254).desc).map (fun d => d.parameters.length) = some 1 := by decide +kernel
theorem gi_254 : Cond.code (mm_Y 254) (mm_B 254) (mm_nL 254) (mm_RT 254) ∈ mm_AW := mm_aw (i := 1957) (by decide +kernel) rfl
theorem hd_255 : (mm_Y 255).cls ≠ "java/lang/invoke/MethodHandle" ∧ (mm_Y 255).cls ≠ "java/lang/invoke/VarHandle" ∧ (parseMethodDescriptor (mm_Y 255).desc).map (fun d => d.parameters.length) = some 1 := by decide +kernel
theorem gi_255 : Cond.code (mm_Y 255) (mm_B 255) (mm_nL 255) (mm_RT 255) ∈ mm_AW := mm_aw (i := 1969) (by decide +kernel) rfl
theorem hd_256 : (mm_Y 256).cls ≠ "java/lang/invoke/MethodHandle" ∧ (mm_Y 256).cls ≠ "java/lang/invoke/VarHandle" ∧ (parseMethodDescriptor (mm_Y 256).desc).map (fun d => d.parameters.length) = some 0 := by decide +kernel
theorem gi_256 : Cond.code (mm_Y 256) (mm_B 256) (mm_nL 256) (mm_RT 256) ∈ mm_AW := mm_aw (i := 1965) (by decide +kernel) rfl
theorem hd_257 : (mm_Y 257).cls ≠ "java/lang/invoke/MethodHandle" ∧ (mm_Y 257).cls ≠ "java/lang/invoke/VarHandle" ∧ (parseMethodDescriptor (mm_Y 257).desc).map (fun d => d.parameters.length) = some 2 := by decide +kernel
theorem gi_257 : Cond.code (mm_Y 257) (mm_B 257) (mm_nL 257) (mm_RT 257) ∈ mm_AW := mm_aw (i := 1961) (by decide +kernel) rfl
theorem hd_258 : (mm_Y 258).cls ≠ "java/lang/invoke/MethodHandle" ∧ (mm_Y 258).cls ≠ "java/lang/invoke/VarHandle" ∧ (parseMethodDescriptor (mm_Y 258).desc).map (fun d => d.parameters.length) = some 0 := by decide +kernel
theorem gi_258 : Cond.code (mm_Y 258) (mm_B 258) (mm_nL 258) (mm_RT 258) ∈ mm_AW := mm_aw (i := 1985) (by decide +kernel) rfl
theorem hd_259 : (mm_Y 259).cls ≠ "java/lang/invoke/MethodHandle" ∧ (mm_Y 259).cls ≠ "java/lang/invoke/VarHandle" ∧ (parseMethodDescriptor (mm_Y 259).desc).map (fun d => d.parameters.length) = some 3 := by decide +kernel
theorem gi_259 : Cond.code (mm_Y 259) (mm_B 259) (mm_nL 259) (mm_RT 259) ∈ mm_AW := mm_aw (i := 1981) (by decide +kernel) rfl
theorem hd_260 : (mm_Y 260).cls ≠ "java/lang/invoke/MethodHandle" ∧ (mm_Y 260).cls ≠ "java/lang/invoke/VarHandle" ∧ (parseMethodDescriptor (mm_Y 260).desc).map (fun d => d.parameters.length) = some 2 := by decide +kernel
theorem gi_260 : Cond.code (mm_Y 260) (mm_B 260) (mm_nL 260) (mm_RT 260) ∈ mm_AW := mm_aw (i := 1977) (by decide +kernel) rfl
theorem hd_261 : (mm_Y 261).cls ≠ "java/lang/invoke/MethodHandle" ∧ (mm_Y 261).cls ≠ "java/lang/invoke/VarHandle" ∧ (parseMethodDescriptor (mm_Y 261).desc).map (fun d => d.parameters.length) = some 3 := by decide +kernel
theorem gi_261 : Cond.code (mm_Y 261) (mm_B 261) (mm_nL 261) (mm_RT 261) ∈ mm_AW := mm_aw (i := 1973) (by decide +kernel) rfl
theorem hd_262 : (mm_Y 262).cls ≠ "java/lang/invoke/MethodHandle" ∧ (mm_Y 262).cls ≠ "java/lang/invoke/VarHandle" ∧ (parseMethodDescriptor (mm_Y 262).desc).map (fun d => d.parameters.length) = some 3 := by decide +kernel
theorem gi_262 : Cond.code (mm_Y 262) (mm_B 262) (mm_nL 262) (mm_RT 262) ∈ mm_AW := mm_aw (i := 1989) (by decide +kernel) rfl
theorem hd_263 : (mm_Y 263).cls ≠ "java/lang/invoke/MethodHandle" ∧ (mm_Y 263).cls ≠ "java/lang/invoke/VarHandle" ∧ (parseMethodDescriptor (mm_Y 263).desc).map (fun d => d.parameters.length) = some 2 := by decide +kernel
theorem gi_263 : Cond.code (mm_Y 263) (mm_B 263) (mm_nL 263) (mm_RT 263) ∈ mm_AW := mm_aw (i := 1997) (by decide +kernel) rfl
theorem hd_264 : (mm_Y 264).cls ≠ "java/lang/invoke/MethodHandle" ∧ (mm_Y 264).cls ≠ "java/lang/invoke/VarHandle" ∧ (parseMethodDescriptor (mm_Y 264).desc).map (fun d => d.parameters.length) = some 3 := by decide +kernel
theorem gi_264 : Cond.code (mm_Y 264) (mm_B 264) (mm_nL 264) (mm_RT 264) ∈ mm_AW := mm_aw (i := 1993) (by decide +kernel) rfl
theorem hd_265 : (mm_Y 265).cls ≠ "java/lang/invoke/MethodHandle" ∧ (mm_Y 265).cls ≠ "java/lang/invoke/VarHandle" ∧ (parseMethodDescriptor (mm_Y 265).desc).map (fun d => d.parameters.length) = some 1 := by decide +kernel
theorem gi_265 : Cond.code (mm_Y 265) (mm_B 265) (mm_nL 265) (mm_RT 265) ∈ mm_AW := mm_aw (i := 2001) (by decide +kernel) rfl
theorem hd_266 : (mm_Y 266).cls ≠ "java/lang/invoke/MethodHandle" ∧ (mm_Y 266).cls ≠ "java/lang/invoke/VarHandle" ∧ (parseMethodDescriptor (mm_Y 266).desc).map (fun d => d.parameters.length) = some 2 := by decide +kernel
theorem gi_266 : Cond.code (mm_Y 266) (mm_B 266) (mm_nL 266) (mm_RT 266) ∈ mm_AW := mm_aw (i := 2009) (by decide +kernel) rfl
theorem hd_267 : (mm_Y 267).cls ≠ "java/lang/invoke/MethodHandle" ∧ (mm_Y 267).cls ≠ "java/lang/invoke/VarHandle" ∧ (parseMethodDescriptor (mm_Y 267).desc).map (fun d => d.parameters.length) = some 2 := by decide +kernel
theorem gi_267 : Cond.code (mm_Y 267) (mm_B 267) (mm_nL 267) (mm_RT 267) ∈ mm_AW := mm_aw (i := 2005) (by decide +kernel) rfl
theorem hd_268 : (mm_Y 268).cls ≠ "java/lang/invoke/MethodHandle" ∧ (mm_Y 268).cls ≠ "java/lang/invoke/VarHandle" ∧ (parseMethodDescriptor (mm_Y 268).desc).map (fun d => d.parameters.length) = some 2 := by decide +kernel
theorem gi_268 : Cond.code (mm_Y 268) (mm_B 268) (mm_nL 268) (mm_RT 268) ∈ mm_AW := mm_aw (i := 2021) (by decide +kernel) rfl
theorem hd_269 : (mm_Y 269).cls ≠ "java/lang/invoke/MethodHandle" ∧ (mm_Y 269).cls ≠ "java/lang/invoke/VarHandle" ∧ (parseMethodDescriptor (mm_Y 269).desc).map (fun d => d.parameters.length) = some 1 := by decide +kernel
theorem gi_269 : Cond.code (mm_Y 269) (mm_B 269) (mm_nL 269) (mm_RT 269) ∈ mm_AW := mm_aw (i := 2017) (by decide +kernel) rfl
theorem hd_270 : (mm_Y 270).cls ≠ "java/lang/invoke/MethodHandle" ∧ (mm_Y 270).cls ≠ "java/lang/invoke/VarHandle" ∧ (parseMethodDescriptor (mm_Y 270).desc).map (fun d => d.parameters.length) = some 2 := by decide +kernel
theorem gi_270 : Cond.code (mm_Y 270) (mm_B 270) (mm_nL 270) (mm_RT 270) ∈ mm_AW := mm_aw (i := 2013) (by decide +kernel) rfl
theorem hd_271 : (mm_Y 271).cls ≠ "java/lang/invoke/MethodHandle" ∧ (mm_Y 271).cls ≠ "java/lang/invoke/VarHandle" ∧ (parseMethodDescriptor (mm_Y 271).desc).map (fun d => d.parameters.length) = some 1 := by decide +kernel
theorem gi_271 : Cond.code (mm_Y 271) (mm_B 271) (mm_nL 271) (mm_RT 271) ∈ mm_AW := mm_aw (i := 2025) (by decide +kernel) rfl
theorem hd_272 : (mm_Y 272).cls ≠ "java/lang/invoke/MethodHandle" ∧ (mm_Y 272).cls ≠ "java/lang/invoke/VarHandle" ∧ (parseMethodDescriptor (mm_Y 272).desc).map (fun d => d.parameters.length) = some 1 := by decide +kernel
theorem gi_272 : Cond.code (mm_Y 272) (mm_B 272) (mm_nL 272) (mm_RT 272) ∈ mm_AW := mm_aw (i := 2029) (by decide +kernel) rfl
theorem hd_273 : (mm_Y 273).cls ≠ "java/lang/invoke/MethodHandle" ∧ (mm_Y 273).cls ≠ "java/lang/invoke/VarHandle" ∧ (parseMethodDescriptor (mm_Y 273).desc).map (fun d => d.parameters.length) = some 3 := by decide +kernel
theorem gi_273 : Cond.code (mm_Y 273) (mm_B 273) (mm_nL 273) (mm_RT 273) ∈ mm_AW := mm_aw (i := 2033) (by decide +kernel) rfl
theorem hd_274 : (mm_Y 274).cls ≠ "java/lang/invoke/MethodHandle" ∧ (mm_Y 274).cls ≠ "java/lang/invoke/VarHandle" ∧ (parseMethodDescriptor (mm_Y 274).desc).map (fun d => d.parameters.length) = some 2 := by decide +kernel
theorem gi_274 : Cond.code (mm_Y 274) (mm_B 274) (mm_nL 274) (mm_RT 274) ∈ mm_AW := mm_aw (i := 2037) (by decide +kernel) rfl
theorem hd_275 : (mm_Y 275).cls ≠ "java/lang/invoke/MethodHandle" ∧ (mm_Y 275).cls ≠ "java/lang/invoke/VarHandle" ∧ (parseMethodDescriptor (mm_Y 275).desc).map (fun d => d.parameters.length) = some 1 := by decide +kernel
theorem gi_275 : Cond.code (mm_Y 275) (mm_B 275) (mm_nL 275) (mm_RT 275) ∈ mm_AW := mm_aw (i := 2041) (by decide +kernel) rfl
theorem hd_276 : (mm_Y 276).cls ≠ "java/lang/invoke/MethodHandle" ∧ (mm_Y 276).cls ≠ "java/lang/invoke/VarHandle" ∧ (parseMethodDescriptor (mm_Y 276).desc).map (fun d => d.parameters.length) = some 4 := by decide +kernel
theorem gi_276 : Cond.code (mm_Y 276) (mm_B 276) (mm_nL 276) (mm_RT 276) ∈ mm_AW := mm_aw (i := 2045) (by decide +kernel) rfl
theorem hd_277 : (mm_Y 277).cls ≠ "java/lang/invoke/MethodHandle" ∧ (mm_Y 277).cls ≠ "java/lang/invoke/VarHandle" ∧ (parseMethodDescriptor (mm_Y 277).desc).map (fun d => d.parameters.length) = some 3 := by decide +kernel
theorem gi_277 : Cond.code (mm_Y 277) (mm_B 277) (mm_nL 277) (mm_RT 277) ∈ mm_AW := mm_aw (i := 2049) (by decide +kernel) rfl
theorem hd_278 : (mm_Y 278).cls ≠ "java/lang/invoke/MethodHandle" ∧ (mm_Y 278).cls ≠ "java/lang/invoke/VarHandle" ∧ (parseMethodDescriptor (mm_Y 278).desc).map (fun d => d.parameters.length) = some 0 := by decide +kernel
theorem gi_278 : Cond.code (mm_Y 278) (mm_B 278) (mm_nL 278) (mm_RT 278) ∈ mm_AW := mm_aw (i := 2053) (by decide +kernel) rfl
theorem hd_279 : (mm_Y 279).cls ≠ "java/lang/invoke/MethodHandle" ∧ (mm_Y 279).cls ≠ "java/lang/invoke/VarHandle" ∧ (parseMethodDescriptor (mm_Y 279).desc).map (fun d => d.parameters.length) = some 1 := by decide +kernel
theorem gi_279 : Cond.code (mm_Y 279) (mm_B 279) (mm_nL 279) (mm_RT 279) ∈ mm_AW := mm_aw (i := 2064) (by decide +kernel) rfl
theorem hd_280 : (mm_Y 280).cls ≠ "java/lang/invoke/MethodHandle" ∧ (mm_Y 280).cls ≠ "java/lang/invoke/VarHandle" ∧ (parseMethodDescriptor (mm_Y 280).desc).map (fun d => d.parameters.length) = some 4 := by decide +kernel
theorem gi_280 : Cond.code (mm_Y 280) (mm_B 280) (mm_nL 280) (mm_RT 280) ∈ mm_AW := mm_aw (i := 2068) (by decide +kernel) rfl
theorem hd_281 : (mm_Y 281).cls ≠ "java/lang/invoke/MethodHandle" ∧ (mm_Y 281).cls ≠ "java/lang/invoke/VarHandle" ∧ (parseMethodDescriptor (mm_Y 281).desc).map (fun d => d.parameters.length) = some 3 := by decide +kernel
theorem gi_281 : Cond.code (mm_Y 281) (mm_B 281) (mm_nL 281) (mm_RT 281) ∈ mm_AW := mm_aw (i := 2061) (by decide +kernel) rfl
theorem hd_282 : (mm_Y 282).cls ≠ "java/lang/invoke/MethodHandle" ∧ (mm_Y 282).cls ≠ "java/lang/invoke/VarHandle" ∧ (parseMethodDescriptor (mm_Y 282).desc).map (fun d => d.parameters.length) = some 4 := by decide +kernel
theorem gi_282 : Cond.code (mm_Y 282) (mm_B 282) (mm_nL 282) (mm_RT 282) ∈ mm_AW := mm_aw (i := 2057) (by decide +kernel) rfl
theorem hd_283 : (mm_Y 283).cls ≠ "java/lang/invoke/MethodHandle" ∧ (mm_Y 283).cls ≠ "java/lang/invoke/VarHandle" ∧ (parseMethodDescriptor (mm_Y 283).desc).map (fun d => d.parameters.length) = some 3 := by decide +kernel
theorem gi_283 : Cond.code (mm_Y 283) (mm_B 283) (mm_nL 283) (mm_RT 283) ∈ mm_AW := mm_aw (i := 2072) (by decide +kernel) rfl
theorem hd_284 : (mm_Y 284).cls ≠ "java/lang/invoke/MethodHandle" ∧ (mm_Y 284).cls ≠ "java/lang/invoke/VarHandle" ∧ (parseMethodDescriptor (mm_Y 284).desc).map (fun d => d.parameters.length) = some 1 := by decide +kernel
theorem gi_284 : Cond.code (mm_Y 284) (mm_B 284) (mm_nL 284) (mm_RT 284) ∈ mm_AW := mm_aw (i := 2076) (by decide +kernel) rfl
theorem hd_285 : (mm_Y 285).cls ≠ "java/lang/invoke/MethodHandle" ∧ (mm_Y 285).cls ≠ "java/lang/invoke/VarHandle" ∧ (parseMethodDescriptor (mm_Y 285).desc).map (fun d => d.parameters.length) = some 1 := by decide +kernel
theorem gi_285 : Cond.code (mm_Y 285) (mm_B 285) (mm_nL 285) (mm_RT 285) ∈ mm_AW := mm_aw (i := 2080) (by decide +kernel) rfl
theorem hd_286 : (mm_Y 286).cls ≠ "java/lang/invoke/MethodHandle" ∧ (mm_Y 286).cls ≠ "java/lang/invoke/VarHandle" ∧ (parseMethodDescriptor (mm_Y 286).desc).map (fun d => d.parameters.length) = some 1 := by decide +kernel
theorem gi_286 : Cond.code (mm_Y 286) (mm_B 286) (mm_nL 286) (mm_RT 286) ∈ mm_AW := mm_aw (i := 2088) (by decide +kernel) rfl
theorem hd_287 : (mm_Y 287).cls ≠ "java/lang/invoke/MethodHandle" ∧ (mm_Y 287).cls ≠ "java/lang/invoke/VarHandle" ∧ (parseMethodDescriptor (mm_Y 287).desc).map (fun d => d.parameters.length) = some 1 := by decide +kernel
theorem gi_287 : Cond.code (mm_Y 287) (mm_B 287) (mm_nL 287) (mm_RT 287) ∈ mm_AW := mm_aw (i := 2084) (by decide +kernel) rfl
theorem hd_288 : (mm_Y 288).cls ≠ "java/lang/invoke/MethodHandle" ∧ (mm_Y 288).cls ≠ "java/lang/invoke/VarHandle" ∧ (parseMethodDescriptor (mm_Y 288).desc).map (fun d => d.parameters.length) = some 2 := by decide +kernel
theorem gi_288 : Cond.code (mm_Y 288) (mm_B 288) (mm_nL 288) (mm_RT 288) ∈ mm_AW := mm_aw (i := 689) (by decide +kernel) rfl
theorem hd_289 : (mm_Y 289).cls ≠ "java/lang/invoke/MethodHandle" ∧ (mm_Y 289).cls ≠ "java/lang/invoke/VarHandle" ∧ (parseMethodDescriptor (mm_Y 289).desc).map (fun d => d.parameters.length) = some 2 := by decide +kernel
theorem gi_289 : Cond.code (mm_Y 289) (mm_B 289) (mm_nL 289) (mm_RT 289) ∈ mm_AW := mm_aw (i := 692) (by decide +kernel) rfl
theorem hd_290 : (mm_Y 290).cls ≠ "java/lang/invoke/MethodHandle" ∧ (mm_Y 290).cls ≠ "java/lang/invoke/VarHandle" ∧ (parseMethodDescriptor (mm_Y 290).desc).map (fun d => d.parameters.length) = some 0 := by decide +kernel
theorem gi_290 : Cond.code (mm_Y 290) (mm_B 290) (mm_nL 290) (mm_RT 290) ∈ mm_AW := mm_aw (i := 156) (by decide +kernel) rfl
theorem hd_291 : (mm_Y 291).cls ≠ "java/lang/invoke/MethodHandle" ∧ (mm_Y 291).cls ≠ "java/lang/invoke/VarHandle" ∧ (parseMethodDescriptor (mm_Y 291).desc).map (fun d => d.parameters.length) = some 1 := by decide +kernel
theorem gi_291 : Cond.code (mm_Y 291) (mm_B 291) (mm_nL 291) (mm_RT 291) ∈ mm_AW := mm_aw (i := 166) (by decide +kernel) rfl
theorem hd_292 : (mm_Y 292).cls ≠ "java/lang/invoke/MethodHandle" ∧ (mm_Y 292).cls ≠ "java/lang/invoke/VarHandle" ∧ (parseMethodDescriptor (mm_Y 292).desc).map (fun d => d.parameters.length) = some 1 := by decide +kernel
theorem gi_292 : Cond.code (mm_Y 292) (mm_B 292) (mm_nL 292) (mm_RT 292) ∈ mm_AW := mm_aw (i := 675) (by decide +kernel) rfl
theorem hd_293 : (mm_Y 293).cls ≠ "java/lang/invoke/MethodHandle" ∧ (mm_Y 293).cls ≠ "java/lang/invoke/VarHandle" ∧ (parseMethodDescriptor (mm_Y 293).desc).map (fun d => d.parameters.length) = some 2 := by decide +kernel
theorem gi_293 : Cond.code (mm_Y 293) (mm_B 293) (mm_nL 293) (mm_RT 293) ∈ mm_AW := mm_aw (i := 679) (by decide +kernel) rfl
theorem hd_294 : (mm_Y 294).cls ≠ "java/lang/invoke/MethodHandle" ∧ (mm_Y 294).cls ≠ "java/lang/invoke/VarHandle" ∧ (parseMethodDescriptor (mm_Y 294).desc).map (fun d => d.parameters.length) = some 0 := by decide +kernel
theorem gi_294 : Cond.code (mm_Y 294) (mm_B 294) (mm_nL 294) (mm_RT 294) ∈ mm_AW := mm_aw (i := 160) (by decide +kernel) rfl
theorem hd_295 : (mm_Y 295).cls ≠ "java/lang/invoke/MethodHandle" ∧ (mm_Y 295).cls ≠ "java/lang/invoke/VarHandle" ∧ (parseMethodDescriptor (mm_Y 295).desc).map (fun d => d.parameters.length) = some 0 := by decide +kernel
theorem gi_295 : Cond.code (mm_Y 295) (mm_B 295) (mm_nL 295) (mm_RT 295) ∈ mm_AW := mm_aw (i := 170) (by decide +kernel) rfl
theorem hd_296 : (mm_Y 296).cls ≠ "java/lang/invoke/MethodHandle" ∧ (mm_Y 296).cls ≠ "java/lang/invoke/VarHandle" ∧ (parseMethodDescriptor (mm_Y 296).desc).map (fun d => d.parameters.length) = some 2 := by decide +kernel
theorem gi_296 : Cond.code (mm_Y 296) (mm_B 296) (mm_nL 296) (mm_RT 296) ∈ mm_AW := mm_aw (i := 176) (by decide +kernel) rfl
theorem hd_297 : (mm_Y 297).cls ≠ "java/lang/invoke/MethodHandle" ∧ (mm_Y 297).cls ≠ "java/lang/invoke/VarHandle" ∧ (parseMethodDescriptor (mm_Y 297).desc).map (fun d => d.parameters.length) = some 2 := by decide +kernel
theorem gi_297 : Cond.code (mm_Y 297) (mm_B 297) (mm_nL 297) (mm_RT 297) ∈ mm_AW := mm_aw (i := 173) (by decide +kernel) rfl
theorem hd_298 : (mm_Y 298).cls ≠ "java/lang/invoke/MethodHandle" ∧ (mm_Y 298).cls ≠ "java/lang/invoke/VarHandle" ∧ (parseMethodDescriptor (mm_Y 298).desc).map (fun d => d.parameters.length) = some 1 := by decide +kernel
theorem gi_298 : Cond.code (mm_Y 298) (mm_B 298) (mm_nL 298) (mm_RT 298) ∈ mm_AW := mm_aw (i := 686) (by decide +kernel) rfl
theorem hd_299 : (mm_Y 299).cls ≠ "java/lang/invoke/MethodHandle" ∧ (mm_Y 299).cls ≠ "java/lang/invoke/VarHandle" ∧ (parseMethodDescriptor (mm_Y 299).desc).map (fun d => d.parameters.length) = some 4 := by decide +kernel
theorem gi_299 : Cond.code (mm_Y 299) (mm_B 299) (mm_nL 299) (mm_RT 299) ∈ mm_AW := mm_aw (i := 683) (by decide +kernel) rfl
theorem hd_300 : (mm_Y 300).cls ≠ "java/lang/invoke/MethodHandle" ∧ (mm_Y 300).cls ≠ "java/lang/invoke/VarHandle" ∧ (parseMethodDescriptor (mm_Y 300).desc).map (fun d => d.parameters.length) = some 4 := by decide +kernel
theorem gi_300 : Cond.code (mm_Y 300) (mm_B 300) (mm_nL 300) (mm_RT 300) ∈ mm_AW := mm_aw (i := 695) (by decide +kernel) rfl
theorem hd_301 : (mm_Y 301).cls ≠ "java/lang/invoke/MethodHandle" ∧ (mm_Y 301).cls ≠ "java/lang/invoke/VarHandle" ∧ (parseMethodDescriptor (mm_Y 301).desc).map (fun d => d.parameters.length) = some 2 := by decide +kernel
theorem gi_301 : Cond.code (mm_Y 301) (mm_B 301) (mm_nL 301) (mm_RT 301) ∈ mm_AW := mm_aw (i := 822) (by decide +kernel) rfl
theorem hd_302 : (mm_Y 302).cls ≠ "java/lang/invoke/MethodHandle" ∧ (mm_Y 302).cls ≠ "java/lang/invoke/VarHandle" ∧ (parseMethodDescriptor (mm_Y 302).desc).map (fun d => d.parameters.length) = some 3 := by decide +kernel
theorem gi_302 : Cond.code (mm_Y 302) (mm_B 302) (mm_nL 302) (mm_RT 302) ∈ mm_AW := mm_aw (i := 181) (by decide +kernel) rfl
