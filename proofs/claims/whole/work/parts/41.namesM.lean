abbrev cM_init : ByteArray := prog_7_method_1_code
abbrev yM_init : MethodName := ⟨"WholeDeskModel", "<init>", "()V"⟩
theorem qM_init : yM_init.cls ≠ "java/lang/invoke/MethodHandle" ∧ yM_init.cls ≠ "java/lang/invoke/VarHandle" ∧ (parseMethodDescriptor yM_init.desc).map (fun d => d.parameters.length) = some 0 := by decide +kernel
theorem dM_init_0 : decode cM_init 0 = .ok (.aload_n 0, 1) := by decide +kernel
theorem dM_init_1 : decode cM_init 1 = .ok (.invokespecial 1, 3) := by decide +kernel
theorem dM_init_4 : decode cM_init 4 = .ok (.aload_n 0, 1) := by decide +kernel
theorem dM_init_5 : decode cM_init 5 = .ok (.sipush 2100, 3) := by decide +kernel
theorem dM_init_8 : decode cM_init 8 = .ok (.newarray .int, 2) := by decide +kernel
theorem dM_init_10 : decode cM_init 10 = .ok (.putfield 7, 3) := by decide +kernel
theorem dM_init_13 : decode cM_init 13 = .ok (.aload_n 0, 1) := by decide +kernel
theorem dM_init_14 : decode cM_init 14 = .ok (.sipush 1280, 3) := by decide +kernel
theorem dM_init_17 : decode cM_init 17 = .ok (.newarray .int, 2) := by decide +kernel
theorem dM_init_19 : decode cM_init 19 = .ok (.putfield 13, 3) := by decide +kernel
theorem dM_init_22 : decode cM_init 22 = .ok (.aload_n 0, 1) := by decide +kernel
theorem dM_init_23 : decode cM_init 23 = .ok (.bipush 10, 2) := by decide +kernel
theorem dM_init_25 : decode cM_init 25 = .ok (.newarray .boolean, 2) := by decide +kernel
theorem dM_init_27 : decode cM_init 27 = .ok (.putfield 16, 3) := by decide +kernel
theorem dM_init_30 : decode cM_init 30 = .ok (.aload_n 0, 1) := by decide +kernel
theorem dM_init_31 : decode cM_init 31 = .ok (.sipush 264, 3) := by decide +kernel
theorem dM_init_34 : decode cM_init 34 = .ok (.newarray .int, 2) := by decide +kernel
theorem dM_init_36 : decode cM_init 36 = .ok (.putfield 20, 3) := by decide +kernel
theorem dM_init_39 : decode cM_init 39 = .ok (.aload_n 0, 1) := by decide +kernel
theorem dM_init_40 : decode cM_init 40 = .ok (.sipush 264, 3) := by decide +kernel
theorem dM_init_43 : decode cM_init 43 = .ok (.newarray .int, 2) := by decide +kernel
theorem dM_init_45 : decode cM_init 45 = .ok (.putfield 23, 3) := by decide +kernel
theorem dM_init_48 : decode cM_init 48 = .ok (.aload_n 0, 1) := by decide +kernel
theorem dM_init_49 : decode cM_init 49 = .ok (.sipush 528, 3) := by decide +kernel
theorem dM_init_52 : decode cM_init 52 = .ok (.newarray .int, 2) := by decide +kernel
theorem dM_init_54 : decode cM_init 54 = .ok (.putfield 26, 3) := by decide +kernel
theorem dM_init_57 : decode cM_init 57 = .ok (.aload_n 0, 1) := by decide +kernel
theorem dM_init_58 : decode cM_init 58 = .ok (.sipush 264, 3) := by decide +kernel
theorem dM_init_61 : decode cM_init 61 = .ok (.newarray .int, 2) := by decide +kernel
theorem dM_init_63 : decode cM_init 63 = .ok (.putfield 29, 3) := by decide +kernel
theorem dM_init_66 : decode cM_init 66 = .ok (.aload_n 0, 1) := by decide +kernel
theorem dM_init_67 : decode cM_init 67 = .ok (.sipush 264, 3) := by decide +kernel
theorem dM_init_70 : decode cM_init 70 = .ok (.newarray .int, 2) := by decide +kernel
theorem dM_init_72 : decode cM_init 72 = .ok (.putfield 32, 3) := by decide +kernel
theorem dM_init_75 : decode cM_init 75 = .ok (.aload_n 0, 1) := by decide +kernel
theorem dM_init_76 : decode cM_init 76 = .ok (.sipush 264, 3) := by decide +kernel
theorem dM_init_79 : decode cM_init 79 = .ok (.newarray .int, 2) := by decide +kernel
theorem dM_init_81 : decode cM_init 81 = .ok (.putfield 35, 3) := by decide +kernel
theorem dM_init_84 : decode cM_init 84 = .ok (.aload_n 0, 1) := by decide +kernel
theorem dM_init_85 : decode cM_init 85 = .ok (.sipush 264, 3) := by decide +kernel
theorem dM_init_88 : decode cM_init 88 = .ok (.newarray .int, 2) := by decide +kernel
theorem dM_init_90 : decode cM_init 90 = .ok (.putfield 38, 3) := by decide +kernel
theorem dM_init_93 : decode cM_init 93 = .ok (.aload_n 0, 1) := by decide +kernel
theorem dM_init_94 : decode cM_init 94 = .ok (.sipush 264, 3) := by decide +kernel
theorem dM_init_97 : decode cM_init 97 = .ok (.newarray .int, 2) := by decide +kernel
theorem dM_init_99 : decode cM_init 99 = .ok (.putfield 41, 3) := by decide +kernel
theorem dM_init_102 : decode cM_init 102 = .ok (.aload_n 0, 1) := by decide +kernel
theorem dM_init_103 : decode cM_init 103 = .ok (.sipush 264, 3) := by decide +kernel
theorem dM_init_106 : decode cM_init 106 = .ok (.newarray .int, 2) := by decide +kernel
theorem dM_init_108 : decode cM_init 108 = .ok (.putfield 44, 3) := by decide +kernel
theorem dM_init_111 : decode cM_init 111 = .ok (.aload_n 0, 1) := by decide +kernel
theorem dM_init_112 : decode cM_init 112 = .ok (.sipush 264, 3) := by decide +kernel
theorem dM_init_115 : decode cM_init 115 = .ok (.newarray .int, 2) := by decide +kernel
theorem dM_init_117 : decode cM_init 117 = .ok (.putfield 47, 3) := by decide +kernel
theorem dM_init_120 : decode cM_init 120 = .ok (.aload_n 0, 1) := by decide +kernel
theorem dM_init_121 : decode cM_init 121 = .ok (.sipush 2100, 3) := by decide +kernel
theorem dM_init_124 : decode cM_init 124 = .ok (.newarray .int, 2) := by decide +kernel
theorem dM_init_126 : decode cM_init 126 = .ok (.putfield 50, 3) := by decide +kernel
theorem dM_init_129 : decode cM_init 129 = .ok (.return_, 1) := by decide +kernel
abbrev cM_thrown : ByteArray := prog_7_method_2_code
abbrev yM_thrown : MethodName := ⟨"WholeDeskModel", "thrown", "()I"⟩
theorem qM_thrown : yM_thrown.cls ≠ "java/lang/invoke/MethodHandle" ∧ yM_thrown.cls ≠ "java/lang/invoke/VarHandle" ∧ (parseMethodDescriptor yM_thrown.desc).map (fun d => d.parameters.length) = some 0 := by decide +kernel
theorem dM_thrown_0 : decode cM_thrown 0 = .ok (.aload_n 0, 1) := by decide +kernel
theorem dM_thrown_1 : decode cM_thrown 1 = .ok (.getfield 53, 3) := by decide +kernel
theorem dM_thrown_4 : decode cM_thrown 4 = .ok (.ireturn, 1) := by decide +kernel
abbrev cM_no : ByteArray := prog_7_method_3_code
abbrev yM_no : MethodName := ⟨"WholeDeskModel", "no", "(I)Z"⟩
theorem qM_no : yM_no.cls ≠ "java/lang/invoke/MethodHandle" ∧ yM_no.cls ≠ "java/lang/invoke/VarHandle" ∧ (parseMethodDescriptor yM_no.desc).map (fun d => d.parameters.length) = some 1 := by decide +kernel
theorem dM_no_0 : decode cM_no 0 = .ok (.iload_n 0, 1) := by decide +kernel
theorem dM_no_1 : decode cM_no 1 = .ok (.ifCond .lt 9, 3) := by decide +kernel
theorem dM_no_4 : decode cM_no 4 = .ok (.iload_n 0, 1) := by decide +kernel
theorem dM_no_5 : decode cM_no 5 = .ok (.bipush 10, 2) := by decide +kernel
theorem dM_no_7 : decode cM_no 7 = .ok (.if_icmp .lt 7, 3) := by decide +kernel
theorem dM_no_10 : decode cM_no 10 = .ok (.iconst 1, 1) := by decide +kernel
theorem dM_no_11 : decode cM_no 11 = .ok (.goto 4, 3) := by decide +kernel
theorem dM_no_14 : decode cM_no 14 = .ok (.iconst 0, 1) := by decide +kernel
theorem dM_no_15 : decode cM_no 15 = .ok (.ireturn, 1) := by decide +kernel
abbrev cM_clear : ByteArray := prog_7_method_4_code
abbrev yM_clear : MethodName := ⟨"WholeDeskModel", "clear", "([I)V"⟩
theorem qM_clear : yM_clear.cls ≠ "java/lang/invoke/MethodHandle" ∧ yM_clear.cls ≠ "java/lang/invoke/VarHandle" ∧ (parseMethodDescriptor yM_clear.desc).map (fun d => d.parameters.length) = some 1 := by decide +kernel
theorem dM_clear_0 : decode cM_clear 0 = .ok (.iconst 0, 1) := by decide +kernel
theorem dM_clear_1 : decode cM_clear 1 = .ok (.istore_n 1, 1) := by decide +kernel
theorem dM_clear_2 : decode cM_clear 2 = .ok (.iload_n 1, 1) := by decide +kernel
theorem dM_clear_3 : decode cM_clear 3 = .ok (.aload_n 0, 1) := by decide +kernel
theorem dM_clear_4 : decode cM_clear 4 = .ok (.arraylength, 1) := by decide +kernel
theorem dM_clear_5 : decode cM_clear 5 = .ok (.if_icmp .ge 13, 3) := by decide +kernel
theorem dM_clear_8 : decode cM_clear 8 = .ok (.aload_n 0, 1) := by decide +kernel
theorem dM_clear_9 : decode cM_clear 9 = .ok (.iload_n 1, 1) := by decide +kernel
theorem dM_clear_10 : decode cM_clear 10 = .ok (.iconst 0, 1) := by decide +kernel
theorem dM_clear_11 : decode cM_clear 11 = .ok (.iastore, 1) := by decide +kernel
theorem dM_clear_12 : decode cM_clear 12 = .ok (.iinc 1 1, 3) := by decide +kernel
theorem dM_clear_15 : decode cM_clear 15 = .ok (.goto (-13), 3) := by decide +kernel
theorem dM_clear_18 : decode cM_clear 18 = .ok (.return_, 1) := by decide +kernel
abbrev cM_copy : ByteArray := prog_7_method_5_code
abbrev yM_copy : MethodName := ⟨"WholeDeskModel", "copy", "([I[I)V"⟩
theorem qM_copy : yM_copy.cls ≠ "java/lang/invoke/MethodHandle" ∧ yM_copy.cls ≠ "java/lang/invoke/VarHandle" ∧ (parseMethodDescriptor yM_copy.desc).map (fun d => d.parameters.length) = some 2 := by decide +kernel
theorem dM_copy_0 : decode cM_copy 0 = .ok (.iconst 0, 1) := by decide +kernel
theorem dM_copy_1 : decode cM_copy 1 = .ok (.istore_n 2, 1) := by decide +kernel
theorem dM_copy_2 : decode cM_copy 2 = .ok (.iload_n 2, 1) := by decide +kernel
theorem dM_copy_3 : decode cM_copy 3 = .ok (.aload_n 1, 1) := by decide +kernel
theorem dM_copy_4 : decode cM_copy 4 = .ok (.arraylength, 1) := by decide +kernel
theorem dM_copy_5 : decode cM_copy 5 = .ok (.if_icmp .ge 25, 3) := by decide +kernel
theorem dM_copy_8 : decode cM_copy 8 = .ok (.aload_n 1, 1) := by decide +kernel
theorem dM_copy_9 : decode cM_copy 9 = .ok (.iload_n 2, 1) := by decide +kernel
theorem dM_copy_10 : decode cM_copy 10 = .ok (.iload_n 2, 1) := by decide +kernel
theorem dM_copy_11 : decode cM_copy 11 = .ok (.aload_n 0, 1) := by decide +kernel
theorem dM_copy_12 : decode cM_copy 12 = .ok (.arraylength, 1) := by decide +kernel
theorem dM_copy_13 : decode cM_copy 13 = .ok (.if_icmp .ge 9, 3) := by decide +kernel
theorem dM_copy_16 : decode cM_copy 16 = .ok (.aload_n 0, 1) := by decide +kernel
theorem dM_copy_17 : decode cM_copy 17 = .ok (.iload_n 2, 1) := by decide +kernel
theorem dM_copy_18 : decode cM_copy 18 = .ok (.iaload, 1) := by decide +kernel
theorem dM_copy_19 : decode cM_copy 19 = .ok (.goto 4, 3) := by decide +kernel
theorem dM_copy_22 : decode cM_copy 22 = .ok (.iconst 0, 1) := by decide +kernel
theorem dM_copy_23 : decode cM_copy 23 = .ok (.iastore, 1) := by decide +kernel
theorem dM_copy_24 : decode cM_copy 24 = .ok (.iinc 2 1, 3) := by decide +kernel
theorem dM_copy_27 : decode cM_copy 27 = .ok (.goto (-25), 3) := by decide +kernel
theorem dM_copy_30 : decode cM_copy 30 = .ok (.return_, 1) := by decide +kernel
abbrev cM_take : ByteArray := prog_7_method_6_code
abbrev yM_take : MethodName := ⟨"WholeDeskModel", "take", "(I[I)V"⟩
theorem qM_take : yM_take.cls ≠ "java/lang/invoke/MethodHandle" ∧ yM_take.cls ≠ "java/lang/invoke/VarHandle" ∧ (parseMethodDescriptor yM_take.desc).map (fun d => d.parameters.length) = some 2 := by decide +kernel
theorem dM_take_0 : decode cM_take 0 = .ok (.iconst 0, 1) := by decide +kernel
theorem dM_take_1 : decode cM_take 1 = .ok (.istore_n 3, 1) := by decide +kernel
theorem dM_take_2 : decode cM_take 2 = .ok (.iload_n 3, 1) := by decide +kernel
theorem dM_take_3 : decode cM_take 3 = .ok (.aload_n 2, 1) := by decide +kernel
theorem dM_take_4 : decode cM_take 4 = .ok (.arraylength, 1) := by decide +kernel
theorem dM_take_5 : decode cM_take 5 = .ok (.if_icmp .ge 35, 3) := by decide +kernel
theorem dM_take_8 : decode cM_take 8 = .ok (.aload_n 2, 1) := by decide +kernel
theorem dM_take_9 : decode cM_take 9 = .ok (.iload_n 3, 1) := by decide +kernel
theorem dM_take_10 : decode cM_take 10 = .ok (.iload_n 3, 1) := by decide +kernel
theorem dM_take_11 : decode cM_take 11 = .ok (.sipush 128, 3) := by decide +kernel
theorem dM_take_14 : decode cM_take 14 = .ok (.if_icmp .ge 18, 3) := by decide +kernel
theorem dM_take_17 : decode cM_take 17 = .ok (.aload_n 0, 1) := by decide +kernel
theorem dM_take_18 : decode cM_take 18 = .ok (.getfield 13, 3) := by decide +kernel
theorem dM_take_21 : decode cM_take 21 = .ok (.sipush 128, 3) := by decide +kernel
theorem dM_take_24 : decode cM_take 24 = .ok (.iload_n 1, 1) := by decide +kernel
theorem dM_take_25 : decode cM_take 25 = .ok (.imul, 1) := by decide +kernel
theorem dM_take_26 : decode cM_take 26 = .ok (.iload_n 3, 1) := by decide +kernel
theorem dM_take_27 : decode cM_take 27 = .ok (.iadd, 1) := by decide +kernel
theorem dM_take_28 : decode cM_take 28 = .ok (.iaload, 1) := by decide +kernel
theorem dM_take_29 : decode cM_take 29 = .ok (.goto 4, 3) := by decide +kernel
theorem dM_take_32 : decode cM_take 32 = .ok (.iconst 0, 1) := by decide +kernel
theorem dM_take_33 : decode cM_take 33 = .ok (.iastore, 1) := by decide +kernel
theorem dM_take_34 : decode cM_take 34 = .ok (.iinc 3 1, 3) := by decide +kernel
theorem dM_take_37 : decode cM_take 37 = .ok (.goto (-35), 3) := by decide +kernel
theorem dM_take_40 : decode cM_take 40 = .ok (.return_, 1) := by decide +kernel
abbrev cM_size : ByteArray := prog_7_method_7_code
abbrev yM_size : MethodName := ⟨"WholeDeskModel", "size", "([I)I"⟩
theorem qM_size : yM_size.cls ≠ "java/lang/invoke/MethodHandle" ∧ yM_size.cls ≠ "java/lang/invoke/VarHandle" ∧ (parseMethodDescriptor yM_size.desc).map (fun d => d.parameters.length) = some 1 := by decide +kernel
theorem dM_size_0 : decode cM_size 0 = .ok (.aload_n 0, 1) := by decide +kernel
theorem dM_size_1 : decode cM_size 1 = .ok (.arraylength, 1) := by decide +kernel
theorem dM_size_2 : decode cM_size 2 = .ok (.istore_n 1, 1) := by decide +kernel
theorem dM_size_3 : decode cM_size 3 = .ok (.iload_n 1, 1) := by decide +kernel
theorem dM_size_4 : decode cM_size 4 = .ok (.ifCond .le 17, 3) := by decide +kernel
theorem dM_size_7 : decode cM_size 7 = .ok (.aload_n 0, 1) := by decide +kernel
theorem dM_size_8 : decode cM_size 8 = .ok (.iload_n 1, 1) := by decide +kernel
theorem dM_size_9 : decode cM_size 9 = .ok (.iconst 1, 1) := by decide +kernel
theorem dM_size_10 : decode cM_size 10 = .ok (.isub, 1) := by decide +kernel
theorem dM_size_11 : decode cM_size 11 = .ok (.iaload, 1) := by decide +kernel
theorem dM_size_12 : decode cM_size 12 = .ok (.ifCond .ne 9, 3) := by decide +kernel
theorem dM_size_15 : decode cM_size 15 = .ok (.iinc 1 (-1), 3) := by decide +kernel
theorem dM_size_18 : decode cM_size 18 = .ok (.goto (-15), 3) := by decide +kernel
theorem dM_size_21 : decode cM_size 21 = .ok (.iload_n 1, 1) := by decide +kernel
theorem dM_size_22 : decode cM_size 22 = .ok (.ireturn, 1) := by decide +kernel
abbrev cM_isZero : ByteArray := prog_7_method_8_code
abbrev yM_isZero : MethodName := ⟨"WholeDeskModel", "isZero", "(I)Z"⟩
theorem qM_isZero : yM_isZero.cls ≠ "java/lang/invoke/MethodHandle" ∧ yM_isZero.cls ≠ "java/lang/invoke/VarHandle" ∧ (parseMethodDescriptor yM_isZero.desc).map (fun d => d.parameters.length) = some 1 := by decide +kernel
theorem dM_isZero_0 : decode cM_isZero 0 = .ok (.iconst 1, 1) := by decide +kernel
theorem dM_isZero_1 : decode cM_isZero 1 = .ok (.istore_n 2, 1) := by decide +kernel
theorem dM_isZero_2 : decode cM_isZero 2 = .ok (.iconst 0, 1) := by decide +kernel
theorem dM_isZero_3 : decode cM_isZero 3 = .ok (.istore_n 3, 1) := by decide +kernel
theorem dM_isZero_4 : decode cM_isZero 4 = .ok (.iload_n 3, 1) := by decide +kernel
theorem dM_isZero_5 : decode cM_isZero 5 = .ok (.sipush 128, 3) := by decide +kernel
theorem dM_isZero_8 : decode cM_isZero 8 = .ok (.if_icmp .ge 34, 3) := by decide +kernel
theorem dM_isZero_11 : decode cM_isZero 11 = .ok (.iload_n 2, 1) := by decide +kernel
theorem dM_isZero_12 : decode cM_isZero 12 = .ok (.ifCond .eq 22, 3) := by decide +kernel
theorem dM_isZero_15 : decode cM_isZero 15 = .ok (.aload_n 0, 1) := by decide +kernel
theorem dM_isZero_16 : decode cM_isZero 16 = .ok (.getfield 13, 3) := by decide +kernel
theorem dM_isZero_19 : decode cM_isZero 19 = .ok (.sipush 128, 3) := by decide +kernel
theorem dM_isZero_22 : decode cM_isZero 22 = .ok (.iload_n 1, 1) := by decide +kernel
theorem dM_isZero_23 : decode cM_isZero 23 = .ok (.imul, 1) := by decide +kernel
theorem dM_isZero_24 : decode cM_isZero 24 = .ok (.iload_n 3, 1) := by decide +kernel
theorem dM_isZero_25 : decode cM_isZero 25 = .ok (.iadd, 1) := by decide +kernel
theorem dM_isZero_26 : decode cM_isZero 26 = .ok (.iaload, 1) := by decide +kernel
theorem dM_isZero_27 : decode cM_isZero 27 = .ok (.ifCond .ne 7, 3) := by decide +kernel
theorem dM_isZero_30 : decode cM_isZero 30 = .ok (.iconst 1, 1) := by decide +kernel
theorem dM_isZero_31 : decode cM_isZero 31 = .ok (.goto 4, 3) := by decide +kernel
theorem dM_isZero_34 : decode cM_isZero 34 = .ok (.iconst 0, 1) := by decide +kernel
theorem dM_isZero_35 : decode cM_isZero 35 = .ok (.istore_n 2, 1) := by decide +kernel
theorem dM_isZero_36 : decode cM_isZero 36 = .ok (.iinc 3 1, 3) := by decide +kernel
theorem dM_isZero_39 : decode cM_isZero 39 = .ok (.goto (-35), 3) := by decide +kernel
theorem dM_isZero_42 : decode cM_isZero 42 = .ok (.iload_n 2, 1) := by decide +kernel
theorem dM_isZero_43 : decode cM_isZero 43 = .ok (.ireturn, 1) := by decide +kernel
abbrev cM_compareRows : ByteArray := prog_7_method_9_code
abbrev yM_compareRows : MethodName := ⟨"WholeDeskModel", "compareRows", "([I[I)I"⟩
theorem qM_compareRows : yM_compareRows.cls ≠ "java/lang/invoke/MethodHandle" ∧ yM_compareRows.cls ≠ "java/lang/invoke/VarHandle" ∧ (parseMethodDescriptor yM_compareRows.desc).map (fun d => d.parameters.length) = some 2 := by decide +kernel
theorem dM_compareRows_0 : decode cM_compareRows 0 = .ok (.aload_n 0, 1) := by decide +kernel
theorem dM_compareRows_1 : decode cM_compareRows 1 = .ok (.arraylength, 1) := by decide +kernel
theorem dM_compareRows_2 : decode cM_compareRows 2 = .ok (.iconst 1, 1) := by decide +kernel
theorem dM_compareRows_3 : decode cM_compareRows 3 = .ok (.isub, 1) := by decide +kernel
theorem dM_compareRows_4 : decode cM_compareRows 4 = .ok (.istore_n 2, 1) := by decide +kernel
theorem dM_compareRows_5 : decode cM_compareRows 5 = .ok (.iload_n 2, 1) := by decide +kernel
theorem dM_compareRows_6 : decode cM_compareRows 6 = .ok (.ifCond .lt 33, 3) := by decide +kernel
theorem dM_compareRows_9 : decode cM_compareRows 9 = .ok (.aload_n 0, 1) := by decide +kernel
theorem dM_compareRows_10 : decode cM_compareRows 10 = .ok (.iload_n 2, 1) := by decide +kernel
theorem dM_compareRows_11 : decode cM_compareRows 11 = .ok (.iaload, 1) := by decide +kernel
theorem dM_compareRows_12 : decode cM_compareRows 12 = .ok (.aload_n 1, 1) := by decide +kernel
theorem dM_compareRows_13 : decode cM_compareRows 13 = .ok (.iload_n 2, 1) := by decide +kernel
theorem dM_compareRows_14 : decode cM_compareRows 14 = .ok (.iaload, 1) := by decide +kernel
theorem dM_compareRows_15 : decode cM_compareRows 15 = .ok (.if_icmp .eq 18, 3) := by decide +kernel
theorem dM_compareRows_18 : decode cM_compareRows 18 = .ok (.aload_n 0, 1) := by decide +kernel
theorem dM_compareRows_19 : decode cM_compareRows 19 = .ok (.iload_n 2, 1) := by decide +kernel
theorem dM_compareRows_20 : decode cM_compareRows 20 = .ok (.iaload, 1) := by decide +kernel
theorem dM_compareRows_21 : decode cM_compareRows 21 = .ok (.aload_n 1, 1) := by decide +kernel
theorem dM_compareRows_22 : decode cM_compareRows 22 = .ok (.iload_n 2, 1) := by decide +kernel
theorem dM_compareRows_23 : decode cM_compareRows 23 = .ok (.iaload, 1) := by decide +kernel
theorem dM_compareRows_24 : decode cM_compareRows 24 = .ok (.if_icmp .ge 7, 3) := by decide +kernel
theorem dM_compareRows_27 : decode cM_compareRows 27 = .ok (.iconst (-1), 1) := by decide +kernel
theorem dM_compareRows_28 : decode cM_compareRows 28 = .ok (.goto 4, 3) := by decide +kernel
theorem dM_compareRows_31 : decode cM_compareRows 31 = .ok (.iconst 1, 1) := by decide +kernel
theorem dM_compareRows_32 : decode cM_compareRows 32 = .ok (.ireturn, 1) := by decide +kernel
theorem dM_compareRows_33 : decode cM_compareRows 33 = .ok (.iinc 2 (-1), 3) := by decide +kernel
theorem dM_compareRows_36 : decode cM_compareRows 36 = .ok (.goto (-31), 3) := by decide +kernel
theorem dM_compareRows_39 : decode cM_compareRows 39 = .ok (.iconst 0, 1) := by decide +kernel
theorem dM_compareRows_40 : decode cM_compareRows 40 = .ok (.ireturn, 1) := by decide +kernel
abbrev cM_join : ByteArray := prog_7_method_10_code
abbrev yM_join : MethodName := ⟨"WholeDeskModel", "join", "([I[IIJZ)V"⟩
theorem qM_join : yM_join.cls ≠ "java/lang/invoke/MethodHandle" ∧ yM_join.cls ≠ "java/lang/invoke/VarHandle" ∧ (parseMethodDescriptor yM_join.desc).map (fun d => d.parameters.length) = some 5 := by decide +kernel
theorem dM_join_0 : decode cM_join 0 = .ok (.lconst 0, 1) := by decide +kernel
theorem dM_join_1 : decode cM_join 1 = .ok (.lstore 6, 2) := by decide +kernel
theorem dM_join_3 : decode cM_join 3 = .ok (.iconst 0, 1) := by decide +kernel
theorem dM_join_4 : decode cM_join 4 = .ok (.istore 8, 2) := by decide +kernel
theorem dM_join_6 : decode cM_join 6 = .ok (.iload 8, 2) := by decide +kernel
theorem dM_join_8 : decode cM_join 8 = .ok (.aload_n 0, 1) := by decide +kernel
theorem dM_join_9 : decode cM_join 9 = .ok (.arraylength, 1) := by decide +kernel
theorem dM_join_10 : decode cM_join 10 = .ok (.if_icmp .ge 83, 3) := by decide +kernel
theorem dM_join_13 : decode cM_join 13 = .ok (.iload 8, 2) := by decide +kernel
theorem dM_join_15 : decode cM_join 15 = .ok (.iload_n 2, 1) := by decide +kernel
theorem dM_join_16 : decode cM_join 16 = .ok (.if_icmp .lt 10, 3) := by decide +kernel
theorem dM_join_19 : decode cM_join 19 = .ok (.lload 6, 2) := by decide +kernel
theorem dM_join_21 : decode cM_join 21 = .ok (.lconst 0, 1) := by decide +kernel
theorem dM_join_22 : decode cM_join 22 = .ok (.lcmp, 1) := by decide +kernel
theorem dM_join_23 : decode cM_join 23 = .ok (.ifCond .eq 70, 3) := by decide +kernel
theorem dM_join_26 : decode cM_join 26 = .ok (.iload 8, 2) := by decide +kernel
theorem dM_join_28 : decode cM_join 28 = .ok (.iload_n 2, 1) := by decide +kernel
theorem dM_join_29 : decode cM_join 29 = .ok (.if_icmp .ge 13, 3) := by decide +kernel
theorem dM_join_32 : decode cM_join 32 = .ok (.aload_n 1, 1) := by decide +kernel
theorem dM_join_33 : decode cM_join 33 = .ok (.iload 8, 2) := by decide +kernel
theorem dM_join_35 : decode cM_join 35 = .ok (.iaload, 1) := by decide +kernel
theorem dM_join_36 : decode cM_join 36 = .ok (.i2l, 1) := by decide +kernel
theorem dM_join_37 : decode cM_join 37 = .ok (.lload_n 3, 1) := by decide +kernel
theorem dM_join_38 : decode cM_join 38 = .ok (.lmul, 1) := by decide +kernel
theorem dM_join_39 : decode cM_join 39 = .ok (.goto 4, 3) := by decide +kernel
theorem dM_join_42 : decode cM_join 42 = .ok (.lconst 0, 1) := by decide +kernel
theorem dM_join_43 : decode cM_join 43 = .ok (.lstore 9, 2) := by decide +kernel
theorem dM_join_45 : decode cM_join 45 = .ok (.lload 6, 2) := by decide +kernel
theorem dM_join_47 : decode cM_join 47 = .ok (.aload_n 0, 1) := by decide +kernel
theorem dM_join_48 : decode cM_join 48 = .ok (.iload 8, 2) := by decide +kernel
theorem dM_join_50 : decode cM_join 50 = .ok (.iaload, 1) := by decide +kernel
theorem dM_join_51 : decode cM_join 51 = .ok (.i2l, 1) := by decide +kernel
theorem dM_join_52 : decode cM_join 52 = .ok (.ladd, 1) := by decide +kernel
theorem dM_join_53 : decode cM_join 53 = .ok (.iload 5, 2) := by decide +kernel
theorem dM_join_55 : decode cM_join 55 = .ok (.ifCond .eq 9, 3) := by decide +kernel
theorem dM_join_58 : decode cM_join 58 = .ok (.lload 9, 2) := by decide +kernel
theorem dM_join_60 : decode cM_join 60 = .ok (.lneg, 1) := by decide +kernel
theorem dM_join_61 : decode cM_join 61 = .ok (.goto 5, 3) := by decide +kernel
theorem dM_join_64 : decode cM_join 64 = .ok (.lload 9, 2) := by decide +kernel
theorem dM_join_66 : decode cM_join 66 = .ok (.ladd, 1) := by decide +kernel
theorem dM_join_67 : decode cM_join 67 = .ok (.lstore 6, 2) := by decide +kernel
theorem dM_join_69 : decode cM_join 69 = .ok (.aload_n 0, 1) := by decide +kernel
theorem dM_join_70 : decode cM_join 70 = .ok (.iload 8, 2) := by decide +kernel
theorem dM_join_72 : decode cM_join 72 = .ok (.lload 6, 2) := by decide +kernel
theorem dM_join_74 : decode cM_join 74 = .ok (.ldc2_w 57, 3) := by decide +kernel
theorem dM_join_77 : decode cM_join 77 = .ok (.land, 1) := by decide +kernel
theorem dM_join_78 : decode cM_join 78 = .ok (.l2i, 1) := by decide +kernel
theorem dM_join_79 : decode cM_join 79 = .ok (.iastore, 1) := by decide +kernel
theorem dM_join_80 : decode cM_join 80 = .ok (.lload 6, 2) := by decide +kernel
theorem dM_join_82 : decode cM_join 82 = .ok (.bipush 16, 2) := by decide +kernel
theorem dM_join_84 : decode cM_join 84 = .ok (.lshr, 1) := by decide +kernel
theorem dM_join_85 : decode cM_join 85 = .ok (.lstore 6, 2) := by decide +kernel
theorem dM_join_87 : decode cM_join 87 = .ok (.iinc 8 1, 3) := by decide +kernel
theorem dM_join_90 : decode cM_join 90 = .ok (.goto (-84), 3) := by decide +kernel
theorem dM_join_93 : decode cM_join 93 = .ok (.return_, 1) := by decide +kernel
abbrev cM_grow : ByteArray := prog_7_method_11_code
abbrev yM_grow : MethodName := ⟨"WholeDeskModel", "grow", "([III)V"⟩
theorem qM_grow : yM_grow.cls ≠ "java/lang/invoke/MethodHandle" ∧ yM_grow.cls ≠ "java/lang/invoke/VarHandle" ∧ (parseMethodDescriptor yM_grow.desc).map (fun d => d.parameters.length) = some 3 := by decide +kernel
theorem dM_grow_0 : decode cM_grow 0 = .ok (.iload_n 2, 1) := by decide +kernel
theorem dM_grow_1 : decode cM_grow 1 = .ok (.i2l, 1) := by decide +kernel
theorem dM_grow_2 : decode cM_grow 2 = .ok (.lstore_n 3, 1) := by decide +kernel
theorem dM_grow_3 : decode cM_grow 3 = .ok (.aload_n 0, 1) := by decide +kernel
theorem dM_grow_4 : decode cM_grow 4 = .ok (.invokestatic 59, 3) := by decide +kernel
theorem dM_grow_7 : decode cM_grow 7 = .ok (.istore 5, 2) := by decide +kernel
theorem dM_grow_9 : decode cM_grow 9 = .ok (.iconst 0, 1) := by decide +kernel
theorem dM_grow_10 : decode cM_grow 10 = .ok (.istore 6, 2) := by decide +kernel
theorem dM_grow_12 : decode cM_grow 12 = .ok (.iload 6, 2) := by decide +kernel
theorem dM_grow_14 : decode cM_grow 14 = .ok (.iload 5, 2) := by decide +kernel
theorem dM_grow_16 : decode cM_grow 16 = .ok (.if_icmp .lt 9, 3) := by decide +kernel
theorem dM_grow_19 : decode cM_grow 19 = .ok (.lload_n 3, 1) := by decide +kernel
theorem dM_grow_20 : decode cM_grow 20 = .ok (.lconst 0, 1) := by decide +kernel
theorem dM_grow_21 : decode cM_grow 21 = .ok (.lcmp, 1) := by decide +kernel
theorem dM_grow_22 : decode cM_grow 22 = .ok (.ifCond .eq 43, 3) := by decide +kernel
theorem dM_grow_25 : decode cM_grow 25 = .ok (.iload 6, 2) := by decide +kernel
theorem dM_grow_27 : decode cM_grow 27 = .ok (.aload_n 0, 1) := by decide +kernel
theorem dM_grow_28 : decode cM_grow 28 = .ok (.arraylength, 1) := by decide +kernel
theorem dM_grow_29 : decode cM_grow 29 = .ok (.if_icmp .lt 4, 3) := by decide +kernel
theorem dM_grow_32 : decode cM_grow 32 = .ok (.return_, 1) := by decide +kernel
theorem dM_grow_33 : decode cM_grow 33 = .ok (.lload_n 3, 1) := by decide +kernel
theorem dM_grow_34 : decode cM_grow 34 = .ok (.aload_n 0, 1) := by decide +kernel
theorem dM_grow_35 : decode cM_grow 35 = .ok (.iload 6, 2) := by decide +kernel
theorem dM_grow_37 : decode cM_grow 37 = .ok (.iaload, 1) := by decide +kernel
theorem dM_grow_38 : decode cM_grow 38 = .ok (.i2l, 1) := by decide +kernel
theorem dM_grow_39 : decode cM_grow 39 = .ok (.iload_n 1, 1) := by decide +kernel
theorem dM_grow_40 : decode cM_grow 40 = .ok (.i2l, 1) := by decide +kernel
theorem dM_grow_41 : decode cM_grow 41 = .ok (.lmul, 1) := by decide +kernel
theorem dM_grow_42 : decode cM_grow 42 = .ok (.ladd, 1) := by decide +kernel
theorem dM_grow_43 : decode cM_grow 43 = .ok (.lstore_n 3, 1) := by decide +kernel
theorem dM_grow_44 : decode cM_grow 44 = .ok (.aload_n 0, 1) := by decide +kernel
theorem dM_grow_45 : decode cM_grow 45 = .ok (.iload 6, 2) := by decide +kernel
theorem dM_grow_47 : decode cM_grow 47 = .ok (.lload_n 3, 1) := by decide +kernel
theorem dM_grow_48 : decode cM_grow 48 = .ok (.ldc2_w 57, 3) := by decide +kernel
theorem dM_grow_51 : decode cM_grow 51 = .ok (.land, 1) := by decide +kernel
theorem dM_grow_52 : decode cM_grow 52 = .ok (.l2i, 1) := by decide +kernel
theorem dM_grow_53 : decode cM_grow 53 = .ok (.iastore, 1) := by decide +kernel
theorem dM_grow_54 : decode cM_grow 54 = .ok (.lload_n 3, 1) := by decide +kernel
theorem dM_grow_55 : decode cM_grow 55 = .ok (.bipush 16, 2) := by decide +kernel
theorem dM_grow_57 : decode cM_grow 57 = .ok (.lshr, 1) := by decide +kernel
theorem dM_grow_58 : decode cM_grow 58 = .ok (.lstore_n 3, 1) := by decide +kernel
theorem dM_grow_59 : decode cM_grow 59 = .ok (.iinc 6 1, 3) := by decide +kernel
theorem dM_grow_62 : decode cM_grow 62 = .ok (.goto (-50), 3) := by decide +kernel
theorem dM_grow_65 : decode cM_grow 65 = .ok (.return_, 1) := by decide +kernel
abbrev cM_shrink : ByteArray := prog_7_method_12_code
abbrev yM_shrink : MethodName := ⟨"WholeDeskModel", "shrink", "([II)I"⟩
theorem qM_shrink : yM_shrink.cls ≠ "java/lang/invoke/MethodHandle" ∧ yM_shrink.cls ≠ "java/lang/invoke/VarHandle" ∧ (parseMethodDescriptor yM_shrink.desc).map (fun d => d.parameters.length) = some 2 := by decide +kernel
theorem dM_shrink_0 : decode cM_shrink 0 = .ok (.lconst 0, 1) := by decide +kernel
theorem dM_shrink_1 : decode cM_shrink 1 = .ok (.lstore_n 2, 1) := by decide +kernel
theorem dM_shrink_2 : decode cM_shrink 2 = .ok (.aload_n 0, 1) := by decide +kernel
theorem dM_shrink_3 : decode cM_shrink 3 = .ok (.invokestatic 59, 3) := by decide +kernel
theorem dM_shrink_6 : decode cM_shrink 6 = .ok (.iconst 1, 1) := by decide +kernel
theorem dM_shrink_7 : decode cM_shrink 7 = .ok (.isub, 1) := by decide +kernel
theorem dM_shrink_8 : decode cM_shrink 8 = .ok (.istore 4, 2) := by decide +kernel
theorem dM_shrink_10 : decode cM_shrink 10 = .ok (.iload 4, 2) := by decide +kernel
theorem dM_shrink_12 : decode cM_shrink 12 = .ok (.ifCond .lt 34, 3) := by decide +kernel
theorem dM_shrink_15 : decode cM_shrink 15 = .ok (.lload_n 2, 1) := by decide +kernel
theorem dM_shrink_16 : decode cM_shrink 16 = .ok (.bipush 16, 2) := by decide +kernel
theorem dM_shrink_18 : decode cM_shrink 18 = .ok (.lshl, 1) := by decide +kernel
theorem dM_shrink_19 : decode cM_shrink 19 = .ok (.aload_n 0, 1) := by decide +kernel
theorem dM_shrink_20 : decode cM_shrink 20 = .ok (.iload 4, 2) := by decide +kernel
theorem dM_shrink_22 : decode cM_shrink 22 = .ok (.iaload, 1) := by decide +kernel
theorem dM_shrink_23 : decode cM_shrink 23 = .ok (.i2l, 1) := by decide +kernel
theorem dM_shrink_24 : decode cM_shrink 24 = .ok (.lor, 1) := by decide +kernel
theorem dM_shrink_25 : decode cM_shrink 25 = .ok (.lstore_n 2, 1) := by decide +kernel
theorem dM_shrink_26 : decode cM_shrink 26 = .ok (.aload_n 0, 1) := by decide +kernel
theorem dM_shrink_27 : decode cM_shrink 27 = .ok (.iload 4, 2) := by decide +kernel
theorem dM_shrink_29 : decode cM_shrink 29 = .ok (.lload_n 2, 1) := by decide +kernel
theorem dM_shrink_30 : decode cM_shrink 30 = .ok (.iload_n 1, 1) := by decide +kernel
theorem dM_shrink_31 : decode cM_shrink 31 = .ok (.i2l, 1) := by decide +kernel
theorem dM_shrink_32 : decode cM_shrink 32 = .ok (.ldiv, 1) := by decide +kernel
theorem dM_shrink_33 : decode cM_shrink 33 = .ok (.l2i, 1) := by decide +kernel
theorem dM_shrink_34 : decode cM_shrink 34 = .ok (.iastore, 1) := by decide +kernel
theorem dM_shrink_35 : decode cM_shrink 35 = .ok (.lload_n 2, 1) := by decide +kernel
theorem dM_shrink_36 : decode cM_shrink 36 = .ok (.iload_n 1, 1) := by decide +kernel
theorem dM_shrink_37 : decode cM_shrink 37 = .ok (.i2l, 1) := by decide +kernel
theorem dM_shrink_38 : decode cM_shrink 38 = .ok (.lrem, 1) := by decide +kernel
theorem dM_shrink_39 : decode cM_shrink 39 = .ok (.lstore_n 2, 1) := by decide +kernel
theorem dM_shrink_40 : decode cM_shrink 40 = .ok (.iinc 4 (-1), 3) := by decide +kernel
theorem dM_shrink_43 : decode cM_shrink 43 = .ok (.goto (-33), 3) := by decide +kernel
theorem dM_shrink_46 : decode cM_shrink 46 = .ok (.lload_n 2, 1) := by decide +kernel
theorem dM_shrink_47 : decode cM_shrink 47 = .ok (.l2i, 1) := by decide +kernel
theorem dM_shrink_48 : decode cM_shrink 48 = .ok (.ireturn, 1) := by decide +kernel
abbrev cM_multiplyRows : ByteArray := prog_7_method_13_code
abbrev yM_multiplyRows : MethodName := ⟨"WholeDeskModel", "multiplyRows", "([I[I[I)V"⟩
theorem qM_multiplyRows : yM_multiplyRows.cls ≠ "java/lang/invoke/MethodHandle" ∧ yM_multiplyRows.cls ≠ "java/lang/invoke/VarHandle" ∧ (parseMethodDescriptor yM_multiplyRows.desc).map (fun d => d.parameters.length) = some 3 := by decide +kernel
theorem dM_multiplyRows_0 : decode cM_multiplyRows 0 = .ok (.aload_n 0, 1) := by decide +kernel
theorem dM_multiplyRows_1 : decode cM_multiplyRows 1 = .ok (.getfield 26, 3) := by decide +kernel
theorem dM_multiplyRows_4 : decode cM_multiplyRows 4 = .ok (.invokestatic 63, 3) := by decide +kernel
theorem dM_multiplyRows_7 : decode cM_multiplyRows 7 = .ok (.aload_n 1, 1) := by decide +kernel
theorem dM_multiplyRows_8 : decode cM_multiplyRows 8 = .ok (.invokestatic 59, 3) := by decide +kernel
theorem dM_multiplyRows_11 : decode cM_multiplyRows 11 = .ok (.istore 4, 2) := by decide +kernel
theorem dM_multiplyRows_13 : decode cM_multiplyRows 13 = .ok (.aload_n 2, 1) := by decide +kernel
theorem dM_multiplyRows_14 : decode cM_multiplyRows 14 = .ok (.invokestatic 59, 3) := by decide +kernel
theorem dM_multiplyRows_17 : decode cM_multiplyRows 17 = .ok (.istore 5, 2) := by decide +kernel
theorem dM_multiplyRows_19 : decode cM_multiplyRows 19 = .ok (.iconst 0, 1) := by decide +kernel
theorem dM_multiplyRows_20 : decode cM_multiplyRows 20 = .ok (.istore 6, 2) := by decide +kernel
theorem dM_multiplyRows_22 : decode cM_multiplyRows 22 = .ok (.iload 6, 2) := by decide +kernel
theorem dM_multiplyRows_24 : decode cM_multiplyRows 24 = .ok (.iload 4, 2) := by decide +kernel
theorem dM_multiplyRows_26 : decode cM_multiplyRows 26 = .ok (.if_icmp .ge 98, 3) := by decide +kernel
theorem dM_multiplyRows_29 : decode cM_multiplyRows 29 = .ok (.lconst 0, 1) := by decide +kernel
theorem dM_multiplyRows_30 : decode cM_multiplyRows 30 = .ok (.lstore 7, 2) := by decide +kernel
theorem dM_multiplyRows_32 : decode cM_multiplyRows 32 = .ok (.iconst 0, 1) := by decide +kernel
theorem dM_multiplyRows_33 : decode cM_multiplyRows 33 = .ok (.istore 9, 2) := by decide +kernel
theorem dM_multiplyRows_35 : decode cM_multiplyRows 35 = .ok (.iload 9, 2) := by decide +kernel
theorem dM_multiplyRows_37 : decode cM_multiplyRows 37 = .ok (.iload 5, 2) := by decide +kernel
theorem dM_multiplyRows_39 : decode cM_multiplyRows 39 = .ok (.if_icmp .lt 10, 3) := by decide +kernel
theorem dM_multiplyRows_42 : decode cM_multiplyRows 42 = .ok (.lload 7, 2) := by decide +kernel
theorem dM_multiplyRows_44 : decode cM_multiplyRows 44 = .ok (.lconst 0, 1) := by decide +kernel
theorem dM_multiplyRows_45 : decode cM_multiplyRows 45 = .ok (.lcmp, 1) := by decide +kernel
theorem dM_multiplyRows_46 : decode cM_multiplyRows 46 = .ok (.ifCond .eq 72, 3) := by decide +kernel
theorem dM_multiplyRows_49 : decode cM_multiplyRows 49 = .ok (.lload 7, 2) := by decide +kernel
theorem dM_multiplyRows_51 : decode cM_multiplyRows 51 = .ok (.aload_n 0, 1) := by decide +kernel
theorem dM_multiplyRows_52 : decode cM_multiplyRows 52 = .ok (.getfield 26, 3) := by decide +kernel
theorem dM_multiplyRows_55 : decode cM_multiplyRows 55 = .ok (.iload 6, 2) := by decide +kernel
theorem dM_multiplyRows_57 : decode cM_multiplyRows 57 = .ok (.iload 9, 2) := by decide +kernel
theorem dM_multiplyRows_59 : decode cM_multiplyRows 59 = .ok (.iadd, 1) := by decide +kernel
theorem dM_multiplyRows_60 : decode cM_multiplyRows 60 = .ok (.iaload, 1) := by decide +kernel
theorem dM_multiplyRows_61 : decode cM_multiplyRows 61 = .ok (.i2l, 1) := by decide +kernel
theorem dM_multiplyRows_62 : decode cM_multiplyRows 62 = .ok (.ladd, 1) := by decide +kernel
theorem dM_multiplyRows_63 : decode cM_multiplyRows 63 = .ok (.iload 9, 2) := by decide +kernel
theorem dM_multiplyRows_65 : decode cM_multiplyRows 65 = .ok (.iload 5, 2) := by decide +kernel
theorem dM_multiplyRows_67 : decode cM_multiplyRows 67 = .ok (.if_icmp .ge 17, 3) := by decide +kernel
theorem dM_multiplyRows_70 : decode cM_multiplyRows 70 = .ok (.aload_n 1, 1) := by decide +kernel
theorem dM_multiplyRows_71 : decode cM_multiplyRows 71 = .ok (.iload 6, 2) := by decide +kernel
theorem dM_multiplyRows_73 : decode cM_multiplyRows 73 = .ok (.iaload, 1) := by decide +kernel
theorem dM_multiplyRows_74 : decode cM_multiplyRows 74 = .ok (.i2l, 1) := by decide +kernel
theorem dM_multiplyRows_75 : decode cM_multiplyRows 75 = .ok (.aload_n 2, 1) := by decide +kernel
theorem dM_multiplyRows_76 : decode cM_multiplyRows 76 = .ok (.iload 9, 2) := by decide +kernel
theorem dM_multiplyRows_78 : decode cM_multiplyRows 78 = .ok (.iaload, 1) := by decide +kernel
theorem dM_multiplyRows_79 : decode cM_multiplyRows 79 = .ok (.i2l, 1) := by decide +kernel
theorem dM_multiplyRows_80 : decode cM_multiplyRows 80 = .ok (.lmul, 1) := by decide +kernel
theorem dM_multiplyRows_81 : decode cM_multiplyRows 81 = .ok (.goto 4, 3) := by decide +kernel
theorem dM_multiplyRows_84 : decode cM_multiplyRows 84 = .ok (.lconst 0, 1) := by decide +kernel
theorem dM_multiplyRows_85 : decode cM_multiplyRows 85 = .ok (.ladd, 1) := by decide +kernel
theorem dM_multiplyRows_86 : decode cM_multiplyRows 86 = .ok (.lstore 7, 2) := by decide +kernel
theorem dM_multiplyRows_88 : decode cM_multiplyRows 88 = .ok (.aload_n 0, 1) := by decide +kernel
theorem dM_multiplyRows_89 : decode cM_multiplyRows 89 = .ok (.getfield 26, 3) := by decide +kernel
theorem dM_multiplyRows_92 : decode cM_multiplyRows 92 = .ok (.iload 6, 2) := by decide +kernel
theorem dM_multiplyRows_94 : decode cM_multiplyRows 94 = .ok (.iload 9, 2) := by decide +kernel
theorem dM_multiplyRows_96 : decode cM_multiplyRows 96 = .ok (.iadd, 1) := by decide +kernel
theorem dM_multiplyRows_97 : decode cM_multiplyRows 97 = .ok (.lload 7, 2) := by decide +kernel
theorem dM_multiplyRows_99 : decode cM_multiplyRows 99 = .ok (.ldc2_w 57, 3) := by decide +kernel
theorem dM_multiplyRows_102 : decode cM_multiplyRows 102 = .ok (.land, 1) := by decide +kernel
theorem dM_multiplyRows_103 : decode cM_multiplyRows 103 = .ok (.l2i, 1) := by decide +kernel
theorem dM_multiplyRows_104 : decode cM_multiplyRows 104 = .ok (.iastore, 1) := by decide +kernel
theorem dM_multiplyRows_105 : decode cM_multiplyRows 105 = .ok (.lload 7, 2) := by decide +kernel
theorem dM_multiplyRows_107 : decode cM_multiplyRows 107 = .ok (.bipush 16, 2) := by decide +kernel
theorem dM_multiplyRows_109 : decode cM_multiplyRows 109 = .ok (.lshr, 1) := by decide +kernel
theorem dM_multiplyRows_110 : decode cM_multiplyRows 110 = .ok (.lstore 7, 2) := by decide +kernel
theorem dM_multiplyRows_112 : decode cM_multiplyRows 112 = .ok (.iinc 9 1, 3) := by decide +kernel
theorem dM_multiplyRows_115 : decode cM_multiplyRows 115 = .ok (.goto (-80), 3) := by decide +kernel
theorem dM_multiplyRows_118 : decode cM_multiplyRows 118 = .ok (.iinc 6 1, 3) := by decide +kernel
theorem dM_multiplyRows_121 : decode cM_multiplyRows 121 = .ok (.goto (-99), 3) := by decide +kernel
theorem dM_multiplyRows_124 : decode cM_multiplyRows 124 = .ok (.aload_n 0, 1) := by decide +kernel
theorem dM_multiplyRows_125 : decode cM_multiplyRows 125 = .ok (.getfield 26, 3) := by decide +kernel
theorem dM_multiplyRows_128 : decode cM_multiplyRows 128 = .ok (.aload_n 3, 1) := by decide +kernel
theorem dM_multiplyRows_129 : decode cM_multiplyRows 129 = .ok (.invokestatic 67, 3) := by decide +kernel
theorem dM_multiplyRows_132 : decode cM_multiplyRows 132 = .ok (.return_, 1) := by decide +kernel
abbrev cM_divideRows : ByteArray := prog_7_method_14_code
abbrev yM_divideRows : MethodName := ⟨"WholeDeskModel", "divideRows", "([I[I)V"⟩
theorem qM_divideRows : yM_divideRows.cls ≠ "java/lang/invoke/MethodHandle" ∧ yM_divideRows.cls ≠ "java/lang/invoke/VarHandle" ∧ (parseMethodDescriptor yM_divideRows.desc).map (fun d => d.parameters.length) = some 2 := by decide +kernel
theorem dM_divideRows_0 : decode cM_divideRows 0 = .ok (.aload_n 1, 1) := by decide +kernel
theorem dM_divideRows_1 : decode cM_divideRows 1 = .ok (.invokestatic 59, 3) := by decide +kernel
theorem dM_divideRows_4 : decode cM_divideRows 4 = .ok (.istore_n 3, 1) := by decide +kernel
theorem dM_divideRows_5 : decode cM_divideRows 5 = .ok (.aload_n 2, 1) := by decide +kernel
theorem dM_divideRows_6 : decode cM_divideRows 6 = .ok (.invokestatic 59, 3) := by decide +kernel
theorem dM_divideRows_9 : decode cM_divideRows 9 = .ok (.istore 4, 2) := by decide +kernel
theorem dM_divideRows_11 : decode cM_divideRows 11 = .ok (.aload_n 0, 1) := by decide +kernel
theorem dM_divideRows_12 : decode cM_divideRows 12 = .ok (.getfield 32, 3) := by decide +kernel
theorem dM_divideRows_15 : decode cM_divideRows 15 = .ok (.invokestatic 63, 3) := by decide +kernel
theorem dM_divideRows_18 : decode cM_divideRows 18 = .ok (.aload_n 0, 1) := by decide +kernel
theorem dM_divideRows_19 : decode cM_divideRows 19 = .ok (.getfield 29, 3) := by decide +kernel
theorem dM_divideRows_22 : decode cM_divideRows 22 = .ok (.invokestatic 63, 3) := by decide +kernel
theorem dM_divideRows_25 : decode cM_divideRows 25 = .ok (.iload_n 3, 1) := by decide +kernel
theorem dM_divideRows_26 : decode cM_divideRows 26 = .ok (.iload 4, 2) := by decide +kernel
theorem dM_divideRows_28 : decode cM_divideRows 28 = .ok (.if_icmp .ge 7, 3) := by decide +kernel
theorem dM_divideRows_31 : decode cM_divideRows 31 = .ok (.iconst 0, 1) := by decide +kernel
theorem dM_divideRows_32 : decode cM_divideRows 32 = .ok (.goto 9, 3) := by decide +kernel
theorem dM_divideRows_35 : decode cM_divideRows 35 = .ok (.iload_n 3, 1) := by decide +kernel
theorem dM_divideRows_36 : decode cM_divideRows 36 = .ok (.iload 4, 2) := by decide +kernel
theorem dM_divideRows_38 : decode cM_divideRows 38 = .ok (.isub, 1) := by decide +kernel
theorem dM_divideRows_39 : decode cM_divideRows 39 = .ok (.iconst 1, 1) := by decide +kernel
theorem dM_divideRows_40 : decode cM_divideRows 40 = .ok (.iadd, 1) := by decide +kernel
theorem dM_divideRows_41 : decode cM_divideRows 41 = .ok (.istore 5, 2) := by decide +kernel
theorem dM_divideRows_43 : decode cM_divideRows 43 = .ok (.iload 5, 2) := by decide +kernel
theorem dM_divideRows_45 : decode cM_divideRows 45 = .ok (.istore 6, 2) := by decide +kernel
theorem dM_divideRows_47 : decode cM_divideRows 47 = .ok (.iload 6, 2) := by decide +kernel
theorem dM_divideRows_49 : decode cM_divideRows 49 = .ok (.iload_n 3, 1) := by decide +kernel
theorem dM_divideRows_50 : decode cM_divideRows 50 = .ok (.if_icmp .ge 23, 3) := by decide +kernel
theorem dM_divideRows_53 : decode cM_divideRows 53 = .ok (.aload_n 0, 1) := by decide +kernel
theorem dM_divideRows_54 : decode cM_divideRows 54 = .ok (.getfield 29, 3) := by decide +kernel
theorem dM_divideRows_57 : decode cM_divideRows 57 = .ok (.iload 6, 2) := by decide +kernel
theorem dM_divideRows_59 : decode cM_divideRows 59 = .ok (.iload 5, 2) := by decide +kernel
theorem dM_divideRows_61 : decode cM_divideRows 61 = .ok (.isub, 1) := by decide +kernel
theorem dM_divideRows_62 : decode cM_divideRows 62 = .ok (.aload_n 1, 1) := by decide +kernel
theorem dM_divideRows_63 : decode cM_divideRows 63 = .ok (.iload 6, 2) := by decide +kernel
theorem dM_divideRows_65 : decode cM_divideRows 65 = .ok (.iaload, 1) := by decide +kernel
theorem dM_divideRows_66 : decode cM_divideRows 66 = .ok (.iastore, 1) := by decide +kernel
theorem dM_divideRows_67 : decode cM_divideRows 67 = .ok (.iinc 6 1, 3) := by decide +kernel
theorem dM_divideRows_70 : decode cM_divideRows 70 = .ok (.goto (-23), 3) := by decide +kernel
theorem dM_divideRows_73 : decode cM_divideRows 73 = .ok (.iload 5, 2) := by decide +kernel
theorem dM_divideRows_75 : decode cM_divideRows 75 = .ok (.iconst 1, 1) := by decide +kernel
theorem dM_divideRows_76 : decode cM_divideRows 76 = .ok (.isub, 1) := by decide +kernel
theorem dM_divideRows_77 : decode cM_divideRows 77 = .ok (.istore 6, 2) := by decide +kernel
theorem dM_divideRows_79 : decode cM_divideRows 79 = .ok (.iload 6, 2) := by decide +kernel
theorem dM_divideRows_81 : decode cM_divideRows 81 = .ok (.ifCond .lt 197, 3) := by decide +kernel
theorem dM_divideRows_84 : decode cM_divideRows 84 = .ok (.iload 4, 2) := by decide +kernel
theorem dM_divideRows_86 : decode cM_divideRows 86 = .ok (.istore 7, 2) := by decide +kernel
theorem dM_divideRows_88 : decode cM_divideRows 88 = .ok (.iload 7, 2) := by decide +kernel
theorem dM_divideRows_90 : decode cM_divideRows 90 = .ok (.ifCond .le 25, 3) := by decide +kernel
theorem dM_divideRows_93 : decode cM_divideRows 93 = .ok (.aload_n 0, 1) := by decide +kernel
theorem dM_divideRows_94 : decode cM_divideRows 94 = .ok (.getfield 29, 3) := by decide +kernel
theorem dM_divideRows_97 : decode cM_divideRows 97 = .ok (.iload 7, 2) := by decide +kernel
theorem dM_divideRows_99 : decode cM_divideRows 99 = .ok (.aload_n 0, 1) := by decide +kernel
theorem dM_divideRows_100 : decode cM_divideRows 100 = .ok (.getfield 29, 3) := by decide +kernel
theorem dM_divideRows_103 : decode cM_divideRows 103 = .ok (.iload 7, 2) := by decide +kernel
theorem dM_divideRows_105 : decode cM_divideRows 105 = .ok (.iconst 1, 1) := by decide +kernel
theorem dM_divideRows_106 : decode cM_divideRows 106 = .ok (.isub, 1) := by decide +kernel
theorem dM_divideRows_107 : decode cM_divideRows 107 = .ok (.iaload, 1) := by decide +kernel
theorem dM_divideRows_108 : decode cM_divideRows 108 = .ok (.iastore, 1) := by decide +kernel
theorem dM_divideRows_109 : decode cM_divideRows 109 = .ok (.iinc 7 (-1), 3) := by decide +kernel
theorem dM_divideRows_112 : decode cM_divideRows 112 = .ok (.goto (-24), 3) := by decide +kernel
theorem dM_divideRows_115 : decode cM_divideRows 115 = .ok (.aload_n 0, 1) := by decide +kernel
theorem dM_divideRows_116 : decode cM_divideRows 116 = .ok (.getfield 29, 3) := by decide +kernel
theorem dM_divideRows_119 : decode cM_divideRows 119 = .ok (.iconst 0, 1) := by decide +kernel
theorem dM_divideRows_120 : decode cM_divideRows 120 = .ok (.aload_n 1, 1) := by decide +kernel
theorem dM_divideRows_121 : decode cM_divideRows 121 = .ok (.iload 6, 2) := by decide +kernel
theorem dM_divideRows_123 : decode cM_divideRows 123 = .ok (.iaload, 1) := by decide +kernel
theorem dM_divideRows_124 : decode cM_divideRows 124 = .ok (.iastore, 1) := by decide +kernel
theorem dM_divideRows_125 : decode cM_divideRows 125 = .ok (.aload_n 2, 1) := by decide +kernel
theorem dM_divideRows_126 : decode cM_divideRows 126 = .ok (.iload 4, 2) := by decide +kernel
theorem dM_divideRows_128 : decode cM_divideRows 128 = .ok (.iconst 1, 1) := by decide +kernel
theorem dM_divideRows_129 : decode cM_divideRows 129 = .ok (.isub, 1) := by decide +kernel
theorem dM_divideRows_130 : decode cM_divideRows 130 = .ok (.iaload, 1) := by decide +kernel
theorem dM_divideRows_131 : decode cM_divideRows 131 = .ok (.i2l, 1) := by decide +kernel
theorem dM_divideRows_132 : decode cM_divideRows 132 = .ok (.bipush 16, 2) := by decide +kernel
theorem dM_divideRows_134 : decode cM_divideRows 134 = .ok (.lshl, 1) := by decide +kernel
theorem dM_divideRows_135 : decode cM_divideRows 135 = .ok (.iload 4, 2) := by decide +kernel
theorem dM_divideRows_137 : decode cM_divideRows 137 = .ok (.iconst 1, 1) := by decide +kernel
theorem dM_divideRows_138 : decode cM_divideRows 138 = .ok (.if_icmp .le 12, 3) := by decide +kernel
theorem dM_divideRows_141 : decode cM_divideRows 141 = .ok (.aload_n 2, 1) := by decide +kernel
theorem dM_divideRows_142 : decode cM_divideRows 142 = .ok (.iload 4, 2) := by decide +kernel
theorem dM_divideRows_144 : decode cM_divideRows 144 = .ok (.iconst 2, 1) := by decide +kernel
theorem dM_divideRows_145 : decode cM_divideRows 145 = .ok (.isub, 1) := by decide +kernel
theorem dM_divideRows_146 : decode cM_divideRows 146 = .ok (.iaload, 1) := by decide +kernel
theorem dM_divideRows_147 : decode cM_divideRows 147 = .ok (.goto 4, 3) := by decide +kernel
theorem dM_divideRows_150 : decode cM_divideRows 150 = .ok (.iconst 0, 1) := by decide +kernel
theorem dM_divideRows_151 : decode cM_divideRows 151 = .ok (.i2l, 1) := by decide +kernel
theorem dM_divideRows_152 : decode cM_divideRows 152 = .ok (.lor, 1) := by decide +kernel
theorem dM_divideRows_153 : decode cM_divideRows 153 = .ok (.lstore 7, 2) := by decide +kernel
theorem dM_divideRows_155 : decode cM_divideRows 155 = .ok (.aload_n 0, 1) := by decide +kernel
theorem dM_divideRows_156 : decode cM_divideRows 156 = .ok (.getfield 29, 3) := by decide +kernel
theorem dM_divideRows_159 : decode cM_divideRows 159 = .ok (.aload_n 2, 1) := by decide +kernel
theorem dM_divideRows_160 : decode cM_divideRows 160 = .ok (.invokestatic 71, 3) := by decide +kernel
theorem dM_divideRows_163 : decode cM_divideRows 163 = .ok (.ifCond .lt 109, 3) := by decide +kernel
theorem dM_divideRows_166 : decode cM_divideRows 166 = .ok (.aload_n 0, 1) := by decide +kernel
theorem dM_divideRows_167 : decode cM_divideRows 167 = .ok (.getfield 29, 3) := by decide +kernel
theorem dM_divideRows_170 : decode cM_divideRows 170 = .ok (.iload 4, 2) := by decide +kernel
theorem dM_divideRows_172 : decode cM_divideRows 172 = .ok (.iaload, 1) := by decide +kernel
theorem dM_divideRows_173 : decode cM_divideRows 173 = .ok (.i2l, 1) := by decide +kernel
theorem dM_divideRows_174 : decode cM_divideRows 174 = .ok (.bipush 16, 2) := by decide +kernel
theorem dM_divideRows_176 : decode cM_divideRows 176 = .ok (.lshl, 1) := by decide +kernel
theorem dM_divideRows_177 : decode cM_divideRows 177 = .ok (.aload_n 0, 1) := by decide +kernel
theorem dM_divideRows_178 : decode cM_divideRows 178 = .ok (.getfield 29, 3) := by decide +kernel
theorem dM_divideRows_181 : decode cM_divideRows 181 = .ok (.iload 4, 2) := by decide +kernel
theorem dM_divideRows_183 : decode cM_divideRows 183 = .ok (.iconst 1, 1) := by decide +kernel
theorem dM_divideRows_184 : decode cM_divideRows 184 = .ok (.isub, 1) := by decide +kernel
theorem dM_divideRows_185 : decode cM_divideRows 185 = .ok (.iaload, 1) := by decide +kernel
theorem dM_divideRows_186 : decode cM_divideRows 186 = .ok (.i2l, 1) := by decide +kernel
theorem dM_divideRows_187 : decode cM_divideRows 187 = .ok (.lor, 1) := by decide +kernel
theorem dM_divideRows_188 : decode cM_divideRows 188 = .ok (.bipush 16, 2) := by decide +kernel
theorem dM_divideRows_190 : decode cM_divideRows 190 = .ok (.lshl, 1) := by decide +kernel
theorem dM_divideRows_191 : decode cM_divideRows 191 = .ok (.iload 4, 2) := by decide +kernel
theorem dM_divideRows_193 : decode cM_divideRows 193 = .ok (.iconst 1, 1) := by decide +kernel
theorem dM_divideRows_194 : decode cM_divideRows 194 = .ok (.if_icmp .le 15, 3) := by decide +kernel
theorem dM_divideRows_197 : decode cM_divideRows 197 = .ok (.aload_n 0, 1) := by decide +kernel
theorem dM_divideRows_198 : decode cM_divideRows 198 = .ok (.getfield 29, 3) := by decide +kernel
theorem dM_divideRows_201 : decode cM_divideRows 201 = .ok (.iload 4, 2) := by decide +kernel
theorem dM_divideRows_203 : decode cM_divideRows 203 = .ok (.iconst 2, 1) := by decide +kernel
theorem dM_divideRows_204 : decode cM_divideRows 204 = .ok (.isub, 1) := by decide +kernel
theorem dM_divideRows_205 : decode cM_divideRows 205 = .ok (.iaload, 1) := by decide +kernel
theorem dM_divideRows_206 : decode cM_divideRows 206 = .ok (.goto 4, 3) := by decide +kernel
theorem dM_divideRows_209 : decode cM_divideRows 209 = .ok (.iconst 0, 1) := by decide +kernel
theorem dM_divideRows_210 : decode cM_divideRows 210 = .ok (.i2l, 1) := by decide +kernel
theorem dM_divideRows_211 : decode cM_divideRows 211 = .ok (.lor, 1) := by decide +kernel
theorem dM_divideRows_212 : decode cM_divideRows 212 = .ok (.lstore 9, 2) := by decide +kernel
theorem dM_divideRows_214 : decode cM_divideRows 214 = .ok (.lload 9, 2) := by decide +kernel
theorem dM_divideRows_216 : decode cM_divideRows 216 = .ok (.lload 7, 2) := by decide +kernel
theorem dM_divideRows_218 : decode cM_divideRows 218 = .ok (.lconst 1, 1) := by decide +kernel
theorem dM_divideRows_219 : decode cM_divideRows 219 = .ok (.ladd, 1) := by decide +kernel
theorem dM_divideRows_220 : decode cM_divideRows 220 = .ok (.ldiv, 1) := by decide +kernel
theorem dM_divideRows_221 : decode cM_divideRows 221 = .ok (.lstore 11, 2) := by decide +kernel
theorem dM_divideRows_223 : decode cM_divideRows 223 = .ok (.lload 11, 2) := by decide +kernel
theorem dM_divideRows_225 : decode cM_divideRows 225 = .ok (.lconst 1, 1) := by decide +kernel
theorem dM_divideRows_226 : decode cM_divideRows 226 = .ok (.lcmp, 1) := by decide +kernel
theorem dM_divideRows_227 : decode cM_divideRows 227 = .ok (.ifCond .ge 7, 3) := by decide +kernel
theorem dM_divideRows_230 : decode cM_divideRows 230 = .ok (.lconst 1, 1) := by decide +kernel
theorem dM_divideRows_231 : decode cM_divideRows 231 = .ok (.goto 5, 3) := by decide +kernel
theorem dM_divideRows_234 : decode cM_divideRows 234 = .ok (.lload 11, 2) := by decide +kernel
theorem dM_divideRows_236 : decode cM_divideRows 236 = .ok (.lstore 11, 2) := by decide +kernel
theorem dM_divideRows_238 : decode cM_divideRows 238 = .ok (.aload_n 0, 1) := by decide +kernel
theorem dM_divideRows_239 : decode cM_divideRows 239 = .ok (.getfield 29, 3) := by decide +kernel
theorem dM_divideRows_242 : decode cM_divideRows 242 = .ok (.aload_n 2, 1) := by decide +kernel
theorem dM_divideRows_243 : decode cM_divideRows 243 = .ok (.iload 4, 2) := by decide +kernel
theorem dM_divideRows_245 : decode cM_divideRows 245 = .ok (.lload 11, 2) := by decide +kernel
theorem dM_divideRows_247 : decode cM_divideRows 247 = .ok (.iconst 1, 1) := by decide +kernel
theorem dM_divideRows_248 : decode cM_divideRows 248 = .ok (.invokestatic 75, 3) := by decide +kernel
theorem dM_divideRows_251 : decode cM_divideRows 251 = .ok (.aload_n 0, 1) := by decide +kernel
theorem dM_divideRows_252 : decode cM_divideRows 252 = .ok (.getfield 32, 3) := by decide +kernel
theorem dM_divideRows_255 : decode cM_divideRows 255 = .ok (.iload 6, 2) := by decide +kernel
theorem dM_divideRows_257 : decode cM_divideRows 257 = .ok (.aload_n 0, 1) := by decide +kernel
theorem dM_divideRows_258 : decode cM_divideRows 258 = .ok (.getfield 32, 3) := by decide +kernel
theorem dM_divideRows_261 : decode cM_divideRows 261 = .ok (.iload 6, 2) := by decide +kernel
theorem dM_divideRows_263 : decode cM_divideRows 263 = .ok (.iaload, 1) := by decide +kernel
theorem dM_divideRows_264 : decode cM_divideRows 264 = .ok (.lload 11, 2) := by decide +kernel
theorem dM_divideRows_266 : decode cM_divideRows 266 = .ok (.l2i, 1) := by decide +kernel
theorem dM_divideRows_267 : decode cM_divideRows 267 = .ok (.iadd, 1) := by decide +kernel
theorem dM_divideRows_268 : decode cM_divideRows 268 = .ok (.iastore, 1) := by decide +kernel
theorem dM_divideRows_269 : decode cM_divideRows 269 = .ok (.goto (-114), 3) := by decide +kernel
theorem dM_divideRows_272 : decode cM_divideRows 272 = .ok (.iinc 6 (-1), 3) := by decide +kernel
theorem dM_divideRows_275 : decode cM_divideRows 275 = .ok (.goto (-196), 3) := by decide +kernel
theorem dM_divideRows_278 : decode cM_divideRows 278 = .ok (.return_, 1) := by decide +kernel
abbrev cM_store : ByteArray := prog_7_method_15_code
abbrev yM_store : MethodName := ⟨"WholeDeskModel", "store", "(I)V"⟩
theorem qM_store : yM_store.cls ≠ "java/lang/invoke/MethodHandle" ∧ yM_store.cls ≠ "java/lang/invoke/VarHandle" ∧ (parseMethodDescriptor yM_store.desc).map (fun d => d.parameters.length) = some 1 := by decide +kernel
theorem dM_store_0 : decode cM_store 0 = .ok (.aload_n 0, 1) := by decide +kernel
theorem dM_store_1 : decode cM_store 1 = .ok (.getfield 20, 3) := by decide +kernel
theorem dM_store_4 : decode cM_store 4 = .ok (.invokestatic 59, 3) := by decide +kernel
theorem dM_store_7 : decode cM_store 7 = .ok (.sipush 128, 3) := by decide +kernel
theorem dM_store_10 : decode cM_store 10 = .ok (.if_icmp .le 12, 3) := by decide +kernel
theorem dM_store_13 : decode cM_store 13 = .ok (.aload_n 0, 1) := by decide +kernel
theorem dM_store_14 : decode cM_store 14 = .ok (.aload_n 0, 1) := by decide +kernel
theorem dM_store_15 : decode cM_store 15 = .ok (.getfield 79, 3) := by decide +kernel
theorem dM_store_18 : decode cM_store 18 = .ok (.putfield 53, 3) := by decide +kernel
theorem dM_store_21 : decode cM_store 21 = .ok (.return_, 1) := by decide +kernel
theorem dM_store_22 : decode cM_store 22 = .ok (.iconst 0, 1) := by decide +kernel
theorem dM_store_23 : decode cM_store 23 = .ok (.istore_n 2, 1) := by decide +kernel
theorem dM_store_24 : decode cM_store 24 = .ok (.iconst 0, 1) := by decide +kernel
theorem dM_store_25 : decode cM_store 25 = .ok (.istore_n 3, 1) := by decide +kernel
theorem dM_store_26 : decode cM_store 26 = .ok (.iload_n 3, 1) := by decide +kernel
theorem dM_store_27 : decode cM_store 27 = .ok (.sipush 128, 3) := by decide +kernel
theorem dM_store_30 : decode cM_store 30 = .ok (.if_icmp .ge 46, 3) := by decide +kernel
theorem dM_store_33 : decode cM_store 33 = .ok (.aload_n 0, 1) := by decide +kernel
theorem dM_store_34 : decode cM_store 34 = .ok (.getfield 13, 3) := by decide +kernel
theorem dM_store_37 : decode cM_store 37 = .ok (.sipush 128, 3) := by decide +kernel
theorem dM_store_40 : decode cM_store 40 = .ok (.iload_n 1, 1) := by decide +kernel
theorem dM_store_41 : decode cM_store 41 = .ok (.imul, 1) := by decide +kernel
theorem dM_store_42 : decode cM_store 42 = .ok (.iload_n 3, 1) := by decide +kernel
theorem dM_store_43 : decode cM_store 43 = .ok (.iadd, 1) := by decide +kernel
theorem dM_store_44 : decode cM_store 44 = .ok (.aload_n 0, 1) := by decide +kernel
theorem dM_store_45 : decode cM_store 45 = .ok (.getfield 20, 3) := by decide +kernel
theorem dM_store_48 : decode cM_store 48 = .ok (.iload_n 3, 1) := by decide +kernel
theorem dM_store_49 : decode cM_store 49 = .ok (.iaload, 1) := by decide +kernel
theorem dM_store_50 : decode cM_store 50 = .ok (.iastore, 1) := by decide +kernel
theorem dM_store_51 : decode cM_store 51 = .ok (.iload_n 2, 1) := by decide +kernel
theorem dM_store_52 : decode cM_store 52 = .ok (.ifCond .ne 12, 3) := by decide +kernel
theorem dM_store_55 : decode cM_store 55 = .ok (.aload_n 0, 1) := by decide +kernel
theorem dM_store_56 : decode cM_store 56 = .ok (.getfield 20, 3) := by decide +kernel
theorem dM_store_59 : decode cM_store 59 = .ok (.iload_n 3, 1) := by decide +kernel
theorem dM_store_60 : decode cM_store 60 = .ok (.iaload, 1) := by decide +kernel
theorem dM_store_61 : decode cM_store 61 = .ok (.ifCond .eq 7, 3) := by decide +kernel
theorem dM_store_64 : decode cM_store 64 = .ok (.iconst 1, 1) := by decide +kernel
theorem dM_store_65 : decode cM_store 65 = .ok (.goto 4, 3) := by decide +kernel
theorem dM_store_68 : decode cM_store 68 = .ok (.iconst 0, 1) := by decide +kernel
theorem dM_store_69 : decode cM_store 69 = .ok (.istore_n 2, 1) := by decide +kernel
theorem dM_store_70 : decode cM_store 70 = .ok (.iinc 3 1, 3) := by decide +kernel
theorem dM_store_73 : decode cM_store 73 = .ok (.goto (-47), 3) := by decide +kernel
theorem dM_store_76 : decode cM_store 76 = .ok (.aload_n 0, 1) := by decide +kernel
theorem dM_store_77 : decode cM_store 77 = .ok (.getfield 16, 3) := by decide +kernel
theorem dM_store_80 : decode cM_store 80 = .ok (.iload_n 1, 1) := by decide +kernel
theorem dM_store_81 : decode cM_store 81 = .ok (.aload_n 0, 1) := by decide +kernel
theorem dM_store_82 : decode cM_store 82 = .ok (.getfield 82, 3) := by decide +kernel
theorem dM_store_85 : decode cM_store 85 = .ok (.ifCond .eq 11, 3) := by decide +kernel
theorem dM_store_88 : decode cM_store 88 = .ok (.iload_n 2, 1) := by decide +kernel
theorem dM_store_89 : decode cM_store 89 = .ok (.ifCond .eq 7, 3) := by decide +kernel
theorem dM_store_92 : decode cM_store 92 = .ok (.iconst 1, 1) := by decide +kernel
theorem dM_store_93 : decode cM_store 93 = .ok (.goto 4, 3) := by decide +kernel
theorem dM_store_96 : decode cM_store 96 = .ok (.iconst 0, 1) := by decide +kernel
theorem dM_store_97 : decode cM_store 97 = .ok (.bastore, 1) := by decide +kernel
theorem dM_store_98 : decode cM_store 98 = .ok (.return_, 1) := by decide +kernel
abbrev cM_write : ByteArray := prog_7_method_16_code
abbrev yM_write : MethodName := ⟨"WholeDeskModel", "write", "(IJ)I"⟩
theorem qM_write : yM_write.cls ≠ "java/lang/invoke/MethodHandle" ∧ yM_write.cls ≠ "java/lang/invoke/VarHandle" ∧ (parseMethodDescriptor yM_write.desc).map (fun d => d.parameters.length) = some 2 := by decide +kernel
theorem dM_write_0 : decode cM_write 0 = .ok (.aload_n 0, 1) := by decide +kernel
theorem dM_write_1 : decode cM_write 1 = .ok (.iload_n 1, 1) := by decide +kernel
theorem dM_write_2 : decode cM_write 2 = .ok (.iconst 1, 1) := by decide +kernel
theorem dM_write_3 : decode cM_write 3 = .ok (.if_icmp .lt 9, 3) := by decide +kernel
theorem dM_write_6 : decode cM_write 6 = .ok (.iload_n 1, 1) := by decide +kernel
theorem dM_write_7 : decode cM_write 7 = .ok (.bipush 8, 2) := by decide +kernel
theorem dM_write_9 : decode cM_write 9 = .ok (.if_icmp .le 7, 3) := by decide +kernel
theorem dM_write_12 : decode cM_write 12 = .ok (.iconst 1, 1) := by decide +kernel
theorem dM_write_13 : decode cM_write 13 = .ok (.goto 4, 3) := by decide +kernel
theorem dM_write_16 : decode cM_write 16 = .ok (.iconst 0, 1) := by decide +kernel
theorem dM_write_17 : decode cM_write 17 = .ok (.putfield 53, 3) := by decide +kernel
theorem dM_write_20 : decode cM_write 20 = .ok (.aload_n 0, 1) := by decide +kernel
theorem dM_write_21 : decode cM_write 21 = .ok (.getfield 53, 3) := by decide +kernel
theorem dM_write_24 : decode cM_write 24 = .ok (.ifCond .le 5, 3) := by decide +kernel
theorem dM_write_27 : decode cM_write 27 = .ok (.iconst 0, 1) := by decide +kernel
theorem dM_write_28 : decode cM_write 28 = .ok (.ireturn, 1) := by decide +kernel
theorem dM_write_29 : decode cM_write 29 = .ok (.aload_n 0, 1) := by decide +kernel
theorem dM_write_30 : decode cM_write 30 = .ok (.getfield 86, 3) := by decide +kernel
theorem dM_write_33 : decode cM_write 33 = .ok (.iload_n 1, 1) := by decide +kernel
theorem dM_write_34 : decode cM_write 34 = .ok (.iadd, 1) := by decide +kernel
theorem dM_write_35 : decode cM_write 35 = .ok (.sipush 2100, 3) := by decide +kernel
theorem dM_write_38 : decode cM_write 38 = .ok (.if_icmp .le 5, 3) := by decide +kernel
theorem dM_write_41 : decode cM_write 41 = .ok (.iconst (-1), 1) := by decide +kernel
theorem dM_write_42 : decode cM_write 42 = .ok (.ireturn, 1) := by decide +kernel
theorem dM_write_43 : decode cM_write 43 = .ok (.iconst 0, 1) := by decide +kernel
theorem dM_write_44 : decode cM_write 44 = .ok (.istore 4, 2) := by decide +kernel
theorem dM_write_46 : decode cM_write 46 = .ok (.iload 4, 2) := by decide +kernel
theorem dM_write_48 : decode cM_write 48 = .ok (.iload_n 1, 1) := by decide +kernel
theorem dM_write_49 : decode cM_write 49 = .ok (.if_icmp .ge 40, 3) := by decide +kernel
theorem dM_write_52 : decode cM_write 52 = .ok (.aload_n 0, 1) := by decide +kernel
theorem dM_write_53 : decode cM_write 53 = .ok (.getfield 7, 3) := by decide +kernel
theorem dM_write_56 : decode cM_write 56 = .ok (.aload_n 0, 1) := by decide +kernel
theorem dM_write_57 : decode cM_write 57 = .ok (.getfield 86, 3) := by decide +kernel
theorem dM_write_60 : decode cM_write 60 = .ok (.lload_n 2, 1) := by decide +kernel
theorem dM_write_61 : decode cM_write 61 = .ok (.bipush 8, 2) := by decide +kernel
theorem dM_write_63 : decode cM_write 63 = .ok (.iload 4, 2) := by decide +kernel
theorem dM_write_65 : decode cM_write 65 = .ok (.imul, 1) := by decide +kernel
theorem dM_write_66 : decode cM_write 66 = .ok (.lshr, 1) := by decide +kernel
theorem dM_write_67 : decode cM_write 67 = .ok (.ldc2_w 89, 3) := by decide +kernel
theorem dM_write_70 : decode cM_write 70 = .ok (.land, 1) := by decide +kernel
theorem dM_write_71 : decode cM_write 71 = .ok (.l2i, 1) := by decide +kernel
theorem dM_write_72 : decode cM_write 72 = .ok (.iastore, 1) := by decide +kernel
theorem dM_write_73 : decode cM_write 73 = .ok (.aload_n 0, 1) := by decide +kernel
theorem dM_write_74 : decode cM_write 74 = .ok (.dup, 1) := by decide +kernel
theorem dM_write_75 : decode cM_write 75 = .ok (.getfield 86, 3) := by decide +kernel
theorem dM_write_78 : decode cM_write 78 = .ok (.iconst 1, 1) := by decide +kernel
theorem dM_write_79 : decode cM_write 79 = .ok (.iadd, 1) := by decide +kernel
theorem dM_write_80 : decode cM_write 80 = .ok (.putfield 86, 3) := by decide +kernel
theorem dM_write_83 : decode cM_write 83 = .ok (.iinc 4 1, 3) := by decide +kernel
theorem dM_write_86 : decode cM_write 86 = .ok (.goto (-40), 3) := by decide +kernel
theorem dM_write_89 : decode cM_write 89 = .ok (.aload_n 0, 1) := by decide +kernel
theorem dM_write_90 : decode cM_write 90 = .ok (.getfield 86, 3) := by decide +kernel
theorem dM_write_93 : decode cM_write 93 = .ok (.ireturn, 1) := by decide +kernel
abbrev cM_wipe : ByteArray := prog_7_method_17_code
abbrev yM_wipe : MethodName := ⟨"WholeDeskModel", "wipe", "()I"⟩
theorem qM_wipe : yM_wipe.cls ≠ "java/lang/invoke/MethodHandle" ∧ yM_wipe.cls ≠ "java/lang/invoke/VarHandle" ∧ (parseMethodDescriptor yM_wipe.desc).map (fun d => d.parameters.length) = some 0 := by decide +kernel
theorem dM_wipe_0 : decode cM_wipe 0 = .ok (.aload_n 0, 1) := by decide +kernel
theorem dM_wipe_1 : decode cM_wipe 1 = .ok (.iconst 0, 1) := by decide +kernel
theorem dM_wipe_2 : decode cM_wipe 2 = .ok (.putfield 53, 3) := by decide +kernel
theorem dM_wipe_5 : decode cM_wipe 5 = .ok (.aload_n 0, 1) := by decide +kernel
theorem dM_wipe_6 : decode cM_wipe 6 = .ok (.getfield 86, 3) := by decide +kernel
theorem dM_wipe_9 : decode cM_wipe 9 = .ok (.istore_n 1, 1) := by decide +kernel
theorem dM_wipe_10 : decode cM_wipe 10 = .ok (.aload_n 0, 1) := by decide +kernel
theorem dM_wipe_11 : decode cM_wipe 11 = .ok (.iconst 0, 1) := by decide +kernel
theorem dM_wipe_12 : decode cM_wipe 12 = .ok (.putfield 86, 3) := by decide +kernel
theorem dM_wipe_15 : decode cM_wipe 15 = .ok (.iload_n 1, 1) := by decide +kernel
theorem dM_wipe_16 : decode cM_wipe 16 = .ok (.ireturn, 1) := by decide +kernel
abbrev cM_digit : ByteArray := prog_7_method_18_code
abbrev yM_digit : MethodName := ⟨"WholeDeskModel", "digit", "(I)I"⟩
theorem qM_digit : yM_digit.cls ≠ "java/lang/invoke/MethodHandle" ∧ yM_digit.cls ≠ "java/lang/invoke/VarHandle" ∧ (parseMethodDescriptor yM_digit.desc).map (fun d => d.parameters.length) = some 1 := by decide +kernel
theorem dM_digit_0 : decode cM_digit 0 = .ok (.iload_n 0, 1) := by decide +kernel
theorem dM_digit_1 : decode cM_digit 1 = .ok (.bipush 48, 2) := by decide +kernel
theorem dM_digit_3 : decode cM_digit 3 = .ok (.if_icmp .lt 16, 3) := by decide +kernel
theorem dM_digit_6 : decode cM_digit 6 = .ok (.iload_n 0, 1) := by decide +kernel
theorem dM_digit_7 : decode cM_digit 7 = .ok (.bipush 57, 2) := by decide +kernel
theorem dM_digit_9 : decode cM_digit 9 = .ok (.if_icmp .gt 10, 3) := by decide +kernel
theorem dM_digit_12 : decode cM_digit 12 = .ok (.iload_n 0, 1) := by decide +kernel
theorem dM_digit_13 : decode cM_digit 13 = .ok (.bipush 48, 2) := by decide +kernel
theorem dM_digit_15 : decode cM_digit 15 = .ok (.isub, 1) := by decide +kernel
theorem dM_digit_16 : decode cM_digit 16 = .ok (.goto 49, 3) := by decide +kernel
theorem dM_digit_19 : decode cM_digit 19 = .ok (.iload_n 0, 1) := by decide +kernel
theorem dM_digit_20 : decode cM_digit 20 = .ok (.bipush 97, 2) := by decide +kernel
theorem dM_digit_22 : decode cM_digit 22 = .ok (.if_icmp .lt 19, 3) := by decide +kernel
theorem dM_digit_25 : decode cM_digit 25 = .ok (.iload_n 0, 1) := by decide +kernel
theorem dM_digit_26 : decode cM_digit 26 = .ok (.bipush 122, 2) := by decide +kernel
theorem dM_digit_28 : decode cM_digit 28 = .ok (.if_icmp .gt 13, 3) := by decide +kernel
theorem dM_digit_31 : decode cM_digit 31 = .ok (.iload_n 0, 1) := by decide +kernel
theorem dM_digit_32 : decode cM_digit 32 = .ok (.bipush 97, 2) := by decide +kernel
theorem dM_digit_34 : decode cM_digit 34 = .ok (.isub, 1) := by decide +kernel
theorem dM_digit_35 : decode cM_digit 35 = .ok (.bipush 10, 2) := by decide +kernel
theorem dM_digit_37 : decode cM_digit 37 = .ok (.iadd, 1) := by decide +kernel
theorem dM_digit_38 : decode cM_digit 38 = .ok (.goto 27, 3) := by decide +kernel
theorem dM_digit_41 : decode cM_digit 41 = .ok (.iload_n 0, 1) := by decide +kernel
theorem dM_digit_42 : decode cM_digit 42 = .ok (.bipush 65, 2) := by decide +kernel
theorem dM_digit_44 : decode cM_digit 44 = .ok (.if_icmp .lt 19, 3) := by decide +kernel
theorem dM_digit_47 : decode cM_digit 47 = .ok (.iload_n 0, 1) := by decide +kernel
theorem dM_digit_48 : decode cM_digit 48 = .ok (.bipush 90, 2) := by decide +kernel
theorem dM_digit_50 : decode cM_digit 50 = .ok (.if_icmp .gt 13, 3) := by decide +kernel
theorem dM_digit_53 : decode cM_digit 53 = .ok (.iload_n 0, 1) := by decide +kernel
theorem dM_digit_54 : decode cM_digit 54 = .ok (.bipush 65, 2) := by decide +kernel
theorem dM_digit_56 : decode cM_digit 56 = .ok (.isub, 1) := by decide +kernel
theorem dM_digit_57 : decode cM_digit 57 = .ok (.bipush 10, 2) := by decide +kernel
theorem dM_digit_59 : decode cM_digit 59 = .ok (.iadd, 1) := by decide +kernel
theorem dM_digit_60 : decode cM_digit 60 = .ok (.goto 5, 3) := by decide +kernel
theorem dM_digit_63 : decode cM_digit 63 = .ok (.bipush 99, 2) := by decide +kernel
theorem dM_digit_65 : decode cM_digit 65 = .ok (.ireturn, 1) := by decide +kernel
abbrev cM_read : ByteArray := prog_7_method_19_code
abbrev yM_read : MethodName := ⟨"WholeDeskModel", "read", "(II)V"⟩
theorem qM_read : yM_read.cls ≠ "java/lang/invoke/MethodHandle" ∧ yM_read.cls ≠ "java/lang/invoke/VarHandle" ∧ (parseMethodDescriptor yM_read.desc).map (fun d => d.parameters.length) = some 2 := by decide +kernel
theorem dM_read_0 : decode cM_read 0 = .ok (.aload_n 0, 1) := by decide +kernel
theorem dM_read_1 : decode cM_read 1 = .ok (.iload_n 1, 1) := by decide +kernel
theorem dM_read_2 : decode cM_read 2 = .ok (.invokestatic 91, 3) := by decide +kernel
theorem dM_read_5 : decode cM_read 5 = .ok (.ifCond .ne 14, 3) := by decide +kernel
theorem dM_read_8 : decode cM_read 8 = .ok (.iload_n 2, 1) := by decide +kernel
theorem dM_read_9 : decode cM_read 9 = .ok (.iconst 2, 1) := by decide +kernel
theorem dM_read_10 : decode cM_read 10 = .ok (.if_icmp .lt 9, 3) := by decide +kernel
theorem dM_read_13 : decode cM_read 13 = .ok (.iload_n 2, 1) := by decide +kernel
theorem dM_read_14 : decode cM_read 14 = .ok (.bipush 36, 2) := by decide +kernel
theorem dM_read_16 : decode cM_read 16 = .ok (.if_icmp .le 7, 3) := by decide +kernel
theorem dM_read_19 : decode cM_read 19 = .ok (.iconst 1, 1) := by decide +kernel
theorem dM_read_20 : decode cM_read 20 = .ok (.goto 4, 3) := by decide +kernel
theorem dM_read_23 : decode cM_read 23 = .ok (.iconst 0, 1) := by decide +kernel
theorem dM_read_24 : decode cM_read 24 = .ok (.putfield 53, 3) := by decide +kernel
theorem dM_read_27 : decode cM_read 27 = .ok (.aload_n 0, 1) := by decide +kernel
theorem dM_read_28 : decode cM_read 28 = .ok (.getfield 53, 3) := by decide +kernel
theorem dM_read_31 : decode cM_read 31 = .ok (.ifCond .le 4, 3) := by decide +kernel
theorem dM_read_34 : decode cM_read 34 = .ok (.return_, 1) := by decide +kernel
theorem dM_read_35 : decode cM_read 35 = .ok (.aload_n 0, 1) := by decide +kernel
theorem dM_read_36 : decode cM_read 36 = .ok (.getfield 86, 3) := by decide +kernel
theorem dM_read_39 : decode cM_read 39 = .ok (.ifCond .le 29, 3) := by decide +kernel
theorem dM_read_42 : decode cM_read 42 = .ok (.aload_n 0, 1) := by decide +kernel
theorem dM_read_43 : decode cM_read 43 = .ok (.getfield 7, 3) := by decide +kernel
theorem dM_read_46 : decode cM_read 46 = .ok (.iconst 0, 1) := by decide +kernel
theorem dM_read_47 : decode cM_read 47 = .ok (.iaload, 1) := by decide +kernel
theorem dM_read_48 : decode cM_read 48 = .ok (.bipush 43, 2) := by decide +kernel
theorem dM_read_50 : decode cM_read 50 = .ok (.if_icmp .eq 14, 3) := by decide +kernel
theorem dM_read_53 : decode cM_read 53 = .ok (.aload_n 0, 1) := by decide +kernel
theorem dM_read_54 : decode cM_read 54 = .ok (.getfield 7, 3) := by decide +kernel
theorem dM_read_57 : decode cM_read 57 = .ok (.iconst 0, 1) := by decide +kernel
theorem dM_read_58 : decode cM_read 58 = .ok (.iaload, 1) := by decide +kernel
theorem dM_read_59 : decode cM_read 59 = .ok (.bipush 45, 2) := by decide +kernel
theorem dM_read_61 : decode cM_read 61 = .ok (.if_icmp .ne 7, 3) := by decide +kernel
theorem dM_read_64 : decode cM_read 64 = .ok (.iconst 1, 1) := by decide +kernel
theorem dM_read_65 : decode cM_read 65 = .ok (.goto 4, 3) := by decide +kernel
theorem dM_read_68 : decode cM_read 68 = .ok (.iconst 0, 1) := by decide +kernel
theorem dM_read_69 : decode cM_read 69 = .ok (.istore_n 3, 1) := by decide +kernel
theorem dM_read_70 : decode cM_read 70 = .ok (.aload_n 0, 1) := by decide +kernel
theorem dM_read_71 : decode cM_read 71 = .ok (.iload_n 3, 1) := by decide +kernel
theorem dM_read_72 : decode cM_read 72 = .ok (.aload_n 0, 1) := by decide +kernel
theorem dM_read_73 : decode cM_read 73 = .ok (.getfield 86, 3) := by decide +kernel
theorem dM_read_76 : decode cM_read 76 = .ok (.if_icmp .ne 7, 3) := by decide +kernel
theorem dM_read_79 : decode cM_read 79 = .ok (.iconst 2, 1) := by decide +kernel
theorem dM_read_80 : decode cM_read 80 = .ok (.goto 4, 3) := by decide +kernel
theorem dM_read_83 : decode cM_read 83 = .ok (.iconst 0, 1) := by decide +kernel
theorem dM_read_84 : decode cM_read 84 = .ok (.putfield 53, 3) := by decide +kernel
theorem dM_read_87 : decode cM_read 87 = .ok (.iload_n 3, 1) := by decide +kernel
theorem dM_read_88 : decode cM_read 88 = .ok (.istore 4, 2) := by decide +kernel
theorem dM_read_90 : decode cM_read 90 = .ok (.iload 4, 2) := by decide +kernel
theorem dM_read_92 : decode cM_read 92 = .ok (.aload_n 0, 1) := by decide +kernel
theorem dM_read_93 : decode cM_read 93 = .ok (.getfield 86, 3) := by decide +kernel
theorem dM_read_96 : decode cM_read 96 = .ok (.if_icmp .ge 35, 3) := by decide +kernel
theorem dM_read_99 : decode cM_read 99 = .ok (.aload_n 0, 1) := by decide +kernel
theorem dM_read_100 : decode cM_read 100 = .ok (.aload_n 0, 1) := by decide +kernel
theorem dM_read_101 : decode cM_read 101 = .ok (.getfield 7, 3) := by decide +kernel
theorem dM_read_104 : decode cM_read 104 = .ok (.iload 4, 2) := by decide +kernel
theorem dM_read_106 : decode cM_read 106 = .ok (.iaload, 1) := by decide +kernel
theorem dM_read_107 : decode cM_read 107 = .ok (.invokestatic 95, 3) := by decide +kernel
theorem dM_read_110 : decode cM_read 110 = .ok (.iload_n 2, 1) := by decide +kernel
theorem dM_read_111 : decode cM_read 111 = .ok (.if_icmp .lt 7, 3) := by decide +kernel
theorem dM_read_114 : decode cM_read 114 = .ok (.iconst 2, 1) := by decide +kernel
theorem dM_read_115 : decode cM_read 115 = .ok (.goto 7, 3) := by decide +kernel
theorem dM_read_118 : decode cM_read 118 = .ok (.aload_n 0, 1) := by decide +kernel
theorem dM_read_119 : decode cM_read 119 = .ok (.getfield 53, 3) := by decide +kernel
theorem dM_read_122 : decode cM_read 122 = .ok (.putfield 53, 3) := by decide +kernel
theorem dM_read_125 : decode cM_read 125 = .ok (.iinc 4 1, 3) := by decide +kernel
theorem dM_read_128 : decode cM_read 128 = .ok (.goto (-38), 3) := by decide +kernel
theorem dM_read_131 : decode cM_read 131 = .ok (.aload_n 0, 1) := by decide +kernel
theorem dM_read_132 : decode cM_read 132 = .ok (.getfield 53, 3) := by decide +kernel
theorem dM_read_135 : decode cM_read 135 = .ok (.ifCond .le 4, 3) := by decide +kernel
theorem dM_read_138 : decode cM_read 138 = .ok (.return_, 1) := by decide +kernel
theorem dM_read_139 : decode cM_read 139 = .ok (.aload_n 0, 1) := by decide +kernel
theorem dM_read_140 : decode cM_read 140 = .ok (.getfield 20, 3) := by decide +kernel
theorem dM_read_143 : decode cM_read 143 = .ok (.invokestatic 63, 3) := by decide +kernel
theorem dM_read_146 : decode cM_read 146 = .ok (.iload_n 3, 1) := by decide +kernel
theorem dM_read_147 : decode cM_read 147 = .ok (.istore 4, 2) := by decide +kernel
theorem dM_read_149 : decode cM_read 149 = .ok (.iload 4, 2) := by decide +kernel
theorem dM_read_151 : decode cM_read 151 = .ok (.aload_n 0, 1) := by decide +kernel
theorem dM_read_152 : decode cM_read 152 = .ok (.getfield 86, 3) := by decide +kernel
theorem dM_read_155 : decode cM_read 155 = .ok (.if_icmp .ge 46, 3) := by decide +kernel
theorem dM_read_158 : decode cM_read 158 = .ok (.aload_n 0, 1) := by decide +kernel
theorem dM_read_159 : decode cM_read 159 = .ok (.getfield 20, 3) := by decide +kernel
theorem dM_read_162 : decode cM_read 162 = .ok (.iload_n 2, 1) := by decide +kernel
theorem dM_read_163 : decode cM_read 163 = .ok (.aload_n 0, 1) := by decide +kernel
theorem dM_read_164 : decode cM_read 164 = .ok (.getfield 7, 3) := by decide +kernel
theorem dM_read_167 : decode cM_read 167 = .ok (.iload 4, 2) := by decide +kernel
theorem dM_read_169 : decode cM_read 169 = .ok (.iaload, 1) := by decide +kernel
theorem dM_read_170 : decode cM_read 170 = .ok (.invokestatic 95, 3) := by decide +kernel
theorem dM_read_173 : decode cM_read 173 = .ok (.invokestatic 99, 3) := by decide +kernel
theorem dM_read_176 : decode cM_read 176 = .ok (.aload_n 0, 1) := by decide +kernel
theorem dM_read_177 : decode cM_read 177 = .ok (.getfield 20, 3) := by decide +kernel
theorem dM_read_180 : decode cM_read 180 = .ok (.invokestatic 59, 3) := by decide +kernel
theorem dM_read_183 : decode cM_read 183 = .ok (.sipush 128, 3) := by decide +kernel
theorem dM_read_186 : decode cM_read 186 = .ok (.if_icmp .le 9, 3) := by decide +kernel
theorem dM_read_189 : decode cM_read 189 = .ok (.aload_n 0, 1) := by decide +kernel
theorem dM_read_190 : decode cM_read 190 = .ok (.iconst 3, 1) := by decide +kernel
theorem dM_read_191 : decode cM_read 191 = .ok (.putfield 53, 3) := by decide +kernel
theorem dM_read_194 : decode cM_read 194 = .ok (.return_, 1) := by decide +kernel
theorem dM_read_195 : decode cM_read 195 = .ok (.iinc 4 1, 3) := by decide +kernel
theorem dM_read_198 : decode cM_read 198 = .ok (.goto (-49), 3) := by decide +kernel
theorem dM_read_201 : decode cM_read 201 = .ok (.aload_n 0, 1) := by decide +kernel
theorem dM_read_202 : decode cM_read 202 = .ok (.aload_n 0, 1) := by decide +kernel
theorem dM_read_203 : decode cM_read 203 = .ok (.getfield 7, 3) := by decide +kernel
theorem dM_read_206 : decode cM_read 206 = .ok (.iconst 0, 1) := by decide +kernel
theorem dM_read_207 : decode cM_read 207 = .ok (.iaload, 1) := by decide +kernel
theorem dM_read_208 : decode cM_read 208 = .ok (.bipush 45, 2) := by decide +kernel
theorem dM_read_210 : decode cM_read 210 = .ok (.if_icmp .ne 7, 3) := by decide +kernel
theorem dM_read_213 : decode cM_read 213 = .ok (.iconst 1, 1) := by decide +kernel
theorem dM_read_214 : decode cM_read 214 = .ok (.goto 4, 3) := by decide +kernel
theorem dM_read_217 : decode cM_read 217 = .ok (.iconst 0, 1) := by decide +kernel
theorem dM_read_218 : decode cM_read 218 = .ok (.putfield 82, 3) := by decide +kernel
theorem dM_read_221 : decode cM_read 221 = .ok (.aload_n 0, 1) := by decide +kernel
theorem dM_read_222 : decode cM_read 222 = .ok (.iload_n 1, 1) := by decide +kernel
theorem dM_read_223 : decode cM_read 223 = .ok (.invokevirtual 103, 3) := by decide +kernel
theorem dM_read_226 : decode cM_read 226 = .ok (.aload_n 0, 1) := by decide +kernel
theorem dM_read_227 : decode cM_read 227 = .ok (.iconst 0, 1) := by decide +kernel
theorem dM_read_228 : decode cM_read 228 = .ok (.putfield 86, 3) := by decide +kernel
theorem dM_read_231 : decode cM_read 231 = .ok (.return_, 1) := by decide +kernel
abbrev cM_put : ByteArray := prog_7_method_20_code
abbrev yM_put : MethodName := ⟨"WholeDeskModel", "put", "(IJ)V"⟩
theorem qM_put : yM_put.cls ≠ "java/lang/invoke/MethodHandle" ∧ yM_put.cls ≠ "java/lang/invoke/VarHandle" ∧ (parseMethodDescriptor yM_put.desc).map (fun d => d.parameters.length) = some 2 := by decide +kernel
theorem dM_put_0 : decode cM_put 0 = .ok (.aload_n 0, 1) := by decide +kernel
theorem dM_put_1 : decode cM_put 1 = .ok (.iload_n 1, 1) := by decide +kernel
theorem dM_put_2 : decode cM_put 2 = .ok (.invokestatic 91, 3) := by decide +kernel
theorem dM_put_5 : decode cM_put 5 = .ok (.ifCond .eq 7, 3) := by decide +kernel
theorem dM_put_8 : decode cM_put 8 = .ok (.iconst 1, 1) := by decide +kernel
theorem dM_put_9 : decode cM_put 9 = .ok (.goto 4, 3) := by decide +kernel
theorem dM_put_12 : decode cM_put 12 = .ok (.iconst 0, 1) := by decide +kernel
theorem dM_put_13 : decode cM_put 13 = .ok (.putfield 53, 3) := by decide +kernel
theorem dM_put_16 : decode cM_put 16 = .ok (.aload_n 0, 1) := by decide +kernel
theorem dM_put_17 : decode cM_put 17 = .ok (.getfield 53, 3) := by decide +kernel
theorem dM_put_20 : decode cM_put 20 = .ok (.ifCond .le 4, 3) := by decide +kernel
theorem dM_put_23 : decode cM_put 23 = .ok (.return_, 1) := by decide +kernel
theorem dM_put_24 : decode cM_put 24 = .ok (.aload_n 0, 1) := by decide +kernel
theorem dM_put_25 : decode cM_put 25 = .ok (.getfield 20, 3) := by decide +kernel
theorem dM_put_28 : decode cM_put 28 = .ok (.invokestatic 63, 3) := by decide +kernel
theorem dM_put_31 : decode cM_put 31 = .ok (.aload_n 0, 1) := by decide +kernel
theorem dM_put_32 : decode cM_put 32 = .ok (.lload_n 2, 1) := by decide +kernel
theorem dM_put_33 : decode cM_put 33 = .ok (.lconst 0, 1) := by decide +kernel
theorem dM_put_34 : decode cM_put 34 = .ok (.lcmp, 1) := by decide +kernel
theorem dM_put_35 : decode cM_put 35 = .ok (.ifCond .ge 7, 3) := by decide +kernel
theorem dM_put_38 : decode cM_put 38 = .ok (.iconst 1, 1) := by decide +kernel
theorem dM_put_39 : decode cM_put 39 = .ok (.goto 4, 3) := by decide +kernel
theorem dM_put_42 : decode cM_put 42 = .ok (.iconst 0, 1) := by decide +kernel
theorem dM_put_43 : decode cM_put 43 = .ok (.putfield 82, 3) := by decide +kernel
theorem dM_put_46 : decode cM_put 46 = .ok (.aload_n 0, 1) := by decide +kernel
theorem dM_put_47 : decode cM_put 47 = .ok (.getfield 82, 3) := by decide +kernel
theorem dM_put_50 : decode cM_put 50 = .ok (.ifCond .eq 8, 3) := by decide +kernel
theorem dM_put_53 : decode cM_put 53 = .ok (.lload_n 2, 1) := by decide +kernel
theorem dM_put_54 : decode cM_put 54 = .ok (.lneg, 1) := by decide +kernel
theorem dM_put_55 : decode cM_put 55 = .ok (.goto 4, 3) := by decide +kernel
theorem dM_put_58 : decode cM_put 58 = .ok (.lload_n 2, 1) := by decide +kernel
theorem dM_put_59 : decode cM_put 59 = .ok (.lstore 4, 2) := by decide +kernel
theorem dM_put_61 : decode cM_put 61 = .ok (.iconst 0, 1) := by decide +kernel
theorem dM_put_62 : decode cM_put 62 = .ok (.istore 6, 2) := by decide +kernel
theorem dM_put_64 : decode cM_put 64 = .ok (.iload 6, 2) := by decide +kernel
theorem dM_put_66 : decode cM_put 66 = .ok (.iconst 4, 1) := by decide +kernel
theorem dM_put_67 : decode cM_put 67 = .ok (.if_icmp .ge 29, 3) := by decide +kernel
theorem dM_put_70 : decode cM_put 70 = .ok (.aload_n 0, 1) := by decide +kernel
theorem dM_put_71 : decode cM_put 71 = .ok (.getfield 20, 3) := by decide +kernel
theorem dM_put_74 : decode cM_put 74 = .ok (.iload 6, 2) := by decide +kernel
theorem dM_put_76 : decode cM_put 76 = .ok (.lload 4, 2) := by decide +kernel
theorem dM_put_78 : decode cM_put 78 = .ok (.bipush 16, 2) := by decide +kernel
theorem dM_put_80 : decode cM_put 80 = .ok (.iload 6, 2) := by decide +kernel
theorem dM_put_82 : decode cM_put 82 = .ok (.imul, 1) := by decide +kernel
theorem dM_put_83 : decode cM_put 83 = .ok (.lushr, 1) := by decide +kernel
theorem dM_put_84 : decode cM_put 84 = .ok (.ldc2_w 57, 3) := by decide +kernel
theorem dM_put_87 : decode cM_put 87 = .ok (.land, 1) := by decide +kernel
theorem dM_put_88 : decode cM_put 88 = .ok (.l2i, 1) := by decide +kernel
theorem dM_put_89 : decode cM_put 89 = .ok (.iastore, 1) := by decide +kernel
theorem dM_put_90 : decode cM_put 90 = .ok (.iinc 6 1, 3) := by decide +kernel
theorem dM_put_93 : decode cM_put 93 = .ok (.goto (-29), 3) := by decide +kernel
theorem dM_put_96 : decode cM_put 96 = .ok (.aload_n 0, 1) := by decide +kernel
theorem dM_put_97 : decode cM_put 97 = .ok (.iload_n 1, 1) := by decide +kernel
theorem dM_put_98 : decode cM_put 98 = .ok (.invokevirtual 103, 3) := by decide +kernel
theorem dM_put_101 : decode cM_put 101 = .ok (.return_, 1) := by decide +kernel
abbrev cM_sum : ByteArray := prog_7_method_21_code
abbrev yM_sum : MethodName := ⟨"WholeDeskModel", "sum", "([IZ[IZ)V"⟩
theorem qM_sum : yM_sum.cls ≠ "java/lang/invoke/MethodHandle" ∧ yM_sum.cls ≠ "java/lang/invoke/VarHandle" ∧ (parseMethodDescriptor yM_sum.desc).map (fun d => d.parameters.length) = some 4 := by decide +kernel
theorem dM_sum_0 : decode cM_sum 0 = .ok (.iload_n 2, 1) := by decide +kernel
theorem dM_sum_1 : decode cM_sum 1 = .ok (.iload 4, 2) := by decide +kernel
theorem dM_sum_3 : decode cM_sum 3 = .ok (.if_icmp .ne 33, 3) := by decide +kernel
theorem dM_sum_6 : decode cM_sum 6 = .ok (.aload_n 1, 1) := by decide +kernel
theorem dM_sum_7 : decode cM_sum 7 = .ok (.aload_n 0, 1) := by decide +kernel
theorem dM_sum_8 : decode cM_sum 8 = .ok (.getfield 20, 3) := by decide +kernel
theorem dM_sum_11 : decode cM_sum 11 = .ok (.invokestatic 67, 3) := by decide +kernel
theorem dM_sum_14 : decode cM_sum 14 = .ok (.aload_n 0, 1) := by decide +kernel
theorem dM_sum_15 : decode cM_sum 15 = .ok (.getfield 20, 3) := by decide +kernel
theorem dM_sum_18 : decode cM_sum 18 = .ok (.aload_n 3, 1) := by decide +kernel
theorem dM_sum_19 : decode cM_sum 19 = .ok (.aload_n 3, 1) := by decide +kernel
theorem dM_sum_20 : decode cM_sum 20 = .ok (.invokestatic 59, 3) := by decide +kernel
theorem dM_sum_23 : decode cM_sum 23 = .ok (.lconst 1, 1) := by decide +kernel
theorem dM_sum_24 : decode cM_sum 24 = .ok (.iconst 0, 1) := by decide +kernel
theorem dM_sum_25 : decode cM_sum 25 = .ok (.invokestatic 75, 3) := by decide +kernel
theorem dM_sum_28 : decode cM_sum 28 = .ok (.aload_n 0, 1) := by decide +kernel
theorem dM_sum_29 : decode cM_sum 29 = .ok (.iload_n 2, 1) := by decide +kernel
theorem dM_sum_30 : decode cM_sum 30 = .ok (.putfield 82, 3) := by decide +kernel
theorem dM_sum_33 : decode cM_sum 33 = .ok (.goto 69, 3) := by decide +kernel
theorem dM_sum_36 : decode cM_sum 36 = .ok (.aload_n 1, 1) := by decide +kernel
theorem dM_sum_37 : decode cM_sum 37 = .ok (.aload_n 3, 1) := by decide +kernel
theorem dM_sum_38 : decode cM_sum 38 = .ok (.invokestatic 71, 3) := by decide +kernel
theorem dM_sum_41 : decode cM_sum 41 = .ok (.ifCond .lt 33, 3) := by decide +kernel
theorem dM_sum_44 : decode cM_sum 44 = .ok (.aload_n 1, 1) := by decide +kernel
theorem dM_sum_45 : decode cM_sum 45 = .ok (.aload_n 0, 1) := by decide +kernel
theorem dM_sum_46 : decode cM_sum 46 = .ok (.getfield 20, 3) := by decide +kernel
theorem dM_sum_49 : decode cM_sum 49 = .ok (.invokestatic 67, 3) := by decide +kernel
theorem dM_sum_52 : decode cM_sum 52 = .ok (.aload_n 0, 1) := by decide +kernel
theorem dM_sum_53 : decode cM_sum 53 = .ok (.getfield 20, 3) := by decide +kernel
theorem dM_sum_56 : decode cM_sum 56 = .ok (.aload_n 3, 1) := by decide +kernel
theorem dM_sum_57 : decode cM_sum 57 = .ok (.aload_n 3, 1) := by decide +kernel
theorem dM_sum_58 : decode cM_sum 58 = .ok (.invokestatic 59, 3) := by decide +kernel
theorem dM_sum_61 : decode cM_sum 61 = .ok (.lconst 1, 1) := by decide +kernel
theorem dM_sum_62 : decode cM_sum 62 = .ok (.iconst 1, 1) := by decide +kernel
theorem dM_sum_63 : decode cM_sum 63 = .ok (.invokestatic 75, 3) := by decide +kernel
theorem dM_sum_66 : decode cM_sum 66 = .ok (.aload_n 0, 1) := by decide +kernel
theorem dM_sum_67 : decode cM_sum 67 = .ok (.iload_n 2, 1) := by decide +kernel
theorem dM_sum_68 : decode cM_sum 68 = .ok (.putfield 82, 3) := by decide +kernel
theorem dM_sum_71 : decode cM_sum 71 = .ok (.goto 31, 3) := by decide +kernel
theorem dM_sum_74 : decode cM_sum 74 = .ok (.aload_n 3, 1) := by decide +kernel
theorem dM_sum_75 : decode cM_sum 75 = .ok (.aload_n 0, 1) := by decide +kernel
theorem dM_sum_76 : decode cM_sum 76 = .ok (.getfield 20, 3) := by decide +kernel
theorem dM_sum_79 : decode cM_sum 79 = .ok (.invokestatic 67, 3) := by decide +kernel
theorem dM_sum_82 : decode cM_sum 82 = .ok (.aload_n 0, 1) := by decide +kernel
theorem dM_sum_83 : decode cM_sum 83 = .ok (.getfield 20, 3) := by decide +kernel
theorem dM_sum_86 : decode cM_sum 86 = .ok (.aload_n 1, 1) := by decide +kernel
theorem dM_sum_87 : decode cM_sum 87 = .ok (.aload_n 1, 1) := by decide +kernel
theorem dM_sum_88 : decode cM_sum 88 = .ok (.invokestatic 59, 3) := by decide +kernel
theorem dM_sum_91 : decode cM_sum 91 = .ok (.lconst 1, 1) := by decide +kernel
theorem dM_sum_92 : decode cM_sum 92 = .ok (.iconst 1, 1) := by decide +kernel
theorem dM_sum_93 : decode cM_sum 93 = .ok (.invokestatic 75, 3) := by decide +kernel
theorem dM_sum_96 : decode cM_sum 96 = .ok (.aload_n 0, 1) := by decide +kernel
theorem dM_sum_97 : decode cM_sum 97 = .ok (.iload 4, 2) := by decide +kernel
theorem dM_sum_99 : decode cM_sum 99 = .ok (.putfield 82, 3) := by decide +kernel
theorem dM_sum_102 : decode cM_sum 102 = .ok (.return_, 1) := by decide +kernel
abbrev cM_add : ByteArray := prog_7_method_22_code
abbrev yM_add : MethodName := ⟨"WholeDeskModel", "add", "(IIIZ)V"⟩
theorem qM_add : yM_add.cls ≠ "java/lang/invoke/MethodHandle" ∧ yM_add.cls ≠ "java/lang/invoke/VarHandle" ∧ (parseMethodDescriptor yM_add.desc).map (fun d => d.parameters.length) = some 4 := by decide +kernel
theorem dM_add_0 : decode cM_add 0 = .ok (.aload_n 0, 1) := by decide +kernel
theorem dM_add_1 : decode cM_add 1 = .ok (.iload_n 1, 1) := by decide +kernel
theorem dM_add_2 : decode cM_add 2 = .ok (.invokestatic 91, 3) := by decide +kernel
theorem dM_add_5 : decode cM_add 5 = .ok (.ifCond .ne 17, 3) := by decide +kernel
theorem dM_add_8 : decode cM_add 8 = .ok (.iload_n 2, 1) := by decide +kernel
theorem dM_add_9 : decode cM_add 9 = .ok (.invokestatic 91, 3) := by decide +kernel
theorem dM_add_12 : decode cM_add 12 = .ok (.ifCond .ne 10, 3) := by decide +kernel
theorem dM_add_15 : decode cM_add 15 = .ok (.iload_n 3, 1) := by decide +kernel
theorem dM_add_16 : decode cM_add 16 = .ok (.invokestatic 91, 3) := by decide +kernel
theorem dM_add_19 : decode cM_add 19 = .ok (.ifCond .eq 7, 3) := by decide +kernel
theorem dM_add_22 : decode cM_add 22 = .ok (.iconst 1, 1) := by decide +kernel
theorem dM_add_23 : decode cM_add 23 = .ok (.goto 4, 3) := by decide +kernel
theorem dM_add_26 : decode cM_add 26 = .ok (.iconst 0, 1) := by decide +kernel
theorem dM_add_27 : decode cM_add 27 = .ok (.putfield 53, 3) := by decide +kernel
theorem dM_add_30 : decode cM_add 30 = .ok (.aload_n 0, 1) := by decide +kernel
theorem dM_add_31 : decode cM_add 31 = .ok (.getfield 53, 3) := by decide +kernel
theorem dM_add_34 : decode cM_add 34 = .ok (.ifCond .le 4, 3) := by decide +kernel
theorem dM_add_37 : decode cM_add 37 = .ok (.return_, 1) := by decide +kernel
theorem dM_add_38 : decode cM_add 38 = .ok (.aload_n 0, 1) := by decide +kernel
theorem dM_add_39 : decode cM_add 39 = .ok (.iconst 2, 1) := by decide +kernel
theorem dM_add_40 : decode cM_add 40 = .ok (.putfield 79, 3) := by decide +kernel
theorem dM_add_43 : decode cM_add 43 = .ok (.aload_n 0, 1) := by decide +kernel
theorem dM_add_44 : decode cM_add 44 = .ok (.iload_n 1, 1) := by decide +kernel
theorem dM_add_45 : decode cM_add 45 = .ok (.aload_n 0, 1) := by decide +kernel
theorem dM_add_46 : decode cM_add 46 = .ok (.getfield 35, 3) := by decide +kernel
theorem dM_add_49 : decode cM_add 49 = .ok (.invokevirtual 107, 3) := by decide +kernel
theorem dM_add_52 : decode cM_add 52 = .ok (.aload_n 0, 1) := by decide +kernel
theorem dM_add_53 : decode cM_add 53 = .ok (.iload_n 2, 1) := by decide +kernel
theorem dM_add_54 : decode cM_add 54 = .ok (.aload_n 0, 1) := by decide +kernel
theorem dM_add_55 : decode cM_add 55 = .ok (.getfield 38, 3) := by decide +kernel
theorem dM_add_58 : decode cM_add 58 = .ok (.invokevirtual 107, 3) := by decide +kernel
theorem dM_add_61 : decode cM_add 61 = .ok (.aload_n 0, 1) := by decide +kernel
theorem dM_add_62 : decode cM_add 62 = .ok (.aload_n 0, 1) := by decide +kernel
theorem dM_add_63 : decode cM_add 63 = .ok (.getfield 35, 3) := by decide +kernel
theorem dM_add_66 : decode cM_add 66 = .ok (.aload_n 0, 1) := by decide +kernel
theorem dM_add_67 : decode cM_add 67 = .ok (.getfield 16, 3) := by decide +kernel
theorem dM_add_70 : decode cM_add 70 = .ok (.iload_n 1, 1) := by decide +kernel
theorem dM_add_71 : decode cM_add 71 = .ok (.baload, 1) := by decide +kernel
theorem dM_add_72 : decode cM_add 72 = .ok (.aload_n 0, 1) := by decide +kernel
theorem dM_add_73 : decode cM_add 73 = .ok (.getfield 38, 3) := by decide +kernel
theorem dM_add_76 : decode cM_add 76 = .ok (.aload_n 0, 1) := by decide +kernel
theorem dM_add_77 : decode cM_add 77 = .ok (.getfield 16, 3) := by decide +kernel
theorem dM_add_80 : decode cM_add 80 = .ok (.iload_n 2, 1) := by decide +kernel
theorem dM_add_81 : decode cM_add 81 = .ok (.baload, 1) := by decide +kernel
theorem dM_add_82 : decode cM_add 82 = .ok (.iload 4, 2) := by decide +kernel
theorem dM_add_84 : decode cM_add 84 = .ok (.if_icmp .eq 7, 3) := by decide +kernel
theorem dM_add_87 : decode cM_add 87 = .ok (.iconst 1, 1) := by decide +kernel
theorem dM_add_88 : decode cM_add 88 = .ok (.goto 4, 3) := by decide +kernel
theorem dM_add_91 : decode cM_add 91 = .ok (.iconst 0, 1) := by decide +kernel
theorem dM_add_92 : decode cM_add 92 = .ok (.invokevirtual 111, 3) := by decide +kernel
theorem dM_add_95 : decode cM_add 95 = .ok (.aload_n 0, 1) := by decide +kernel
theorem dM_add_96 : decode cM_add 96 = .ok (.iload_n 3, 1) := by decide +kernel
theorem dM_add_97 : decode cM_add 97 = .ok (.invokevirtual 103, 3) := by decide +kernel
theorem dM_add_100 : decode cM_add 100 = .ok (.return_, 1) := by decide +kernel
abbrev cM_multiply : ByteArray := prog_7_method_23_code
abbrev yM_multiply : MethodName := ⟨"WholeDeskModel", "multiply", "(III)V"⟩
theorem qM_multiply : yM_multiply.cls ≠ "java/lang/invoke/MethodHandle" ∧ yM_multiply.cls ≠ "java/lang/invoke/VarHandle" ∧ (parseMethodDescriptor yM_multiply.desc).map (fun d => d.parameters.length) = some 3 := by decide +kernel
theorem dM_multiply_0 : decode cM_multiply 0 = .ok (.aload_n 0, 1) := by decide +kernel
theorem dM_multiply_1 : decode cM_multiply 1 = .ok (.iload_n 1, 1) := by decide +kernel
theorem dM_multiply_2 : decode cM_multiply 2 = .ok (.invokestatic 91, 3) := by decide +kernel
theorem dM_multiply_5 : decode cM_multiply 5 = .ok (.ifCond .ne 17, 3) := by decide +kernel
theorem dM_multiply_8 : decode cM_multiply 8 = .ok (.iload_n 2, 1) := by decide +kernel
theorem dM_multiply_9 : decode cM_multiply 9 = .ok (.invokestatic 91, 3) := by decide +kernel
theorem dM_multiply_12 : decode cM_multiply 12 = .ok (.ifCond .ne 10, 3) := by decide +kernel
theorem dM_multiply_15 : decode cM_multiply 15 = .ok (.iload_n 3, 1) := by decide +kernel
theorem dM_multiply_16 : decode cM_multiply 16 = .ok (.invokestatic 91, 3) := by decide +kernel
theorem dM_multiply_19 : decode cM_multiply 19 = .ok (.ifCond .eq 7, 3) := by decide +kernel
theorem dM_multiply_22 : decode cM_multiply 22 = .ok (.iconst 1, 1) := by decide +kernel
theorem dM_multiply_23 : decode cM_multiply 23 = .ok (.goto 4, 3) := by decide +kernel
theorem dM_multiply_26 : decode cM_multiply 26 = .ok (.iconst 0, 1) := by decide +kernel
theorem dM_multiply_27 : decode cM_multiply 27 = .ok (.putfield 53, 3) := by decide +kernel
theorem dM_multiply_30 : decode cM_multiply 30 = .ok (.aload_n 0, 1) := by decide +kernel
theorem dM_multiply_31 : decode cM_multiply 31 = .ok (.getfield 53, 3) := by decide +kernel
theorem dM_multiply_34 : decode cM_multiply 34 = .ok (.ifCond .le 4, 3) := by decide +kernel
theorem dM_multiply_37 : decode cM_multiply 37 = .ok (.return_, 1) := by decide +kernel
theorem dM_multiply_38 : decode cM_multiply 38 = .ok (.aload_n 0, 1) := by decide +kernel
theorem dM_multiply_39 : decode cM_multiply 39 = .ok (.iconst 2, 1) := by decide +kernel
theorem dM_multiply_40 : decode cM_multiply 40 = .ok (.putfield 79, 3) := by decide +kernel
theorem dM_multiply_43 : decode cM_multiply 43 = .ok (.aload_n 0, 1) := by decide +kernel
theorem dM_multiply_44 : decode cM_multiply 44 = .ok (.iload_n 1, 1) := by decide +kernel
theorem dM_multiply_45 : decode cM_multiply 45 = .ok (.aload_n 0, 1) := by decide +kernel
theorem dM_multiply_46 : decode cM_multiply 46 = .ok (.getfield 35, 3) := by decide +kernel
theorem dM_multiply_49 : decode cM_multiply 49 = .ok (.invokevirtual 107, 3) := by decide +kernel
theorem dM_multiply_52 : decode cM_multiply 52 = .ok (.aload_n 0, 1) := by decide +kernel
theorem dM_multiply_53 : decode cM_multiply 53 = .ok (.iload_n 2, 1) := by decide +kernel
theorem dM_multiply_54 : decode cM_multiply 54 = .ok (.aload_n 0, 1) := by decide +kernel
theorem dM_multiply_55 : decode cM_multiply 55 = .ok (.getfield 38, 3) := by decide +kernel
theorem dM_multiply_58 : decode cM_multiply 58 = .ok (.invokevirtual 107, 3) := by decide +kernel
theorem dM_multiply_61 : decode cM_multiply 61 = .ok (.aload_n 0, 1) := by decide +kernel
theorem dM_multiply_62 : decode cM_multiply 62 = .ok (.aload_n 0, 1) := by decide +kernel
theorem dM_multiply_63 : decode cM_multiply 63 = .ok (.getfield 35, 3) := by decide +kernel
theorem dM_multiply_66 : decode cM_multiply 66 = .ok (.aload_n 0, 1) := by decide +kernel
theorem dM_multiply_67 : decode cM_multiply 67 = .ok (.getfield 38, 3) := by decide +kernel
theorem dM_multiply_70 : decode cM_multiply 70 = .ok (.aload_n 0, 1) := by decide +kernel
theorem dM_multiply_71 : decode cM_multiply 71 = .ok (.getfield 20, 3) := by decide +kernel
theorem dM_multiply_74 : decode cM_multiply 74 = .ok (.invokevirtual 115, 3) := by decide +kernel
theorem dM_multiply_77 : decode cM_multiply 77 = .ok (.aload_n 0, 1) := by decide +kernel
theorem dM_multiply_78 : decode cM_multiply 78 = .ok (.aload_n 0, 1) := by decide +kernel
theorem dM_multiply_79 : decode cM_multiply 79 = .ok (.getfield 16, 3) := by decide +kernel
theorem dM_multiply_82 : decode cM_multiply 82 = .ok (.iload_n 1, 1) := by decide +kernel
theorem dM_multiply_83 : decode cM_multiply 83 = .ok (.baload, 1) := by decide +kernel
theorem dM_multiply_84 : decode cM_multiply 84 = .ok (.aload_n 0, 1) := by decide +kernel
theorem dM_multiply_85 : decode cM_multiply 85 = .ok (.getfield 16, 3) := by decide +kernel
theorem dM_multiply_88 : decode cM_multiply 88 = .ok (.iload_n 2, 1) := by decide +kernel
theorem dM_multiply_89 : decode cM_multiply 89 = .ok (.baload, 1) := by decide +kernel
theorem dM_multiply_90 : decode cM_multiply 90 = .ok (.if_icmp .eq 7, 3) := by decide +kernel
theorem dM_multiply_93 : decode cM_multiply 93 = .ok (.iconst 1, 1) := by decide +kernel
theorem dM_multiply_94 : decode cM_multiply 94 = .ok (.goto 4, 3) := by decide +kernel
theorem dM_multiply_97 : decode cM_multiply 97 = .ok (.iconst 0, 1) := by decide +kernel
theorem dM_multiply_98 : decode cM_multiply 98 = .ok (.putfield 82, 3) := by decide +kernel
theorem dM_multiply_101 : decode cM_multiply 101 = .ok (.aload_n 0, 1) := by decide +kernel
theorem dM_multiply_102 : decode cM_multiply 102 = .ok (.iload_n 3, 1) := by decide +kernel
theorem dM_multiply_103 : decode cM_multiply 103 = .ok (.invokevirtual 103, 3) := by decide +kernel
theorem dM_multiply_106 : decode cM_multiply 106 = .ok (.return_, 1) := by decide +kernel
abbrev cM_divide : ByteArray := prog_7_method_24_code
abbrev yM_divide : MethodName := ⟨"WholeDeskModel", "divide", "(IIII)V"⟩
theorem qM_divide : yM_divide.cls ≠ "java/lang/invoke/MethodHandle" ∧ yM_divide.cls ≠ "java/lang/invoke/VarHandle" ∧ (parseMethodDescriptor yM_divide.desc).map (fun d => d.parameters.length) = some 4 := by decide +kernel
theorem dM_divide_0 : decode cM_divide 0 = .ok (.aload_n 0, 1) := by decide +kernel
theorem dM_divide_1 : decode cM_divide 1 = .ok (.iload_n 1, 1) := by decide +kernel
theorem dM_divide_2 : decode cM_divide 2 = .ok (.invokestatic 91, 3) := by decide +kernel
theorem dM_divide_5 : decode cM_divide 5 = .ok (.ifCond .ne 25, 3) := by decide +kernel
theorem dM_divide_8 : decode cM_divide 8 = .ok (.iload_n 2, 1) := by decide +kernel
theorem dM_divide_9 : decode cM_divide 9 = .ok (.invokestatic 91, 3) := by decide +kernel
theorem dM_divide_12 : decode cM_divide 12 = .ok (.ifCond .ne 18, 3) := by decide +kernel
theorem dM_divide_15 : decode cM_divide 15 = .ok (.iload_n 3, 1) := by decide +kernel
theorem dM_divide_16 : decode cM_divide 16 = .ok (.invokestatic 91, 3) := by decide +kernel
theorem dM_divide_19 : decode cM_divide 19 = .ok (.ifCond .ne 11, 3) := by decide +kernel
theorem dM_divide_22 : decode cM_divide 22 = .ok (.iload 4, 2) := by decide +kernel
theorem dM_divide_24 : decode cM_divide 24 = .ok (.invokestatic 91, 3) := by decide +kernel
theorem dM_divide_27 : decode cM_divide 27 = .ok (.ifCond .eq 7, 3) := by decide +kernel
theorem dM_divide_30 : decode cM_divide 30 = .ok (.iconst 1, 1) := by decide +kernel
theorem dM_divide_31 : decode cM_divide 31 = .ok (.goto 16, 3) := by decide +kernel
theorem dM_divide_34 : decode cM_divide 34 = .ok (.aload_n 0, 1) := by decide +kernel
theorem dM_divide_35 : decode cM_divide 35 = .ok (.iload_n 2, 1) := by decide +kernel
theorem dM_divide_36 : decode cM_divide 36 = .ok (.invokevirtual 119, 3) := by decide +kernel
theorem dM_divide_39 : decode cM_divide 39 = .ok (.ifCond .eq 7, 3) := by decide +kernel
theorem dM_divide_42 : decode cM_divide 42 = .ok (.iconst 2, 1) := by decide +kernel
theorem dM_divide_43 : decode cM_divide 43 = .ok (.goto 4, 3) := by decide +kernel
theorem dM_divide_46 : decode cM_divide 46 = .ok (.iconst 0, 1) := by decide +kernel
theorem dM_divide_47 : decode cM_divide 47 = .ok (.putfield 53, 3) := by decide +kernel
theorem dM_divide_50 : decode cM_divide 50 = .ok (.aload_n 0, 1) := by decide +kernel
theorem dM_divide_51 : decode cM_divide 51 = .ok (.getfield 53, 3) := by decide +kernel
theorem dM_divide_54 : decode cM_divide 54 = .ok (.ifCond .le 4, 3) := by decide +kernel
theorem dM_divide_57 : decode cM_divide 57 = .ok (.return_, 1) := by decide +kernel
theorem dM_divide_58 : decode cM_divide 58 = .ok (.aload_n 0, 1) := by decide +kernel
theorem dM_divide_59 : decode cM_divide 59 = .ok (.iload_n 1, 1) := by decide +kernel
theorem dM_divide_60 : decode cM_divide 60 = .ok (.aload_n 0, 1) := by decide +kernel
theorem dM_divide_61 : decode cM_divide 61 = .ok (.getfield 35, 3) := by decide +kernel
theorem dM_divide_64 : decode cM_divide 64 = .ok (.invokevirtual 107, 3) := by decide +kernel
theorem dM_divide_67 : decode cM_divide 67 = .ok (.aload_n 0, 1) := by decide +kernel
theorem dM_divide_68 : decode cM_divide 68 = .ok (.iload_n 2, 1) := by decide +kernel
theorem dM_divide_69 : decode cM_divide 69 = .ok (.aload_n 0, 1) := by decide +kernel
theorem dM_divide_70 : decode cM_divide 70 = .ok (.getfield 38, 3) := by decide +kernel
theorem dM_divide_73 : decode cM_divide 73 = .ok (.invokevirtual 107, 3) := by decide +kernel
theorem dM_divide_76 : decode cM_divide 76 = .ok (.aload_n 0, 1) := by decide +kernel
theorem dM_divide_77 : decode cM_divide 77 = .ok (.getfield 16, 3) := by decide +kernel
theorem dM_divide_80 : decode cM_divide 80 = .ok (.iload_n 1, 1) := by decide +kernel
theorem dM_divide_81 : decode cM_divide 81 = .ok (.baload, 1) := by decide +kernel
theorem dM_divide_82 : decode cM_divide 82 = .ok (.istore 5, 2) := by decide +kernel
theorem dM_divide_84 : decode cM_divide 84 = .ok (.aload_n 0, 1) := by decide +kernel
theorem dM_divide_85 : decode cM_divide 85 = .ok (.getfield 16, 3) := by decide +kernel
theorem dM_divide_88 : decode cM_divide 88 = .ok (.iload_n 1, 1) := by decide +kernel
theorem dM_divide_89 : decode cM_divide 89 = .ok (.baload, 1) := by decide +kernel
theorem dM_divide_90 : decode cM_divide 90 = .ok (.aload_n 0, 1) := by decide +kernel
theorem dM_divide_91 : decode cM_divide 91 = .ok (.getfield 16, 3) := by decide +kernel
theorem dM_divide_94 : decode cM_divide 94 = .ok (.iload_n 2, 1) := by decide +kernel
theorem dM_divide_95 : decode cM_divide 95 = .ok (.baload, 1) := by decide +kernel
theorem dM_divide_96 : decode cM_divide 96 = .ok (.if_icmp .eq 7, 3) := by decide +kernel
theorem dM_divide_99 : decode cM_divide 99 = .ok (.iconst 1, 1) := by decide +kernel
theorem dM_divide_100 : decode cM_divide 100 = .ok (.goto 4, 3) := by decide +kernel
theorem dM_divide_103 : decode cM_divide 103 = .ok (.iconst 0, 1) := by decide +kernel
theorem dM_divide_104 : decode cM_divide 104 = .ok (.istore 6, 2) := by decide +kernel
theorem dM_divide_106 : decode cM_divide 106 = .ok (.aload_n 0, 1) := by decide +kernel
theorem dM_divide_107 : decode cM_divide 107 = .ok (.aload_n 0, 1) := by decide +kernel
theorem dM_divide_108 : decode cM_divide 108 = .ok (.getfield 35, 3) := by decide +kernel
theorem dM_divide_111 : decode cM_divide 111 = .ok (.aload_n 0, 1) := by decide +kernel
theorem dM_divide_112 : decode cM_divide 112 = .ok (.getfield 38, 3) := by decide +kernel
theorem dM_divide_115 : decode cM_divide 115 = .ok (.invokevirtual 122, 3) := by decide +kernel
theorem dM_divide_118 : decode cM_divide 118 = .ok (.aload_n 0, 1) := by decide +kernel
theorem dM_divide_119 : decode cM_divide 119 = .ok (.getfield 32, 3) := by decide +kernel
theorem dM_divide_122 : decode cM_divide 122 = .ok (.aload_n 0, 1) := by decide +kernel
theorem dM_divide_123 : decode cM_divide 123 = .ok (.getfield 20, 3) := by decide +kernel
theorem dM_divide_126 : decode cM_divide 126 = .ok (.invokestatic 67, 3) := by decide +kernel
theorem dM_divide_129 : decode cM_divide 129 = .ok (.aload_n 0, 1) := by decide +kernel
theorem dM_divide_130 : decode cM_divide 130 = .ok (.iload 6, 2) := by decide +kernel
theorem dM_divide_132 : decode cM_divide 132 = .ok (.putfield 82, 3) := by decide +kernel
theorem dM_divide_135 : decode cM_divide 135 = .ok (.aload_n 0, 1) := by decide +kernel
theorem dM_divide_136 : decode cM_divide 136 = .ok (.iload_n 3, 1) := by decide +kernel
theorem dM_divide_137 : decode cM_divide 137 = .ok (.invokevirtual 103, 3) := by decide +kernel
theorem dM_divide_140 : decode cM_divide 140 = .ok (.aload_n 0, 1) := by decide +kernel
theorem dM_divide_141 : decode cM_divide 141 = .ok (.getfield 29, 3) := by decide +kernel
theorem dM_divide_144 : decode cM_divide 144 = .ok (.aload_n 0, 1) := by decide +kernel
theorem dM_divide_145 : decode cM_divide 145 = .ok (.getfield 20, 3) := by decide +kernel
theorem dM_divide_148 : decode cM_divide 148 = .ok (.invokestatic 67, 3) := by decide +kernel
theorem dM_divide_151 : decode cM_divide 151 = .ok (.aload_n 0, 1) := by decide +kernel
theorem dM_divide_152 : decode cM_divide 152 = .ok (.iload 5, 2) := by decide +kernel
theorem dM_divide_154 : decode cM_divide 154 = .ok (.putfield 82, 3) := by decide +kernel
theorem dM_divide_157 : decode cM_divide 157 = .ok (.aload_n 0, 1) := by decide +kernel
theorem dM_divide_158 : decode cM_divide 158 = .ok (.iload 4, 2) := by decide +kernel
theorem dM_divide_160 : decode cM_divide 160 = .ok (.invokevirtual 103, 3) := by decide +kernel
theorem dM_divide_163 : decode cM_divide 163 = .ok (.return_, 1) := by decide +kernel
abbrev cM_isAbove0 : ByteArray := prog_7_method_25_code
abbrev yM_isAbove0 : MethodName := ⟨"WholeDeskModel", "isAbove0", "(I)Z"⟩
theorem qM_isAbove0 : yM_isAbove0.cls ≠ "java/lang/invoke/MethodHandle" ∧ yM_isAbove0.cls ≠ "java/lang/invoke/VarHandle" ∧ (parseMethodDescriptor yM_isAbove0.desc).map (fun d => d.parameters.length) = some 1 := by decide +kernel
theorem dM_isAbove0_0 : decode cM_isAbove0 0 = .ok (.aload_n 0, 1) := by decide +kernel
theorem dM_isAbove0_1 : decode cM_isAbove0 1 = .ok (.getfield 16, 3) := by decide +kernel
theorem dM_isAbove0_4 : decode cM_isAbove0 4 = .ok (.iload_n 1, 1) := by decide +kernel
theorem dM_isAbove0_5 : decode cM_isAbove0 5 = .ok (.baload, 1) := by decide +kernel
theorem dM_isAbove0_6 : decode cM_isAbove0 6 = .ok (.ifCond .ne 15, 3) := by decide +kernel
theorem dM_isAbove0_9 : decode cM_isAbove0 9 = .ok (.aload_n 0, 1) := by decide +kernel
theorem dM_isAbove0_10 : decode cM_isAbove0 10 = .ok (.iload_n 1, 1) := by decide +kernel
theorem dM_isAbove0_11 : decode cM_isAbove0 11 = .ok (.invokevirtual 119, 3) := by decide +kernel
theorem dM_isAbove0_14 : decode cM_isAbove0 14 = .ok (.ifCond .ne 7, 3) := by decide +kernel
theorem dM_isAbove0_17 : decode cM_isAbove0 17 = .ok (.iconst 1, 1) := by decide +kernel
theorem dM_isAbove0_18 : decode cM_isAbove0 18 = .ok (.goto 4, 3) := by decide +kernel
theorem dM_isAbove0_21 : decode cM_isAbove0 21 = .ok (.iconst 0, 1) := by decide +kernel
theorem dM_isAbove0_22 : decode cM_isAbove0 22 = .ok (.ireturn, 1) := by decide +kernel
abbrev cM_reduce : ByteArray := prog_7_method_26_code
abbrev yM_reduce : MethodName := ⟨"WholeDeskModel", "reduce", "(I[I)V"⟩
theorem qM_reduce : yM_reduce.cls ≠ "java/lang/invoke/MethodHandle" ∧ yM_reduce.cls ≠ "java/lang/invoke/VarHandle" ∧ (parseMethodDescriptor yM_reduce.desc).map (fun d => d.parameters.length) = some 2 := by decide +kernel
theorem dM_reduce_0 : decode cM_reduce 0 = .ok (.aload_n 0, 1) := by decide +kernel
theorem dM_reduce_1 : decode cM_reduce 1 = .ok (.iload_n 1, 1) := by decide +kernel
theorem dM_reduce_2 : decode cM_reduce 2 = .ok (.aload_n 2, 1) := by decide +kernel
theorem dM_reduce_3 : decode cM_reduce 3 = .ok (.invokevirtual 107, 3) := by decide +kernel
theorem dM_reduce_6 : decode cM_reduce 6 = .ok (.aload_n 0, 1) := by decide +kernel
theorem dM_reduce_7 : decode cM_reduce 7 = .ok (.aload_n 2, 1) := by decide +kernel
theorem dM_reduce_8 : decode cM_reduce 8 = .ok (.aload_n 0, 1) := by decide +kernel
theorem dM_reduce_9 : decode cM_reduce 9 = .ok (.getfield 47, 3) := by decide +kernel
theorem dM_reduce_12 : decode cM_reduce 12 = .ok (.invokevirtual 122, 3) := by decide +kernel
theorem dM_reduce_15 : decode cM_reduce 15 = .ok (.aload_n 0, 1) := by decide +kernel
theorem dM_reduce_16 : decode cM_reduce 16 = .ok (.getfield 29, 3) := by decide +kernel
theorem dM_reduce_19 : decode cM_reduce 19 = .ok (.aload_n 2, 1) := by decide +kernel
theorem dM_reduce_20 : decode cM_reduce 20 = .ok (.invokestatic 67, 3) := by decide +kernel
theorem dM_reduce_23 : decode cM_reduce 23 = .ok (.aload_n 0, 1) := by decide +kernel
theorem dM_reduce_24 : decode cM_reduce 24 = .ok (.getfield 16, 3) := by decide +kernel
theorem dM_reduce_27 : decode cM_reduce 27 = .ok (.iload_n 1, 1) := by decide +kernel
theorem dM_reduce_28 : decode cM_reduce 28 = .ok (.baload, 1) := by decide +kernel
theorem dM_reduce_29 : decode cM_reduce 29 = .ok (.ifCond .eq 43, 3) := by decide +kernel
theorem dM_reduce_32 : decode cM_reduce 32 = .ok (.aload_n 2, 1) := by decide +kernel
theorem dM_reduce_33 : decode cM_reduce 33 = .ok (.invokestatic 59, 3) := by decide +kernel
theorem dM_reduce_36 : decode cM_reduce 36 = .ok (.ifCond .le 36, 3) := by decide +kernel
theorem dM_reduce_39 : decode cM_reduce 39 = .ok (.aload_n 0, 1) := by decide +kernel
theorem dM_reduce_40 : decode cM_reduce 40 = .ok (.getfield 47, 3) := by decide +kernel
theorem dM_reduce_43 : decode cM_reduce 43 = .ok (.aload_n 0, 1) := by decide +kernel
theorem dM_reduce_44 : decode cM_reduce 44 = .ok (.getfield 20, 3) := by decide +kernel
theorem dM_reduce_47 : decode cM_reduce 47 = .ok (.invokestatic 67, 3) := by decide +kernel
theorem dM_reduce_50 : decode cM_reduce 50 = .ok (.aload_n 0, 1) := by decide +kernel
theorem dM_reduce_51 : decode cM_reduce 51 = .ok (.getfield 20, 3) := by decide +kernel
theorem dM_reduce_54 : decode cM_reduce 54 = .ok (.aload_n 2, 1) := by decide +kernel
theorem dM_reduce_55 : decode cM_reduce 55 = .ok (.aload_n 2, 1) := by decide +kernel
theorem dM_reduce_56 : decode cM_reduce 56 = .ok (.invokestatic 59, 3) := by decide +kernel
theorem dM_reduce_59 : decode cM_reduce 59 = .ok (.lconst 1, 1) := by decide +kernel
theorem dM_reduce_60 : decode cM_reduce 60 = .ok (.iconst 1, 1) := by decide +kernel
theorem dM_reduce_61 : decode cM_reduce 61 = .ok (.invokestatic 75, 3) := by decide +kernel
theorem dM_reduce_64 : decode cM_reduce 64 = .ok (.aload_n 0, 1) := by decide +kernel
theorem dM_reduce_65 : decode cM_reduce 65 = .ok (.getfield 20, 3) := by decide +kernel
theorem dM_reduce_68 : decode cM_reduce 68 = .ok (.aload_n 2, 1) := by decide +kernel
theorem dM_reduce_69 : decode cM_reduce 69 = .ok (.invokestatic 67, 3) := by decide +kernel
theorem dM_reduce_72 : decode cM_reduce 72 = .ok (.return_, 1) := by decide +kernel
abbrev cM_modulo : ByteArray := prog_7_method_27_code
abbrev yM_modulo : MethodName := ⟨"WholeDeskModel", "modulo", "(III)V"⟩
theorem qM_modulo : yM_modulo.cls ≠ "java/lang/invoke/MethodHandle" ∧ yM_modulo.cls ≠ "java/lang/invoke/VarHandle" ∧ (parseMethodDescriptor yM_modulo.desc).map (fun d => d.parameters.length) = some 3 := by decide +kernel
theorem dM_modulo_0 : decode cM_modulo 0 = .ok (.aload_n 0, 1) := by decide +kernel
theorem dM_modulo_1 : decode cM_modulo 1 = .ok (.iload_n 1, 1) := by decide +kernel
theorem dM_modulo_2 : decode cM_modulo 2 = .ok (.invokestatic 91, 3) := by decide +kernel
theorem dM_modulo_5 : decode cM_modulo 5 = .ok (.ifCond .ne 17, 3) := by decide +kernel
theorem dM_modulo_8 : decode cM_modulo 8 = .ok (.iload_n 2, 1) := by decide +kernel
theorem dM_modulo_9 : decode cM_modulo 9 = .ok (.invokestatic 91, 3) := by decide +kernel
theorem dM_modulo_12 : decode cM_modulo 12 = .ok (.ifCond .ne 10, 3) := by decide +kernel
theorem dM_modulo_15 : decode cM_modulo 15 = .ok (.iload_n 3, 1) := by decide +kernel
theorem dM_modulo_16 : decode cM_modulo 16 = .ok (.invokestatic 91, 3) := by decide +kernel
theorem dM_modulo_19 : decode cM_modulo 19 = .ok (.ifCond .eq 7, 3) := by decide +kernel
theorem dM_modulo_22 : decode cM_modulo 22 = .ok (.iconst 1, 1) := by decide +kernel
theorem dM_modulo_23 : decode cM_modulo 23 = .ok (.goto 16, 3) := by decide +kernel
theorem dM_modulo_26 : decode cM_modulo 26 = .ok (.aload_n 0, 1) := by decide +kernel
theorem dM_modulo_27 : decode cM_modulo 27 = .ok (.iload_n 2, 1) := by decide +kernel
theorem dM_modulo_28 : decode cM_modulo 28 = .ok (.invokevirtual 125, 3) := by decide +kernel
theorem dM_modulo_31 : decode cM_modulo 31 = .ok (.ifCond .ne 7, 3) := by decide +kernel
theorem dM_modulo_34 : decode cM_modulo 34 = .ok (.iconst 2, 1) := by decide +kernel
theorem dM_modulo_35 : decode cM_modulo 35 = .ok (.goto 4, 3) := by decide +kernel
theorem dM_modulo_38 : decode cM_modulo 38 = .ok (.iconst 0, 1) := by decide +kernel
theorem dM_modulo_39 : decode cM_modulo 39 = .ok (.putfield 53, 3) := by decide +kernel
theorem dM_modulo_42 : decode cM_modulo 42 = .ok (.aload_n 0, 1) := by decide +kernel
theorem dM_modulo_43 : decode cM_modulo 43 = .ok (.getfield 53, 3) := by decide +kernel
theorem dM_modulo_46 : decode cM_modulo 46 = .ok (.ifCond .le 4, 3) := by decide +kernel
theorem dM_modulo_49 : decode cM_modulo 49 = .ok (.return_, 1) := by decide +kernel
theorem dM_modulo_50 : decode cM_modulo 50 = .ok (.aload_n 0, 1) := by decide +kernel
theorem dM_modulo_51 : decode cM_modulo 51 = .ok (.iload_n 2, 1) := by decide +kernel
theorem dM_modulo_52 : decode cM_modulo 52 = .ok (.aload_n 0, 1) := by decide +kernel
theorem dM_modulo_53 : decode cM_modulo 53 = .ok (.getfield 47, 3) := by decide +kernel
theorem dM_modulo_56 : decode cM_modulo 56 = .ok (.invokevirtual 107, 3) := by decide +kernel
theorem dM_modulo_59 : decode cM_modulo 59 = .ok (.aload_n 0, 1) := by decide +kernel
theorem dM_modulo_60 : decode cM_modulo 60 = .ok (.iload_n 1, 1) := by decide +kernel
theorem dM_modulo_61 : decode cM_modulo 61 = .ok (.aload_n 0, 1) := by decide +kernel
theorem dM_modulo_62 : decode cM_modulo 62 = .ok (.getfield 35, 3) := by decide +kernel
theorem dM_modulo_65 : decode cM_modulo 65 = .ok (.invokevirtual 128, 3) := by decide +kernel
theorem dM_modulo_68 : decode cM_modulo 68 = .ok (.aload_n 0, 1) := by decide +kernel
theorem dM_modulo_69 : decode cM_modulo 69 = .ok (.getfield 35, 3) := by decide +kernel
theorem dM_modulo_72 : decode cM_modulo 72 = .ok (.aload_n 0, 1) := by decide +kernel
theorem dM_modulo_73 : decode cM_modulo 73 = .ok (.getfield 20, 3) := by decide +kernel
theorem dM_modulo_76 : decode cM_modulo 76 = .ok (.invokestatic 67, 3) := by decide +kernel
theorem dM_modulo_79 : decode cM_modulo 79 = .ok (.aload_n 0, 1) := by decide +kernel
theorem dM_modulo_80 : decode cM_modulo 80 = .ok (.iconst 0, 1) := by decide +kernel
theorem dM_modulo_81 : decode cM_modulo 81 = .ok (.putfield 82, 3) := by decide +kernel
theorem dM_modulo_84 : decode cM_modulo 84 = .ok (.aload_n 0, 1) := by decide +kernel
theorem dM_modulo_85 : decode cM_modulo 85 = .ok (.iload_n 3, 1) := by decide +kernel
theorem dM_modulo_86 : decode cM_modulo 86 = .ok (.invokevirtual 103, 3) := by decide +kernel
theorem dM_modulo_89 : decode cM_modulo 89 = .ok (.return_, 1) := by decide +kernel
abbrev cM_setOne : ByteArray := prog_7_method_28_code
abbrev yM_setOne : MethodName := ⟨"WholeDeskModel", "setOne", "([I)V"⟩
theorem qM_setOne : yM_setOne.cls ≠ "java/lang/invoke/MethodHandle" ∧ yM_setOne.cls ≠ "java/lang/invoke/VarHandle" ∧ (parseMethodDescriptor yM_setOne.desc).map (fun d => d.parameters.length) = some 1 := by decide +kernel
theorem dM_setOne_0 : decode cM_setOne 0 = .ok (.aload_n 1, 1) := by decide +kernel
theorem dM_setOne_1 : decode cM_setOne 1 = .ok (.invokestatic 63, 3) := by decide +kernel
theorem dM_setOne_4 : decode cM_setOne 4 = .ok (.aload_n 1, 1) := by decide +kernel
theorem dM_setOne_5 : decode cM_setOne 5 = .ok (.iconst 0, 1) := by decide +kernel
theorem dM_setOne_6 : decode cM_setOne 6 = .ok (.iconst 1, 1) := by decide +kernel
theorem dM_setOne_7 : decode cM_setOne 7 = .ok (.iastore, 1) := by decide +kernel
theorem dM_setOne_8 : decode cM_setOne 8 = .ok (.return_, 1) := by decide +kernel
abbrev cM_power : ByteArray := prog_7_method_29_code
abbrev yM_power : MethodName := ⟨"WholeDeskModel", "power", "(III)V"⟩
theorem qM_power : yM_power.cls ≠ "java/lang/invoke/MethodHandle" ∧ yM_power.cls ≠ "java/lang/invoke/VarHandle" ∧ (parseMethodDescriptor yM_power.desc).map (fun d => d.parameters.length) = some 3 := by decide +kernel
theorem dM_power_0 : decode cM_power 0 = .ok (.aload_n 0, 1) := by decide +kernel
theorem dM_power_1 : decode cM_power 1 = .ok (.iload_n 1, 1) := by decide +kernel
theorem dM_power_2 : decode cM_power 2 = .ok (.invokestatic 91, 3) := by decide +kernel
theorem dM_power_5 : decode cM_power 5 = .ok (.ifCond .ne 14, 3) := by decide +kernel
theorem dM_power_8 : decode cM_power 8 = .ok (.iload_n 3, 1) := by decide +kernel
theorem dM_power_9 : decode cM_power 9 = .ok (.invokestatic 91, 3) := by decide +kernel
theorem dM_power_12 : decode cM_power 12 = .ok (.ifCond .ne 7, 3) := by decide +kernel
theorem dM_power_15 : decode cM_power 15 = .ok (.iload_n 2, 1) := by decide +kernel
theorem dM_power_16 : decode cM_power 16 = .ok (.ifCond .ge 7, 3) := by decide +kernel
theorem dM_power_19 : decode cM_power 19 = .ok (.iconst 1, 1) := by decide +kernel
theorem dM_power_20 : decode cM_power 20 = .ok (.goto 4, 3) := by decide +kernel
theorem dM_power_23 : decode cM_power 23 = .ok (.iconst 0, 1) := by decide +kernel
theorem dM_power_24 : decode cM_power 24 = .ok (.putfield 53, 3) := by decide +kernel
theorem dM_power_27 : decode cM_power 27 = .ok (.aload_n 0, 1) := by decide +kernel
theorem dM_power_28 : decode cM_power 28 = .ok (.getfield 53, 3) := by decide +kernel
theorem dM_power_31 : decode cM_power 31 = .ok (.ifCond .le 4, 3) := by decide +kernel
theorem dM_power_34 : decode cM_power 34 = .ok (.return_, 1) := by decide +kernel
theorem dM_power_35 : decode cM_power 35 = .ok (.aload_n 0, 1) := by decide +kernel
theorem dM_power_36 : decode cM_power 36 = .ok (.iconst 2, 1) := by decide +kernel
theorem dM_power_37 : decode cM_power 37 = .ok (.putfield 79, 3) := by decide +kernel
theorem dM_power_40 : decode cM_power 40 = .ok (.aload_n 0, 1) := by decide +kernel
theorem dM_power_41 : decode cM_power 41 = .ok (.iload_n 1, 1) := by decide +kernel
theorem dM_power_42 : decode cM_power 42 = .ok (.aload_n 0, 1) := by decide +kernel
theorem dM_power_43 : decode cM_power 43 = .ok (.getfield 35, 3) := by decide +kernel
theorem dM_power_46 : decode cM_power 46 = .ok (.invokevirtual 107, 3) := by decide +kernel
theorem dM_power_49 : decode cM_power 49 = .ok (.aload_n 0, 1) := by decide +kernel
theorem dM_power_50 : decode cM_power 50 = .ok (.aload_n 0, 1) := by decide +kernel
theorem dM_power_51 : decode cM_power 51 = .ok (.getfield 20, 3) := by decide +kernel
theorem dM_power_54 : decode cM_power 54 = .ok (.invokevirtual 131, 3) := by decide +kernel
theorem dM_power_57 : decode cM_power 57 = .ok (.aload_n 0, 1) := by decide +kernel
theorem dM_power_58 : decode cM_power 58 = .ok (.getfield 35, 3) := by decide +kernel
theorem dM_power_61 : decode cM_power 61 = .ok (.invokestatic 59, 3) := by decide +kernel
theorem dM_power_64 : decode cM_power 64 = .ok (.ifCond .eq 24, 3) := by decide +kernel
theorem dM_power_67 : decode cM_power 67 = .ok (.aload_n 0, 1) := by decide +kernel
theorem dM_power_68 : decode cM_power 68 = .ok (.getfield 35, 3) := by decide +kernel
theorem dM_power_71 : decode cM_power 71 = .ok (.invokestatic 59, 3) := by decide +kernel
theorem dM_power_74 : decode cM_power 74 = .ok (.iconst 1, 1) := by decide +kernel
theorem dM_power_75 : decode cM_power 75 = .ok (.if_icmp .ne 17, 3) := by decide +kernel
theorem dM_power_78 : decode cM_power 78 = .ok (.aload_n 0, 1) := by decide +kernel
theorem dM_power_79 : decode cM_power 79 = .ok (.getfield 35, 3) := by decide +kernel
theorem dM_power_82 : decode cM_power 82 = .ok (.iconst 0, 1) := by decide +kernel
theorem dM_power_83 : decode cM_power 83 = .ok (.iaload, 1) := by decide +kernel
theorem dM_power_84 : decode cM_power 84 = .ok (.iconst 1, 1) := by decide +kernel
theorem dM_power_85 : decode cM_power 85 = .ok (.if_icmp .ne 7, 3) := by decide +kernel
theorem dM_power_88 : decode cM_power 88 = .ok (.iconst 1, 1) := by decide +kernel
theorem dM_power_89 : decode cM_power 89 = .ok (.goto 4, 3) := by decide +kernel
theorem dM_power_92 : decode cM_power 92 = .ok (.iconst 0, 1) := by decide +kernel
theorem dM_power_93 : decode cM_power 93 = .ok (.istore 4, 2) := by decide +kernel
theorem dM_power_95 : decode cM_power 95 = .ok (.iload 4, 2) := by decide +kernel
theorem dM_power_97 : decode cM_power 97 = .ok (.ifCond .eq 16, 3) := by decide +kernel
theorem dM_power_100 : decode cM_power 100 = .ok (.iload_n 2, 1) := by decide +kernel
theorem dM_power_101 : decode cM_power 101 = .ok (.iconst 2, 1) := by decide +kernel
theorem dM_power_102 : decode cM_power 102 = .ok (.if_icmp .le 11, 3) := by decide +kernel
theorem dM_power_105 : decode cM_power 105 = .ok (.iconst 2, 1) := by decide +kernel
theorem dM_power_106 : decode cM_power 106 = .ok (.iload_n 2, 1) := by decide +kernel
theorem dM_power_107 : decode cM_power 107 = .ok (.iconst 2, 1) := by decide +kernel
theorem dM_power_108 : decode cM_power 108 = .ok (.irem, 1) := by decide +kernel
theorem dM_power_109 : decode cM_power 109 = .ok (.isub, 1) := by decide +kernel
theorem dM_power_110 : decode cM_power 110 = .ok (.goto 4, 3) := by decide +kernel
theorem dM_power_113 : decode cM_power 113 = .ok (.iload_n 2, 1) := by decide +kernel
theorem dM_power_114 : decode cM_power 114 = .ok (.istore 5, 2) := by decide +kernel
theorem dM_power_116 : decode cM_power 116 = .ok (.iconst 0, 1) := by decide +kernel
theorem dM_power_117 : decode cM_power 117 = .ok (.istore 6, 2) := by decide +kernel
theorem dM_power_119 : decode cM_power 119 = .ok (.iload 6, 2) := by decide +kernel
theorem dM_power_121 : decode cM_power 121 = .ok (.iload 5, 2) := by decide +kernel
theorem dM_power_123 : decode cM_power 123 = .ok (.if_icmp .ge 44, 3) := by decide +kernel
theorem dM_power_126 : decode cM_power 126 = .ok (.aload_n 0, 1) := by decide +kernel
theorem dM_power_127 : decode cM_power 127 = .ok (.aload_n 0, 1) := by decide +kernel
theorem dM_power_128 : decode cM_power 128 = .ok (.getfield 20, 3) := by decide +kernel
theorem dM_power_131 : decode cM_power 131 = .ok (.aload_n 0, 1) := by decide +kernel
theorem dM_power_132 : decode cM_power 132 = .ok (.getfield 35, 3) := by decide +kernel
theorem dM_power_135 : decode cM_power 135 = .ok (.aload_n 0, 1) := by decide +kernel
theorem dM_power_136 : decode cM_power 136 = .ok (.getfield 20, 3) := by decide +kernel
theorem dM_power_139 : decode cM_power 139 = .ok (.invokevirtual 115, 3) := by decide +kernel
theorem dM_power_142 : decode cM_power 142 = .ok (.aload_n 0, 1) := by decide +kernel
theorem dM_power_143 : decode cM_power 143 = .ok (.getfield 20, 3) := by decide +kernel
theorem dM_power_146 : decode cM_power 146 = .ok (.invokestatic 59, 3) := by decide +kernel
theorem dM_power_149 : decode cM_power 149 = .ok (.sipush 128, 3) := by decide +kernel
theorem dM_power_152 : decode cM_power 152 = .ok (.if_icmp .le 9, 3) := by decide +kernel
theorem dM_power_155 : decode cM_power 155 = .ok (.aload_n 0, 1) := by decide +kernel
theorem dM_power_156 : decode cM_power 156 = .ok (.iconst 2, 1) := by decide +kernel
theorem dM_power_157 : decode cM_power 157 = .ok (.putfield 53, 3) := by decide +kernel
theorem dM_power_160 : decode cM_power 160 = .ok (.return_, 1) := by decide +kernel
theorem dM_power_161 : decode cM_power 161 = .ok (.iinc 6 1, 3) := by decide +kernel
theorem dM_power_164 : decode cM_power 164 = .ok (.goto (-45), 3) := by decide +kernel
theorem dM_power_167 : decode cM_power 167 = .ok (.aload_n 0, 1) := by decide +kernel
theorem dM_power_168 : decode cM_power 168 = .ok (.aload_n 0, 1) := by decide +kernel
theorem dM_power_169 : decode cM_power 169 = .ok (.getfield 16, 3) := by decide +kernel
theorem dM_power_172 : decode cM_power 172 = .ok (.iload_n 1, 1) := by decide +kernel
theorem dM_power_173 : decode cM_power 173 = .ok (.baload, 1) := by decide +kernel
theorem dM_power_174 : decode cM_power 174 = .ok (.ifCond .eq 14, 3) := by decide +kernel
theorem dM_power_177 : decode cM_power 177 = .ok (.iload_n 2, 1) := by decide +kernel
theorem dM_power_178 : decode cM_power 178 = .ok (.iconst 2, 1) := by decide +kernel
theorem dM_power_179 : decode cM_power 179 = .ok (.irem, 1) := by decide +kernel
theorem dM_power_180 : decode cM_power 180 = .ok (.iconst 1, 1) := by decide +kernel
theorem dM_power_181 : decode cM_power 181 = .ok (.if_icmp .ne 7, 3) := by decide +kernel
theorem dM_power_184 : decode cM_power 184 = .ok (.iconst 1, 1) := by decide +kernel
theorem dM_power_185 : decode cM_power 185 = .ok (.goto 4, 3) := by decide +kernel
theorem dM_power_188 : decode cM_power 188 = .ok (.iconst 0, 1) := by decide +kernel
theorem dM_power_189 : decode cM_power 189 = .ok (.putfield 82, 3) := by decide +kernel
theorem dM_power_192 : decode cM_power 192 = .ok (.aload_n 0, 1) := by decide +kernel
theorem dM_power_193 : decode cM_power 193 = .ok (.iload_n 3, 1) := by decide +kernel
theorem dM_power_194 : decode cM_power 194 = .ok (.invokevirtual 103, 3) := by decide +kernel
theorem dM_power_197 : decode cM_power 197 = .ok (.return_, 1) := by decide +kernel
abbrev cM_fits : ByteArray := prog_7_method_30_code
abbrev yM_fits : MethodName := ⟨"WholeDeskModel", "fits", "(I)Z"⟩
theorem qM_fits : yM_fits.cls ≠ "java/lang/invoke/MethodHandle" ∧ yM_fits.cls ≠ "java/lang/invoke/VarHandle" ∧ (parseMethodDescriptor yM_fits.desc).map (fun d => d.parameters.length) = some 1 := by decide +kernel
theorem dM_fits_0 : decode cM_fits 0 = .ok (.aload_n 0, 1) := by decide +kernel
theorem dM_fits_1 : decode cM_fits 1 = .ok (.aload_n 0, 1) := by decide +kernel
theorem dM_fits_2 : decode cM_fits 2 = .ok (.getfield 23, 3) := by decide +kernel
theorem dM_fits_5 : decode cM_fits 5 = .ok (.invokevirtual 131, 3) := by decide +kernel
theorem dM_fits_8 : decode cM_fits 8 = .ok (.iconst 0, 1) := by decide +kernel
theorem dM_fits_9 : decode cM_fits 9 = .ok (.istore_n 2, 1) := by decide +kernel
theorem dM_fits_10 : decode cM_fits 10 = .ok (.iload_n 2, 1) := by decide +kernel
theorem dM_fits_11 : decode cM_fits 11 = .ok (.iload_n 1, 1) := by decide +kernel
theorem dM_fits_12 : decode cM_fits 12 = .ok (.if_icmp .ge 41, 3) := by decide +kernel
theorem dM_fits_15 : decode cM_fits 15 = .ok (.aload_n 0, 1) := by decide +kernel
theorem dM_fits_16 : decode cM_fits 16 = .ok (.aload_n 0, 1) := by decide +kernel
theorem dM_fits_17 : decode cM_fits 17 = .ok (.getfield 23, 3) := by decide +kernel
theorem dM_fits_20 : decode cM_fits 20 = .ok (.aload_n 0, 1) := by decide +kernel
theorem dM_fits_21 : decode cM_fits 21 = .ok (.getfield 20, 3) := by decide +kernel
theorem dM_fits_24 : decode cM_fits 24 = .ok (.aload_n 0, 1) := by decide +kernel
theorem dM_fits_25 : decode cM_fits 25 = .ok (.getfield 23, 3) := by decide +kernel
theorem dM_fits_28 : decode cM_fits 28 = .ok (.invokevirtual 115, 3) := by decide +kernel
theorem dM_fits_31 : decode cM_fits 31 = .ok (.aload_n 0, 1) := by decide +kernel
theorem dM_fits_32 : decode cM_fits 32 = .ok (.getfield 23, 3) := by decide +kernel
theorem dM_fits_35 : decode cM_fits 35 = .ok (.aload_n 0, 1) := by decide +kernel
theorem dM_fits_36 : decode cM_fits 36 = .ok (.getfield 35, 3) := by decide +kernel
theorem dM_fits_39 : decode cM_fits 39 = .ok (.invokestatic 71, 3) := by decide +kernel
theorem dM_fits_42 : decode cM_fits 42 = .ok (.ifCond .le 5, 3) := by decide +kernel
theorem dM_fits_45 : decode cM_fits 45 = .ok (.iconst 0, 1) := by decide +kernel
theorem dM_fits_46 : decode cM_fits 46 = .ok (.ireturn, 1) := by decide +kernel
theorem dM_fits_47 : decode cM_fits 47 = .ok (.iinc 2 1, 3) := by decide +kernel
theorem dM_fits_50 : decode cM_fits 50 = .ok (.goto (-40), 3) := by decide +kernel
theorem dM_fits_53 : decode cM_fits 53 = .ok (.iconst 1, 1) := by decide +kernel
theorem dM_fits_54 : decode cM_fits 54 = .ok (.ireturn, 1) := by decide +kernel
abbrev cM_root : ByteArray := prog_7_method_31_code
abbrev yM_root : MethodName := ⟨"WholeDeskModel", "root", "(III)V"⟩
theorem qM_root : yM_root.cls ≠ "java/lang/invoke/MethodHandle" ∧ yM_root.cls ≠ "java/lang/invoke/VarHandle" ∧ (parseMethodDescriptor yM_root.desc).map (fun d => d.parameters.length) = some 3 := by decide +kernel
theorem dM_root_0 : decode cM_root 0 = .ok (.aload_n 0, 1) := by decide +kernel
theorem dM_root_1 : decode cM_root 1 = .ok (.iload_n 1, 1) := by decide +kernel
theorem dM_root_2 : decode cM_root 2 = .ok (.invokestatic 91, 3) := by decide +kernel
theorem dM_root_5 : decode cM_root 5 = .ok (.ifCond .ne 21, 3) := by decide +kernel
theorem dM_root_8 : decode cM_root 8 = .ok (.iload_n 3, 1) := by decide +kernel
theorem dM_root_9 : decode cM_root 9 = .ok (.invokestatic 91, 3) := by decide +kernel
theorem dM_root_12 : decode cM_root 12 = .ok (.ifCond .ne 14, 3) := by decide +kernel
theorem dM_root_15 : decode cM_root 15 = .ok (.iload_n 2, 1) := by decide +kernel
theorem dM_root_16 : decode cM_root 16 = .ok (.iconst 1, 1) := by decide +kernel
theorem dM_root_17 : decode cM_root 17 = .ok (.if_icmp .lt 9, 3) := by decide +kernel
theorem dM_root_20 : decode cM_root 20 = .ok (.iload_n 2, 1) := by decide +kernel
theorem dM_root_21 : decode cM_root 21 = .ok (.bipush 64, 2) := by decide +kernel
theorem dM_root_23 : decode cM_root 23 = .ok (.if_icmp .le 7, 3) := by decide +kernel
theorem dM_root_26 : decode cM_root 26 = .ok (.iconst 1, 1) := by decide +kernel
theorem dM_root_27 : decode cM_root 27 = .ok (.goto 17, 3) := by decide +kernel
theorem dM_root_30 : decode cM_root 30 = .ok (.aload_n 0, 1) := by decide +kernel
theorem dM_root_31 : decode cM_root 31 = .ok (.getfield 16, 3) := by decide +kernel
theorem dM_root_34 : decode cM_root 34 = .ok (.iload_n 1, 1) := by decide +kernel
theorem dM_root_35 : decode cM_root 35 = .ok (.baload, 1) := by decide +kernel
theorem dM_root_36 : decode cM_root 36 = .ok (.ifCond .eq 7, 3) := by decide +kernel
theorem dM_root_39 : decode cM_root 39 = .ok (.iconst 2, 1) := by decide +kernel
theorem dM_root_40 : decode cM_root 40 = .ok (.goto 4, 3) := by decide +kernel
theorem dM_root_43 : decode cM_root 43 = .ok (.iconst 0, 1) := by decide +kernel
theorem dM_root_44 : decode cM_root 44 = .ok (.putfield 53, 3) := by decide +kernel
theorem dM_root_47 : decode cM_root 47 = .ok (.aload_n 0, 1) := by decide +kernel
theorem dM_root_48 : decode cM_root 48 = .ok (.getfield 53, 3) := by decide +kernel
theorem dM_root_51 : decode cM_root 51 = .ok (.ifCond .le 4, 3) := by decide +kernel
theorem dM_root_54 : decode cM_root 54 = .ok (.return_, 1) := by decide +kernel
theorem dM_root_55 : decode cM_root 55 = .ok (.aload_n 0, 1) := by decide +kernel
theorem dM_root_56 : decode cM_root 56 = .ok (.iconst 2, 1) := by decide +kernel
theorem dM_root_57 : decode cM_root 57 = .ok (.putfield 79, 3) := by decide +kernel
theorem dM_root_60 : decode cM_root 60 = .ok (.aload_n 0, 1) := by decide +kernel
theorem dM_root_61 : decode cM_root 61 = .ok (.iload_n 1, 1) := by decide +kernel
theorem dM_root_62 : decode cM_root 62 = .ok (.aload_n 0, 1) := by decide +kernel
theorem dM_root_63 : decode cM_root 63 = .ok (.getfield 35, 3) := by decide +kernel
theorem dM_root_66 : decode cM_root 66 = .ok (.invokevirtual 107, 3) := by decide +kernel
theorem dM_root_69 : decode cM_root 69 = .ok (.aload_n 0, 1) := by decide +kernel
theorem dM_root_70 : decode cM_root 70 = .ok (.getfield 20, 3) := by decide +kernel
theorem dM_root_73 : decode cM_root 73 = .ok (.invokestatic 63, 3) := by decide +kernel
theorem dM_root_76 : decode cM_root 76 = .ok (.bipush 16, 2) := by decide +kernel
theorem dM_root_78 : decode cM_root 78 = .ok (.aload_n 0, 1) := by decide +kernel
theorem dM_root_79 : decode cM_root 79 = .ok (.getfield 35, 3) := by decide +kernel
theorem dM_root_82 : decode cM_root 82 = .ok (.invokestatic 59, 3) := by decide +kernel
theorem dM_root_85 : decode cM_root 85 = .ok (.imul, 1) := by decide +kernel
theorem dM_root_86 : decode cM_root 86 = .ok (.iload_n 2, 1) := by decide +kernel
theorem dM_root_87 : decode cM_root 87 = .ok (.idiv, 1) := by decide +kernel
theorem dM_root_88 : decode cM_root 88 = .ok (.istore 4, 2) := by decide +kernel
theorem dM_root_90 : decode cM_root 90 = .ok (.iload 4, 2) := by decide +kernel
theorem dM_root_92 : decode cM_root 92 = .ok (.ifCond .lt 75, 3) := by decide +kernel
theorem dM_root_95 : decode cM_root 95 = .ok (.aload_n 0, 1) := by decide +kernel
theorem dM_root_96 : decode cM_root 96 = .ok (.getfield 20, 3) := by decide +kernel
theorem dM_root_99 : decode cM_root 99 = .ok (.iload 4, 2) := by decide +kernel
theorem dM_root_101 : decode cM_root 101 = .ok (.bipush 16, 2) := by decide +kernel
theorem dM_root_103 : decode cM_root 103 = .ok (.idiv, 1) := by decide +kernel
theorem dM_root_104 : decode cM_root 104 = .ok (.aload_n 0, 1) := by decide +kernel
theorem dM_root_105 : decode cM_root 105 = .ok (.getfield 20, 3) := by decide +kernel
theorem dM_root_108 : decode cM_root 108 = .ok (.iload 4, 2) := by decide +kernel
theorem dM_root_110 : decode cM_root 110 = .ok (.bipush 16, 2) := by decide +kernel
theorem dM_root_112 : decode cM_root 112 = .ok (.idiv, 1) := by decide +kernel
theorem dM_root_113 : decode cM_root 113 = .ok (.iaload, 1) := by decide +kernel
theorem dM_root_114 : decode cM_root 114 = .ok (.iconst 1, 1) := by decide +kernel
theorem dM_root_115 : decode cM_root 115 = .ok (.iload 4, 2) := by decide +kernel
theorem dM_root_117 : decode cM_root 117 = .ok (.bipush 16, 2) := by decide +kernel
theorem dM_root_119 : decode cM_root 119 = .ok (.irem, 1) := by decide +kernel
theorem dM_root_120 : decode cM_root 120 = .ok (.ishl, 1) := by decide +kernel
theorem dM_root_121 : decode cM_root 121 = .ok (.ior, 1) := by decide +kernel
theorem dM_root_122 : decode cM_root 122 = .ok (.iastore, 1) := by decide +kernel
theorem dM_root_123 : decode cM_root 123 = .ok (.aload_n 0, 1) := by decide +kernel
theorem dM_root_124 : decode cM_root 124 = .ok (.iload_n 2, 1) := by decide +kernel
theorem dM_root_125 : decode cM_root 125 = .ok (.invokevirtual 134, 3) := by decide +kernel
theorem dM_root_128 : decode cM_root 128 = .ok (.ifCond .ne 33, 3) := by decide +kernel
theorem dM_root_131 : decode cM_root 131 = .ok (.aload_n 0, 1) := by decide +kernel
theorem dM_root_132 : decode cM_root 132 = .ok (.getfield 20, 3) := by decide +kernel
theorem dM_root_135 : decode cM_root 135 = .ok (.iload 4, 2) := by decide +kernel
theorem dM_root_137 : decode cM_root 137 = .ok (.bipush 16, 2) := by decide +kernel
theorem dM_root_139 : decode cM_root 139 = .ok (.idiv, 1) := by decide +kernel
theorem dM_root_140 : decode cM_root 140 = .ok (.aload_n 0, 1) := by decide +kernel
theorem dM_root_141 : decode cM_root 141 = .ok (.getfield 20, 3) := by decide +kernel
theorem dM_root_144 : decode cM_root 144 = .ok (.iload 4, 2) := by decide +kernel
theorem dM_root_146 : decode cM_root 146 = .ok (.bipush 16, 2) := by decide +kernel
theorem dM_root_148 : decode cM_root 148 = .ok (.idiv, 1) := by decide +kernel
theorem dM_root_149 : decode cM_root 149 = .ok (.iaload, 1) := by decide +kernel
theorem dM_root_150 : decode cM_root 150 = .ok (.iconst 1, 1) := by decide +kernel
theorem dM_root_151 : decode cM_root 151 = .ok (.iload 4, 2) := by decide +kernel
theorem dM_root_153 : decode cM_root 153 = .ok (.bipush 16, 2) := by decide +kernel
theorem dM_root_155 : decode cM_root 155 = .ok (.irem, 1) := by decide +kernel
theorem dM_root_156 : decode cM_root 156 = .ok (.ishl, 1) := by decide +kernel
theorem dM_root_157 : decode cM_root 157 = .ok (.iconst (-1), 1) := by decide +kernel
theorem dM_root_158 : decode cM_root 158 = .ok (.ixor, 1) := by decide +kernel
theorem dM_root_159 : decode cM_root 159 = .ok (.iand, 1) := by decide +kernel
theorem dM_root_160 : decode cM_root 160 = .ok (.iastore, 1) := by decide +kernel
theorem dM_root_161 : decode cM_root 161 = .ok (.iinc 4 (-1), 3) := by decide +kernel
theorem dM_root_164 : decode cM_root 164 = .ok (.goto (-74), 3) := by decide +kernel
theorem dM_root_167 : decode cM_root 167 = .ok (.aload_n 0, 1) := by decide +kernel
theorem dM_root_168 : decode cM_root 168 = .ok (.iconst 0, 1) := by decide +kernel
theorem dM_root_169 : decode cM_root 169 = .ok (.putfield 82, 3) := by decide +kernel
theorem dM_root_172 : decode cM_root 172 = .ok (.aload_n 0, 1) := by decide +kernel
theorem dM_root_173 : decode cM_root 173 = .ok (.iload_n 3, 1) := by decide +kernel
theorem dM_root_174 : decode cM_root 174 = .ok (.invokevirtual 103, 3) := by decide +kernel
theorem dM_root_177 : decode cM_root 177 = .ok (.return_, 1) := by decide +kernel
abbrev cM_common : ByteArray := prog_7_method_32_code
abbrev yM_common : MethodName := ⟨"WholeDeskModel", "common", "(III)V"⟩
theorem qM_common : yM_common.cls ≠ "java/lang/invoke/MethodHandle" ∧ yM_common.cls ≠ "java/lang/invoke/VarHandle" ∧ (parseMethodDescriptor yM_common.desc).map (fun d => d.parameters.length) = some 3 := by decide +kernel
theorem dM_common_0 : decode cM_common 0 = .ok (.aload_n 0, 1) := by decide +kernel
theorem dM_common_1 : decode cM_common 1 = .ok (.iload_n 1, 1) := by decide +kernel
theorem dM_common_2 : decode cM_common 2 = .ok (.invokestatic 91, 3) := by decide +kernel
theorem dM_common_5 : decode cM_common 5 = .ok (.ifCond .ne 17, 3) := by decide +kernel
theorem dM_common_8 : decode cM_common 8 = .ok (.iload_n 2, 1) := by decide +kernel
theorem dM_common_9 : decode cM_common 9 = .ok (.invokestatic 91, 3) := by decide +kernel
theorem dM_common_12 : decode cM_common 12 = .ok (.ifCond .ne 10, 3) := by decide +kernel
theorem dM_common_15 : decode cM_common 15 = .ok (.iload_n 3, 1) := by decide +kernel
theorem dM_common_16 : decode cM_common 16 = .ok (.invokestatic 91, 3) := by decide +kernel
theorem dM_common_19 : decode cM_common 19 = .ok (.ifCond .eq 7, 3) := by decide +kernel
theorem dM_common_22 : decode cM_common 22 = .ok (.iconst 1, 1) := by decide +kernel
theorem dM_common_23 : decode cM_common 23 = .ok (.goto 4, 3) := by decide +kernel
theorem dM_common_26 : decode cM_common 26 = .ok (.iconst 0, 1) := by decide +kernel
theorem dM_common_27 : decode cM_common 27 = .ok (.putfield 53, 3) := by decide +kernel
theorem dM_common_30 : decode cM_common 30 = .ok (.aload_n 0, 1) := by decide +kernel
theorem dM_common_31 : decode cM_common 31 = .ok (.getfield 53, 3) := by decide +kernel
theorem dM_common_34 : decode cM_common 34 = .ok (.ifCond .le 4, 3) := by decide +kernel
theorem dM_common_37 : decode cM_common 37 = .ok (.return_, 1) := by decide +kernel
theorem dM_common_38 : decode cM_common 38 = .ok (.aload_n 0, 1) := by decide +kernel
theorem dM_common_39 : decode cM_common 39 = .ok (.iload_n 1, 1) := by decide +kernel
theorem dM_common_40 : decode cM_common 40 = .ok (.aload_n 0, 1) := by decide +kernel
theorem dM_common_41 : decode cM_common 41 = .ok (.getfield 35, 3) := by decide +kernel
theorem dM_common_44 : decode cM_common 44 = .ok (.invokevirtual 107, 3) := by decide +kernel
theorem dM_common_47 : decode cM_common 47 = .ok (.aload_n 0, 1) := by decide +kernel
theorem dM_common_48 : decode cM_common 48 = .ok (.iload_n 2, 1) := by decide +kernel
theorem dM_common_49 : decode cM_common 49 = .ok (.aload_n 0, 1) := by decide +kernel
theorem dM_common_50 : decode cM_common 50 = .ok (.getfield 38, 3) := by decide +kernel
theorem dM_common_53 : decode cM_common 53 = .ok (.invokevirtual 107, 3) := by decide +kernel
theorem dM_common_56 : decode cM_common 56 = .ok (.aload_n 0, 1) := by decide +kernel
theorem dM_common_57 : decode cM_common 57 = .ok (.getfield 38, 3) := by decide +kernel
theorem dM_common_60 : decode cM_common 60 = .ok (.invokestatic 59, 3) := by decide +kernel
theorem dM_common_63 : decode cM_common 63 = .ok (.ifCond .le 40, 3) := by decide +kernel
theorem dM_common_66 : decode cM_common 66 = .ok (.aload_n 0, 1) := by decide +kernel
theorem dM_common_67 : decode cM_common 67 = .ok (.aload_n 0, 1) := by decide +kernel
theorem dM_common_68 : decode cM_common 68 = .ok (.getfield 35, 3) := by decide +kernel
theorem dM_common_71 : decode cM_common 71 = .ok (.aload_n 0, 1) := by decide +kernel
theorem dM_common_72 : decode cM_common 72 = .ok (.getfield 38, 3) := by decide +kernel
theorem dM_common_75 : decode cM_common 75 = .ok (.invokevirtual 122, 3) := by decide +kernel
theorem dM_common_78 : decode cM_common 78 = .ok (.aload_n 0, 1) := by decide +kernel
theorem dM_common_79 : decode cM_common 79 = .ok (.getfield 38, 3) := by decide +kernel
theorem dM_common_82 : decode cM_common 82 = .ok (.aload_n 0, 1) := by decide +kernel
theorem dM_common_83 : decode cM_common 83 = .ok (.getfield 35, 3) := by decide +kernel
theorem dM_common_86 : decode cM_common 86 = .ok (.invokestatic 67, 3) := by decide +kernel
theorem dM_common_89 : decode cM_common 89 = .ok (.aload_n 0, 1) := by decide +kernel
theorem dM_common_90 : decode cM_common 90 = .ok (.getfield 29, 3) := by decide +kernel
theorem dM_common_93 : decode cM_common 93 = .ok (.aload_n 0, 1) := by decide +kernel
theorem dM_common_94 : decode cM_common 94 = .ok (.getfield 38, 3) := by decide +kernel
theorem dM_common_97 : decode cM_common 97 = .ok (.invokestatic 67, 3) := by decide +kernel
theorem dM_common_100 : decode cM_common 100 = .ok (.goto (-44), 3) := by decide +kernel
theorem dM_common_103 : decode cM_common 103 = .ok (.aload_n 0, 1) := by decide +kernel
theorem dM_common_104 : decode cM_common 104 = .ok (.getfield 35, 3) := by decide +kernel
theorem dM_common_107 : decode cM_common 107 = .ok (.aload_n 0, 1) := by decide +kernel
theorem dM_common_108 : decode cM_common 108 = .ok (.getfield 20, 3) := by decide +kernel
theorem dM_common_111 : decode cM_common 111 = .ok (.invokestatic 67, 3) := by decide +kernel
theorem dM_common_114 : decode cM_common 114 = .ok (.aload_n 0, 1) := by decide +kernel
theorem dM_common_115 : decode cM_common 115 = .ok (.iconst 0, 1) := by decide +kernel
theorem dM_common_116 : decode cM_common 116 = .ok (.putfield 82, 3) := by decide +kernel
theorem dM_common_119 : decode cM_common 119 = .ok (.aload_n 0, 1) := by decide +kernel
theorem dM_common_120 : decode cM_common 120 = .ok (.iload_n 3, 1) := by decide +kernel
theorem dM_common_121 : decode cM_common 121 = .ok (.invokevirtual 103, 3) := by decide +kernel
theorem dM_common_124 : decode cM_common 124 = .ok (.return_, 1) := by decide +kernel
abbrev cM_inverts : ByteArray := prog_7_method_33_code
abbrev yM_inverts : MethodName := ⟨"WholeDeskModel", "inverts", "()Z"⟩
theorem qM_inverts : yM_inverts.cls ≠ "java/lang/invoke/MethodHandle" ∧ yM_inverts.cls ≠ "java/lang/invoke/VarHandle" ∧ (parseMethodDescriptor yM_inverts.desc).map (fun d => d.parameters.length) = some 0 := by decide +kernel
theorem dM_inverts_0 : decode cM_inverts 0 = .ok (.aload_n 0, 1) := by decide +kernel
theorem dM_inverts_1 : decode cM_inverts 1 = .ok (.getfield 47, 3) := by decide +kernel
theorem dM_inverts_4 : decode cM_inverts 4 = .ok (.aload_n 0, 1) := by decide +kernel
theorem dM_inverts_5 : decode cM_inverts 5 = .ok (.getfield 38, 3) := by decide +kernel
theorem dM_inverts_8 : decode cM_inverts 8 = .ok (.invokestatic 67, 3) := by decide +kernel
theorem dM_inverts_11 : decode cM_inverts 11 = .ok (.aload_n 0, 1) := by decide +kernel
theorem dM_inverts_12 : decode cM_inverts 12 = .ok (.aload_n 0, 1) := by decide +kernel
theorem dM_inverts_13 : decode cM_inverts 13 = .ok (.getfield 41, 3) := by decide +kernel
theorem dM_inverts_16 : decode cM_inverts 16 = .ok (.invokevirtual 131, 3) := by decide +kernel
theorem dM_inverts_19 : decode cM_inverts 19 = .ok (.aload_n 0, 1) := by decide +kernel
theorem dM_inverts_20 : decode cM_inverts 20 = .ok (.getfield 44, 3) := by decide +kernel
theorem dM_inverts_23 : decode cM_inverts 23 = .ok (.invokestatic 63, 3) := by decide +kernel
theorem dM_inverts_26 : decode cM_inverts 26 = .ok (.aload_n 0, 1) := by decide +kernel
theorem dM_inverts_27 : decode cM_inverts 27 = .ok (.iconst 0, 1) := by decide +kernel
theorem dM_inverts_28 : decode cM_inverts 28 = .ok (.putfield 137, 3) := by decide +kernel
theorem dM_inverts_31 : decode cM_inverts 31 = .ok (.aload_n 0, 1) := by decide +kernel
theorem dM_inverts_32 : decode cM_inverts 32 = .ok (.iconst 0, 1) := by decide +kernel
theorem dM_inverts_33 : decode cM_inverts 33 = .ok (.putfield 140, 3) := by decide +kernel
theorem dM_inverts_36 : decode cM_inverts 36 = .ok (.aload_n 0, 1) := by decide +kernel
theorem dM_inverts_37 : decode cM_inverts 37 = .ok (.getfield 38, 3) := by decide +kernel
theorem dM_inverts_40 : decode cM_inverts 40 = .ok (.invokestatic 59, 3) := by decide +kernel
theorem dM_inverts_43 : decode cM_inverts 43 = .ok (.ifCond .le 122, 3) := by decide +kernel
theorem dM_inverts_46 : decode cM_inverts 46 = .ok (.aload_n 0, 1) := by decide +kernel
theorem dM_inverts_47 : decode cM_inverts 47 = .ok (.aload_n 0, 1) := by decide +kernel
theorem dM_inverts_48 : decode cM_inverts 48 = .ok (.getfield 35, 3) := by decide +kernel
theorem dM_inverts_51 : decode cM_inverts 51 = .ok (.aload_n 0, 1) := by decide +kernel
theorem dM_inverts_52 : decode cM_inverts 52 = .ok (.getfield 38, 3) := by decide +kernel
theorem dM_inverts_55 : decode cM_inverts 55 = .ok (.invokevirtual 122, 3) := by decide +kernel
theorem dM_inverts_58 : decode cM_inverts 58 = .ok (.aload_n 0, 1) := by decide +kernel
theorem dM_inverts_59 : decode cM_inverts 59 = .ok (.getfield 38, 3) := by decide +kernel
theorem dM_inverts_62 : decode cM_inverts 62 = .ok (.aload_n 0, 1) := by decide +kernel
theorem dM_inverts_63 : decode cM_inverts 63 = .ok (.getfield 35, 3) := by decide +kernel
theorem dM_inverts_66 : decode cM_inverts 66 = .ok (.invokestatic 67, 3) := by decide +kernel
theorem dM_inverts_69 : decode cM_inverts 69 = .ok (.aload_n 0, 1) := by decide +kernel
theorem dM_inverts_70 : decode cM_inverts 70 = .ok (.getfield 29, 3) := by decide +kernel
theorem dM_inverts_73 : decode cM_inverts 73 = .ok (.aload_n 0, 1) := by decide +kernel
theorem dM_inverts_74 : decode cM_inverts 74 = .ok (.getfield 38, 3) := by decide +kernel
theorem dM_inverts_77 : decode cM_inverts 77 = .ok (.invokestatic 67, 3) := by decide +kernel
theorem dM_inverts_80 : decode cM_inverts 80 = .ok (.aload_n 0, 1) := by decide +kernel
theorem dM_inverts_81 : decode cM_inverts 81 = .ok (.aload_n 0, 1) := by decide +kernel
theorem dM_inverts_82 : decode cM_inverts 82 = .ok (.getfield 32, 3) := by decide +kernel
theorem dM_inverts_85 : decode cM_inverts 85 = .ok (.aload_n 0, 1) := by decide +kernel
theorem dM_inverts_86 : decode cM_inverts 86 = .ok (.getfield 44, 3) := by decide +kernel
theorem dM_inverts_89 : decode cM_inverts 89 = .ok (.aload_n 0, 1) := by decide +kernel
theorem dM_inverts_90 : decode cM_inverts 90 = .ok (.getfield 23, 3) := by decide +kernel
theorem dM_inverts_93 : decode cM_inverts 93 = .ok (.invokevirtual 115, 3) := by decide +kernel
theorem dM_inverts_96 : decode cM_inverts 96 = .ok (.aload_n 0, 1) := by decide +kernel
theorem dM_inverts_97 : decode cM_inverts 97 = .ok (.aload_n 0, 1) := by decide +kernel
theorem dM_inverts_98 : decode cM_inverts 98 = .ok (.getfield 41, 3) := by decide +kernel
theorem dM_inverts_101 : decode cM_inverts 101 = .ok (.aload_n 0, 1) := by decide +kernel
theorem dM_inverts_102 : decode cM_inverts 102 = .ok (.getfield 137, 3) := by decide +kernel
theorem dM_inverts_105 : decode cM_inverts 105 = .ok (.aload_n 0, 1) := by decide +kernel
theorem dM_inverts_106 : decode cM_inverts 106 = .ok (.getfield 23, 3) := by decide +kernel
theorem dM_inverts_109 : decode cM_inverts 109 = .ok (.aload_n 0, 1) := by decide +kernel
theorem dM_inverts_110 : decode cM_inverts 110 = .ok (.getfield 140, 3) := by decide +kernel
theorem dM_inverts_113 : decode cM_inverts 113 = .ok (.ifCond .ne 7, 3) := by decide +kernel
theorem dM_inverts_116 : decode cM_inverts 116 = .ok (.iconst 1, 1) := by decide +kernel
theorem dM_inverts_117 : decode cM_inverts 117 = .ok (.goto 4, 3) := by decide +kernel
theorem dM_inverts_120 : decode cM_inverts 120 = .ok (.iconst 0, 1) := by decide +kernel
theorem dM_inverts_121 : decode cM_inverts 121 = .ok (.invokevirtual 111, 3) := by decide +kernel
theorem dM_inverts_124 : decode cM_inverts 124 = .ok (.aload_n 0, 1) := by decide +kernel
theorem dM_inverts_125 : decode cM_inverts 125 = .ok (.getfield 44, 3) := by decide +kernel
theorem dM_inverts_128 : decode cM_inverts 128 = .ok (.aload_n 0, 1) := by decide +kernel
theorem dM_inverts_129 : decode cM_inverts 129 = .ok (.getfield 41, 3) := by decide +kernel
theorem dM_inverts_132 : decode cM_inverts 132 = .ok (.invokestatic 67, 3) := by decide +kernel
theorem dM_inverts_135 : decode cM_inverts 135 = .ok (.aload_n 0, 1) := by decide +kernel
theorem dM_inverts_136 : decode cM_inverts 136 = .ok (.aload_n 0, 1) := by decide +kernel
theorem dM_inverts_137 : decode cM_inverts 137 = .ok (.getfield 140, 3) := by decide +kernel
theorem dM_inverts_140 : decode cM_inverts 140 = .ok (.putfield 137, 3) := by decide +kernel
theorem dM_inverts_143 : decode cM_inverts 143 = .ok (.aload_n 0, 1) := by decide +kernel
theorem dM_inverts_144 : decode cM_inverts 144 = .ok (.getfield 20, 3) := by decide +kernel
theorem dM_inverts_147 : decode cM_inverts 147 = .ok (.aload_n 0, 1) := by decide +kernel
theorem dM_inverts_148 : decode cM_inverts 148 = .ok (.getfield 44, 3) := by decide +kernel
theorem dM_inverts_151 : decode cM_inverts 151 = .ok (.invokestatic 67, 3) := by decide +kernel
theorem dM_inverts_154 : decode cM_inverts 154 = .ok (.aload_n 0, 1) := by decide +kernel
theorem dM_inverts_155 : decode cM_inverts 155 = .ok (.aload_n 0, 1) := by decide +kernel
theorem dM_inverts_156 : decode cM_inverts 156 = .ok (.getfield 82, 3) := by decide +kernel
theorem dM_inverts_159 : decode cM_inverts 159 = .ok (.putfield 140, 3) := by decide +kernel
theorem dM_inverts_162 : decode cM_inverts 162 = .ok (.goto (-126), 3) := by decide +kernel
theorem dM_inverts_165 : decode cM_inverts 165 = .ok (.aload_n 0, 1) := by decide +kernel
theorem dM_inverts_166 : decode cM_inverts 166 = .ok (.getfield 35, 3) := by decide +kernel
theorem dM_inverts_169 : decode cM_inverts 169 = .ok (.invokestatic 59, 3) := by decide +kernel
theorem dM_inverts_172 : decode cM_inverts 172 = .ok (.iconst 1, 1) := by decide +kernel
theorem dM_inverts_173 : decode cM_inverts 173 = .ok (.if_icmp .ne 13, 3) := by decide +kernel
theorem dM_inverts_176 : decode cM_inverts 176 = .ok (.aload_n 0, 1) := by decide +kernel
theorem dM_inverts_177 : decode cM_inverts 177 = .ok (.getfield 35, 3) := by decide +kernel
theorem dM_inverts_180 : decode cM_inverts 180 = .ok (.iconst 0, 1) := by decide +kernel
theorem dM_inverts_181 : decode cM_inverts 181 = .ok (.iaload, 1) := by decide +kernel
theorem dM_inverts_182 : decode cM_inverts 182 = .ok (.iconst 1, 1) := by decide +kernel
theorem dM_inverts_183 : decode cM_inverts 183 = .ok (.if_icmp .eq 5, 3) := by decide +kernel
theorem dM_inverts_186 : decode cM_inverts 186 = .ok (.iconst 0, 1) := by decide +kernel
theorem dM_inverts_187 : decode cM_inverts 187 = .ok (.ireturn, 1) := by decide +kernel
theorem dM_inverts_188 : decode cM_inverts 188 = .ok (.aload_n 0, 1) := by decide +kernel
theorem dM_inverts_189 : decode cM_inverts 189 = .ok (.aload_n 0, 1) := by decide +kernel
theorem dM_inverts_190 : decode cM_inverts 190 = .ok (.getfield 41, 3) := by decide +kernel
theorem dM_inverts_193 : decode cM_inverts 193 = .ok (.aload_n 0, 1) := by decide +kernel
theorem dM_inverts_194 : decode cM_inverts 194 = .ok (.getfield 47, 3) := by decide +kernel
theorem dM_inverts_197 : decode cM_inverts 197 = .ok (.invokevirtual 122, 3) := by decide +kernel
theorem dM_inverts_200 : decode cM_inverts 200 = .ok (.aload_n 0, 1) := by decide +kernel
theorem dM_inverts_201 : decode cM_inverts 201 = .ok (.getfield 29, 3) := by decide +kernel
theorem dM_inverts_204 : decode cM_inverts 204 = .ok (.aload_n 0, 1) := by decide +kernel
theorem dM_inverts_205 : decode cM_inverts 205 = .ok (.getfield 35, 3) := by decide +kernel
theorem dM_inverts_208 : decode cM_inverts 208 = .ok (.invokestatic 67, 3) := by decide +kernel
theorem dM_inverts_211 : decode cM_inverts 211 = .ok (.aload_n 0, 1) := by decide +kernel
theorem dM_inverts_212 : decode cM_inverts 212 = .ok (.getfield 137, 3) := by decide +kernel
theorem dM_inverts_215 : decode cM_inverts 215 = .ok (.ifCond .eq 55, 3) := by decide +kernel
theorem dM_inverts_218 : decode cM_inverts 218 = .ok (.aload_n 0, 1) := by decide +kernel
theorem dM_inverts_219 : decode cM_inverts 219 = .ok (.getfield 35, 3) := by decide +kernel
theorem dM_inverts_222 : decode cM_inverts 222 = .ok (.invokestatic 59, 3) := by decide +kernel
theorem dM_inverts_225 : decode cM_inverts 225 = .ok (.ifCond .le 45, 3) := by decide +kernel
theorem dM_inverts_228 : decode cM_inverts 228 = .ok (.aload_n 0, 1) := by decide +kernel
theorem dM_inverts_229 : decode cM_inverts 229 = .ok (.getfield 47, 3) := by decide +kernel
theorem dM_inverts_232 : decode cM_inverts 232 = .ok (.aload_n 0, 1) := by decide +kernel
theorem dM_inverts_233 : decode cM_inverts 233 = .ok (.getfield 20, 3) := by decide +kernel
theorem dM_inverts_236 : decode cM_inverts 236 = .ok (.invokestatic 67, 3) := by decide +kernel
theorem dM_inverts_239 : decode cM_inverts 239 = .ok (.aload_n 0, 1) := by decide +kernel
theorem dM_inverts_240 : decode cM_inverts 240 = .ok (.getfield 20, 3) := by decide +kernel
theorem dM_inverts_243 : decode cM_inverts 243 = .ok (.aload_n 0, 1) := by decide +kernel
theorem dM_inverts_244 : decode cM_inverts 244 = .ok (.getfield 35, 3) := by decide +kernel
theorem dM_inverts_247 : decode cM_inverts 247 = .ok (.aload_n 0, 1) := by decide +kernel
theorem dM_inverts_248 : decode cM_inverts 248 = .ok (.getfield 35, 3) := by decide +kernel
theorem dM_inverts_251 : decode cM_inverts 251 = .ok (.invokestatic 59, 3) := by decide +kernel
theorem dM_inverts_254 : decode cM_inverts 254 = .ok (.lconst 1, 1) := by decide +kernel
theorem dM_inverts_255 : decode cM_inverts 255 = .ok (.iconst 1, 1) := by decide +kernel
theorem dM_inverts_256 : decode cM_inverts 256 = .ok (.invokestatic 75, 3) := by decide +kernel
theorem dM_inverts_259 : decode cM_inverts 259 = .ok (.aload_n 0, 1) := by decide +kernel
theorem dM_inverts_260 : decode cM_inverts 260 = .ok (.getfield 20, 3) := by decide +kernel
theorem dM_inverts_263 : decode cM_inverts 263 = .ok (.aload_n 0, 1) := by decide +kernel
theorem dM_inverts_264 : decode cM_inverts 264 = .ok (.getfield 35, 3) := by decide +kernel
theorem dM_inverts_267 : decode cM_inverts 267 = .ok (.invokestatic 67, 3) := by decide +kernel
theorem dM_inverts_270 : decode cM_inverts 270 = .ok (.iconst 1, 1) := by decide +kernel
theorem dM_inverts_271 : decode cM_inverts 271 = .ok (.ireturn, 1) := by decide +kernel
abbrev cM_inverse : ByteArray := prog_7_method_34_code
abbrev yM_inverse : MethodName := ⟨"WholeDeskModel", "inverse", "(III)V"⟩
theorem qM_inverse : yM_inverse.cls ≠ "java/lang/invoke/MethodHandle" ∧ yM_inverse.cls ≠ "java/lang/invoke/VarHandle" ∧ (parseMethodDescriptor yM_inverse.desc).map (fun d => d.parameters.length) = some 3 := by decide +kernel
theorem dM_inverse_0 : decode cM_inverse 0 = .ok (.aload_n 0, 1) := by decide +kernel
theorem dM_inverse_1 : decode cM_inverse 1 = .ok (.iload_n 1, 1) := by decide +kernel
theorem dM_inverse_2 : decode cM_inverse 2 = .ok (.invokestatic 91, 3) := by decide +kernel
theorem dM_inverse_5 : decode cM_inverse 5 = .ok (.ifCond .ne 17, 3) := by decide +kernel
theorem dM_inverse_8 : decode cM_inverse 8 = .ok (.iload_n 2, 1) := by decide +kernel
theorem dM_inverse_9 : decode cM_inverse 9 = .ok (.invokestatic 91, 3) := by decide +kernel
theorem dM_inverse_12 : decode cM_inverse 12 = .ok (.ifCond .ne 10, 3) := by decide +kernel
theorem dM_inverse_15 : decode cM_inverse 15 = .ok (.iload_n 3, 1) := by decide +kernel
theorem dM_inverse_16 : decode cM_inverse 16 = .ok (.invokestatic 91, 3) := by decide +kernel
theorem dM_inverse_19 : decode cM_inverse 19 = .ok (.ifCond .eq 7, 3) := by decide +kernel
theorem dM_inverse_22 : decode cM_inverse 22 = .ok (.iconst 1, 1) := by decide +kernel
theorem dM_inverse_23 : decode cM_inverse 23 = .ok (.goto 16, 3) := by decide +kernel
theorem dM_inverse_26 : decode cM_inverse 26 = .ok (.aload_n 0, 1) := by decide +kernel
theorem dM_inverse_27 : decode cM_inverse 27 = .ok (.iload_n 2, 1) := by decide +kernel
theorem dM_inverse_28 : decode cM_inverse 28 = .ok (.invokevirtual 125, 3) := by decide +kernel
theorem dM_inverse_31 : decode cM_inverse 31 = .ok (.ifCond .ne 7, 3) := by decide +kernel
theorem dM_inverse_34 : decode cM_inverse 34 = .ok (.iconst 2, 1) := by decide +kernel
theorem dM_inverse_35 : decode cM_inverse 35 = .ok (.goto 4, 3) := by decide +kernel
theorem dM_inverse_38 : decode cM_inverse 38 = .ok (.iconst 0, 1) := by decide +kernel
theorem dM_inverse_39 : decode cM_inverse 39 = .ok (.putfield 53, 3) := by decide +kernel
theorem dM_inverse_42 : decode cM_inverse 42 = .ok (.aload_n 0, 1) := by decide +kernel
theorem dM_inverse_43 : decode cM_inverse 43 = .ok (.getfield 53, 3) := by decide +kernel
theorem dM_inverse_46 : decode cM_inverse 46 = .ok (.ifCond .le 4, 3) := by decide +kernel
theorem dM_inverse_49 : decode cM_inverse 49 = .ok (.return_, 1) := by decide +kernel
theorem dM_inverse_50 : decode cM_inverse 50 = .ok (.aload_n 0, 1) := by decide +kernel
theorem dM_inverse_51 : decode cM_inverse 51 = .ok (.iload_n 2, 1) := by decide +kernel
theorem dM_inverse_52 : decode cM_inverse 52 = .ok (.aload_n 0, 1) := by decide +kernel
theorem dM_inverse_53 : decode cM_inverse 53 = .ok (.getfield 47, 3) := by decide +kernel
theorem dM_inverse_56 : decode cM_inverse 56 = .ok (.invokevirtual 107, 3) := by decide +kernel
theorem dM_inverse_59 : decode cM_inverse 59 = .ok (.aload_n 0, 1) := by decide +kernel
theorem dM_inverse_60 : decode cM_inverse 60 = .ok (.iload_n 1, 1) := by decide +kernel
theorem dM_inverse_61 : decode cM_inverse 61 = .ok (.aload_n 0, 1) := by decide +kernel
theorem dM_inverse_62 : decode cM_inverse 62 = .ok (.getfield 35, 3) := by decide +kernel
theorem dM_inverse_65 : decode cM_inverse 65 = .ok (.invokevirtual 128, 3) := by decide +kernel
theorem dM_inverse_68 : decode cM_inverse 68 = .ok (.aload_n 0, 1) := by decide +kernel
theorem dM_inverse_69 : decode cM_inverse 69 = .ok (.invokevirtual 143, 3) := by decide +kernel
theorem dM_inverse_72 : decode cM_inverse 72 = .ok (.ifCond .ne 9, 3) := by decide +kernel
theorem dM_inverse_75 : decode cM_inverse 75 = .ok (.aload_n 0, 1) := by decide +kernel
theorem dM_inverse_76 : decode cM_inverse 76 = .ok (.iconst 2, 1) := by decide +kernel
theorem dM_inverse_77 : decode cM_inverse 77 = .ok (.putfield 53, 3) := by decide +kernel
theorem dM_inverse_80 : decode cM_inverse 80 = .ok (.return_, 1) := by decide +kernel
theorem dM_inverse_81 : decode cM_inverse 81 = .ok (.aload_n 0, 1) := by decide +kernel
theorem dM_inverse_82 : decode cM_inverse 82 = .ok (.getfield 35, 3) := by decide +kernel
theorem dM_inverse_85 : decode cM_inverse 85 = .ok (.aload_n 0, 1) := by decide +kernel
theorem dM_inverse_86 : decode cM_inverse 86 = .ok (.getfield 20, 3) := by decide +kernel
theorem dM_inverse_89 : decode cM_inverse 89 = .ok (.invokestatic 67, 3) := by decide +kernel
theorem dM_inverse_92 : decode cM_inverse 92 = .ok (.aload_n 0, 1) := by decide +kernel
theorem dM_inverse_93 : decode cM_inverse 93 = .ok (.iconst 0, 1) := by decide +kernel
theorem dM_inverse_94 : decode cM_inverse 94 = .ok (.putfield 82, 3) := by decide +kernel
theorem dM_inverse_97 : decode cM_inverse 97 = .ok (.aload_n 0, 1) := by decide +kernel
theorem dM_inverse_98 : decode cM_inverse 98 = .ok (.iload_n 3, 1) := by decide +kernel
theorem dM_inverse_99 : decode cM_inverse 99 = .ok (.invokevirtual 103, 3) := by decide +kernel
theorem dM_inverse_102 : decode cM_inverse 102 = .ok (.return_, 1) := by decide +kernel
abbrev cM_powerModulo : ByteArray := prog_7_method_35_code
abbrev yM_powerModulo : MethodName := ⟨"WholeDeskModel", "powerModulo", "(IIII)V"⟩
theorem qM_powerModulo : yM_powerModulo.cls ≠ "java/lang/invoke/MethodHandle" ∧ yM_powerModulo.cls ≠ "java/lang/invoke/VarHandle" ∧ (parseMethodDescriptor yM_powerModulo.desc).map (fun d => d.parameters.length) = some 4 := by decide +kernel
theorem dM_powerModulo_0 : decode cM_powerModulo 0 = .ok (.aload_n 0, 1) := by decide +kernel
theorem dM_powerModulo_1 : decode cM_powerModulo 1 = .ok (.iload_n 1, 1) := by decide +kernel
theorem dM_powerModulo_2 : decode cM_powerModulo 2 = .ok (.invokestatic 91, 3) := by decide +kernel
theorem dM_powerModulo_5 : decode cM_powerModulo 5 = .ok (.ifCond .ne 25, 3) := by decide +kernel
theorem dM_powerModulo_8 : decode cM_powerModulo 8 = .ok (.iload_n 2, 1) := by decide +kernel
theorem dM_powerModulo_9 : decode cM_powerModulo 9 = .ok (.invokestatic 91, 3) := by decide +kernel
theorem dM_powerModulo_12 : decode cM_powerModulo 12 = .ok (.ifCond .ne 18, 3) := by decide +kernel
theorem dM_powerModulo_15 : decode cM_powerModulo 15 = .ok (.iload_n 3, 1) := by decide +kernel
theorem dM_powerModulo_16 : decode cM_powerModulo 16 = .ok (.invokestatic 91, 3) := by decide +kernel
theorem dM_powerModulo_19 : decode cM_powerModulo 19 = .ok (.ifCond .ne 11, 3) := by decide +kernel
theorem dM_powerModulo_22 : decode cM_powerModulo 22 = .ok (.iload 4, 2) := by decide +kernel
theorem dM_powerModulo_24 : decode cM_powerModulo 24 = .ok (.invokestatic 91, 3) := by decide +kernel
theorem dM_powerModulo_27 : decode cM_powerModulo 27 = .ok (.ifCond .eq 7, 3) := by decide +kernel
theorem dM_powerModulo_30 : decode cM_powerModulo 30 = .ok (.iconst 1, 1) := by decide +kernel
theorem dM_powerModulo_31 : decode cM_powerModulo 31 = .ok (.goto 16, 3) := by decide +kernel
theorem dM_powerModulo_34 : decode cM_powerModulo 34 = .ok (.aload_n 0, 1) := by decide +kernel
theorem dM_powerModulo_35 : decode cM_powerModulo 35 = .ok (.iload_n 3, 1) := by decide +kernel
theorem dM_powerModulo_36 : decode cM_powerModulo 36 = .ok (.invokevirtual 125, 3) := by decide +kernel
theorem dM_powerModulo_39 : decode cM_powerModulo 39 = .ok (.ifCond .ne 7, 3) := by decide +kernel
theorem dM_powerModulo_42 : decode cM_powerModulo 42 = .ok (.iconst 2, 1) := by decide +kernel
theorem dM_powerModulo_43 : decode cM_powerModulo 43 = .ok (.goto 4, 3) := by decide +kernel
theorem dM_powerModulo_46 : decode cM_powerModulo 46 = .ok (.iconst 0, 1) := by decide +kernel
theorem dM_powerModulo_47 : decode cM_powerModulo 47 = .ok (.putfield 53, 3) := by decide +kernel
theorem dM_powerModulo_50 : decode cM_powerModulo 50 = .ok (.aload_n 0, 1) := by decide +kernel
theorem dM_powerModulo_51 : decode cM_powerModulo 51 = .ok (.getfield 53, 3) := by decide +kernel
theorem dM_powerModulo_54 : decode cM_powerModulo 54 = .ok (.ifCond .le 4, 3) := by decide +kernel
theorem dM_powerModulo_57 : decode cM_powerModulo 57 = .ok (.return_, 1) := by decide +kernel
theorem dM_powerModulo_58 : decode cM_powerModulo 58 = .ok (.aload_n 0, 1) := by decide +kernel
theorem dM_powerModulo_59 : decode cM_powerModulo 59 = .ok (.iload_n 3, 1) := by decide +kernel
theorem dM_powerModulo_60 : decode cM_powerModulo 60 = .ok (.aload_n 0, 1) := by decide +kernel
theorem dM_powerModulo_61 : decode cM_powerModulo 61 = .ok (.getfield 47, 3) := by decide +kernel
theorem dM_powerModulo_64 : decode cM_powerModulo 64 = .ok (.invokevirtual 107, 3) := by decide +kernel
theorem dM_powerModulo_67 : decode cM_powerModulo 67 = .ok (.aload_n 0, 1) := by decide +kernel
theorem dM_powerModulo_68 : decode cM_powerModulo 68 = .ok (.iload_n 1, 1) := by decide +kernel
theorem dM_powerModulo_69 : decode cM_powerModulo 69 = .ok (.aload_n 0, 1) := by decide +kernel
theorem dM_powerModulo_70 : decode cM_powerModulo 70 = .ok (.getfield 35, 3) := by decide +kernel
theorem dM_powerModulo_73 : decode cM_powerModulo 73 = .ok (.invokevirtual 128, 3) := by decide +kernel
theorem dM_powerModulo_76 : decode cM_powerModulo 76 = .ok (.aload_n 0, 1) := by decide +kernel
theorem dM_powerModulo_77 : decode cM_powerModulo 77 = .ok (.getfield 16, 3) := by decide +kernel
theorem dM_powerModulo_80 : decode cM_powerModulo 80 = .ok (.iload_n 2, 1) := by decide +kernel
theorem dM_powerModulo_81 : decode cM_powerModulo 81 = .ok (.baload, 1) := by decide +kernel
theorem dM_powerModulo_82 : decode cM_powerModulo 82 = .ok (.ifCond .eq 16, 3) := by decide +kernel
theorem dM_powerModulo_85 : decode cM_powerModulo 85 = .ok (.aload_n 0, 1) := by decide +kernel
theorem dM_powerModulo_86 : decode cM_powerModulo 86 = .ok (.invokevirtual 143, 3) := by decide +kernel
theorem dM_powerModulo_89 : decode cM_powerModulo 89 = .ok (.ifCond .ne 9, 3) := by decide +kernel
theorem dM_powerModulo_92 : decode cM_powerModulo 92 = .ok (.aload_n 0, 1) := by decide +kernel
theorem dM_powerModulo_93 : decode cM_powerModulo 93 = .ok (.iconst 2, 1) := by decide +kernel
theorem dM_powerModulo_94 : decode cM_powerModulo 94 = .ok (.putfield 53, 3) := by decide +kernel
theorem dM_powerModulo_97 : decode cM_powerModulo 97 = .ok (.return_, 1) := by decide +kernel
theorem dM_powerModulo_98 : decode cM_powerModulo 98 = .ok (.aload_n 0, 1) := by decide +kernel
theorem dM_powerModulo_99 : decode cM_powerModulo 99 = .ok (.aload_n 0, 1) := by decide +kernel
theorem dM_powerModulo_100 : decode cM_powerModulo 100 = .ok (.getfield 38, 3) := by decide +kernel
theorem dM_powerModulo_103 : decode cM_powerModulo 103 = .ok (.invokevirtual 131, 3) := by decide +kernel
theorem dM_powerModulo_106 : decode cM_powerModulo 106 = .ok (.aload_n 0, 1) := by decide +kernel
theorem dM_powerModulo_107 : decode cM_powerModulo 107 = .ok (.aload_n 0, 1) := by decide +kernel
theorem dM_powerModulo_108 : decode cM_powerModulo 108 = .ok (.getfield 38, 3) := by decide +kernel
theorem dM_powerModulo_111 : decode cM_powerModulo 111 = .ok (.aload_n 0, 1) := by decide +kernel
theorem dM_powerModulo_112 : decode cM_powerModulo 112 = .ok (.getfield 47, 3) := by decide +kernel
theorem dM_powerModulo_115 : decode cM_powerModulo 115 = .ok (.invokevirtual 122, 3) := by decide +kernel
theorem dM_powerModulo_118 : decode cM_powerModulo 118 = .ok (.aload_n 0, 1) := by decide +kernel
theorem dM_powerModulo_119 : decode cM_powerModulo 119 = .ok (.getfield 29, 3) := by decide +kernel
theorem dM_powerModulo_122 : decode cM_powerModulo 122 = .ok (.aload_n 0, 1) := by decide +kernel
theorem dM_powerModulo_123 : decode cM_powerModulo 123 = .ok (.getfield 38, 3) := by decide +kernel
theorem dM_powerModulo_126 : decode cM_powerModulo 126 = .ok (.invokestatic 67, 3) := by decide +kernel
theorem dM_powerModulo_129 : decode cM_powerModulo 129 = .ok (.sipush 2048, 3) := by decide +kernel
theorem dM_powerModulo_132 : decode cM_powerModulo 132 = .ok (.istore 5, 2) := by decide +kernel
theorem dM_powerModulo_134 : decode cM_powerModulo 134 = .ok (.iload 5, 2) := by decide +kernel
theorem dM_powerModulo_136 : decode cM_powerModulo 136 = .ok (.ifCond .le 40, 3) := by decide +kernel
theorem dM_powerModulo_139 : decode cM_powerModulo 139 = .ok (.aload_n 0, 1) := by decide +kernel
theorem dM_powerModulo_140 : decode cM_powerModulo 140 = .ok (.getfield 13, 3) := by decide +kernel
theorem dM_powerModulo_143 : decode cM_powerModulo 143 = .ok (.sipush 128, 3) := by decide +kernel
theorem dM_powerModulo_146 : decode cM_powerModulo 146 = .ok (.iload_n 2, 1) := by decide +kernel
theorem dM_powerModulo_147 : decode cM_powerModulo 147 = .ok (.imul, 1) := by decide +kernel
theorem dM_powerModulo_148 : decode cM_powerModulo 148 = .ok (.iload 5, 2) := by decide +kernel
theorem dM_powerModulo_150 : decode cM_powerModulo 150 = .ok (.iconst 1, 1) := by decide +kernel
theorem dM_powerModulo_151 : decode cM_powerModulo 151 = .ok (.isub, 1) := by decide +kernel
theorem dM_powerModulo_152 : decode cM_powerModulo 152 = .ok (.bipush 16, 2) := by decide +kernel
theorem dM_powerModulo_154 : decode cM_powerModulo 154 = .ok (.idiv, 1) := by decide +kernel
theorem dM_powerModulo_155 : decode cM_powerModulo 155 = .ok (.iadd, 1) := by decide +kernel
theorem dM_powerModulo_156 : decode cM_powerModulo 156 = .ok (.iaload, 1) := by decide +kernel
theorem dM_powerModulo_157 : decode cM_powerModulo 157 = .ok (.iload 5, 2) := by decide +kernel
theorem dM_powerModulo_159 : decode cM_powerModulo 159 = .ok (.iconst 1, 1) := by decide +kernel
theorem dM_powerModulo_160 : decode cM_powerModulo 160 = .ok (.isub, 1) := by decide +kernel
theorem dM_powerModulo_161 : decode cM_powerModulo 161 = .ok (.bipush 16, 2) := by decide +kernel
theorem dM_powerModulo_163 : decode cM_powerModulo 163 = .ok (.irem, 1) := by decide +kernel
theorem dM_powerModulo_164 : decode cM_powerModulo 164 = .ok (.ishr, 1) := by decide +kernel
theorem dM_powerModulo_165 : decode cM_powerModulo 165 = .ok (.iconst 1, 1) := by decide +kernel
theorem dM_powerModulo_166 : decode cM_powerModulo 166 = .ok (.iand, 1) := by decide +kernel
theorem dM_powerModulo_167 : decode cM_powerModulo 167 = .ok (.ifCond .ne 9, 3) := by decide +kernel
theorem dM_powerModulo_170 : decode cM_powerModulo 170 = .ok (.iinc 5 (-1), 3) := by decide +kernel
theorem dM_powerModulo_173 : decode cM_powerModulo 173 = .ok (.goto (-39), 3) := by decide +kernel
theorem dM_powerModulo_176 : decode cM_powerModulo 176 = .ok (.iload 5, 2) := by decide +kernel
theorem dM_powerModulo_178 : decode cM_powerModulo 178 = .ok (.iconst 1, 1) := by decide +kernel
theorem dM_powerModulo_179 : decode cM_powerModulo 179 = .ok (.isub, 1) := by decide +kernel
theorem dM_powerModulo_180 : decode cM_powerModulo 180 = .ok (.istore 6, 2) := by decide +kernel
theorem dM_powerModulo_182 : decode cM_powerModulo 182 = .ok (.iload 6, 2) := by decide +kernel
theorem dM_powerModulo_184 : decode cM_powerModulo 184 = .ok (.ifCond .lt 115, 3) := by decide +kernel
theorem dM_powerModulo_187 : decode cM_powerModulo 187 = .ok (.aload_n 0, 1) := by decide +kernel
theorem dM_powerModulo_188 : decode cM_powerModulo 188 = .ok (.aload_n 0, 1) := by decide +kernel
theorem dM_powerModulo_189 : decode cM_powerModulo 189 = .ok (.getfield 38, 3) := by decide +kernel
theorem dM_powerModulo_192 : decode cM_powerModulo 192 = .ok (.aload_n 0, 1) := by decide +kernel
theorem dM_powerModulo_193 : decode cM_powerModulo 193 = .ok (.getfield 38, 3) := by decide +kernel
theorem dM_powerModulo_196 : decode cM_powerModulo 196 = .ok (.aload_n 0, 1) := by decide +kernel
theorem dM_powerModulo_197 : decode cM_powerModulo 197 = .ok (.getfield 41, 3) := by decide +kernel
theorem dM_powerModulo_200 : decode cM_powerModulo 200 = .ok (.invokevirtual 115, 3) := by decide +kernel
theorem dM_powerModulo_203 : decode cM_powerModulo 203 = .ok (.aload_n 0, 1) := by decide +kernel
theorem dM_powerModulo_204 : decode cM_powerModulo 204 = .ok (.aload_n 0, 1) := by decide +kernel
theorem dM_powerModulo_205 : decode cM_powerModulo 205 = .ok (.getfield 41, 3) := by decide +kernel
theorem dM_powerModulo_208 : decode cM_powerModulo 208 = .ok (.aload_n 0, 1) := by decide +kernel
theorem dM_powerModulo_209 : decode cM_powerModulo 209 = .ok (.getfield 47, 3) := by decide +kernel
theorem dM_powerModulo_212 : decode cM_powerModulo 212 = .ok (.invokevirtual 122, 3) := by decide +kernel
theorem dM_powerModulo_215 : decode cM_powerModulo 215 = .ok (.aload_n 0, 1) := by decide +kernel
theorem dM_powerModulo_216 : decode cM_powerModulo 216 = .ok (.getfield 29, 3) := by decide +kernel
theorem dM_powerModulo_219 : decode cM_powerModulo 219 = .ok (.aload_n 0, 1) := by decide +kernel
theorem dM_powerModulo_220 : decode cM_powerModulo 220 = .ok (.getfield 38, 3) := by decide +kernel
theorem dM_powerModulo_223 : decode cM_powerModulo 223 = .ok (.invokestatic 67, 3) := by decide +kernel
theorem dM_powerModulo_226 : decode cM_powerModulo 226 = .ok (.aload_n 0, 1) := by decide +kernel
theorem dM_powerModulo_227 : decode cM_powerModulo 227 = .ok (.getfield 13, 3) := by decide +kernel
theorem dM_powerModulo_230 : decode cM_powerModulo 230 = .ok (.sipush 128, 3) := by decide +kernel
theorem dM_powerModulo_233 : decode cM_powerModulo 233 = .ok (.iload_n 2, 1) := by decide +kernel
theorem dM_powerModulo_234 : decode cM_powerModulo 234 = .ok (.imul, 1) := by decide +kernel
theorem dM_powerModulo_235 : decode cM_powerModulo 235 = .ok (.iload 6, 2) := by decide +kernel
theorem dM_powerModulo_237 : decode cM_powerModulo 237 = .ok (.bipush 16, 2) := by decide +kernel
theorem dM_powerModulo_239 : decode cM_powerModulo 239 = .ok (.idiv, 1) := by decide +kernel
theorem dM_powerModulo_240 : decode cM_powerModulo 240 = .ok (.iadd, 1) := by decide +kernel
theorem dM_powerModulo_241 : decode cM_powerModulo 241 = .ok (.iaload, 1) := by decide +kernel
theorem dM_powerModulo_242 : decode cM_powerModulo 242 = .ok (.iload 6, 2) := by decide +kernel
theorem dM_powerModulo_244 : decode cM_powerModulo 244 = .ok (.bipush 16, 2) := by decide +kernel
theorem dM_powerModulo_246 : decode cM_powerModulo 246 = .ok (.irem, 1) := by decide +kernel
theorem dM_powerModulo_247 : decode cM_powerModulo 247 = .ok (.ishr, 1) := by decide +kernel
theorem dM_powerModulo_248 : decode cM_powerModulo 248 = .ok (.iconst 1, 1) := by decide +kernel
theorem dM_powerModulo_249 : decode cM_powerModulo 249 = .ok (.iand, 1) := by decide +kernel
theorem dM_powerModulo_250 : decode cM_powerModulo 250 = .ok (.iconst 1, 1) := by decide +kernel
theorem dM_powerModulo_251 : decode cM_powerModulo 251 = .ok (.if_icmp .ne 42, 3) := by decide +kernel
theorem dM_powerModulo_254 : decode cM_powerModulo 254 = .ok (.aload_n 0, 1) := by decide +kernel
theorem dM_powerModulo_255 : decode cM_powerModulo 255 = .ok (.aload_n 0, 1) := by decide +kernel
theorem dM_powerModulo_256 : decode cM_powerModulo 256 = .ok (.getfield 38, 3) := by decide +kernel
theorem dM_powerModulo_259 : decode cM_powerModulo 259 = .ok (.aload_n 0, 1) := by decide +kernel
theorem dM_powerModulo_260 : decode cM_powerModulo 260 = .ok (.getfield 35, 3) := by decide +kernel
theorem dM_powerModulo_263 : decode cM_powerModulo 263 = .ok (.aload_n 0, 1) := by decide +kernel
theorem dM_powerModulo_264 : decode cM_powerModulo 264 = .ok (.getfield 41, 3) := by decide +kernel
theorem dM_powerModulo_267 : decode cM_powerModulo 267 = .ok (.invokevirtual 115, 3) := by decide +kernel
theorem dM_powerModulo_270 : decode cM_powerModulo 270 = .ok (.aload_n 0, 1) := by decide +kernel
theorem dM_powerModulo_271 : decode cM_powerModulo 271 = .ok (.aload_n 0, 1) := by decide +kernel
theorem dM_powerModulo_272 : decode cM_powerModulo 272 = .ok (.getfield 41, 3) := by decide +kernel
theorem dM_powerModulo_275 : decode cM_powerModulo 275 = .ok (.aload_n 0, 1) := by decide +kernel
theorem dM_powerModulo_276 : decode cM_powerModulo 276 = .ok (.getfield 47, 3) := by decide +kernel
theorem dM_powerModulo_279 : decode cM_powerModulo 279 = .ok (.invokevirtual 122, 3) := by decide +kernel
theorem dM_powerModulo_282 : decode cM_powerModulo 282 = .ok (.aload_n 0, 1) := by decide +kernel
theorem dM_powerModulo_283 : decode cM_powerModulo 283 = .ok (.getfield 29, 3) := by decide +kernel
theorem dM_powerModulo_286 : decode cM_powerModulo 286 = .ok (.aload_n 0, 1) := by decide +kernel
theorem dM_powerModulo_287 : decode cM_powerModulo 287 = .ok (.getfield 38, 3) := by decide +kernel
theorem dM_powerModulo_290 : decode cM_powerModulo 290 = .ok (.invokestatic 67, 3) := by decide +kernel
theorem dM_powerModulo_293 : decode cM_powerModulo 293 = .ok (.iinc 6 (-1), 3) := by decide +kernel
theorem dM_powerModulo_296 : decode cM_powerModulo 296 = .ok (.goto (-114), 3) := by decide +kernel
theorem dM_powerModulo_299 : decode cM_powerModulo 299 = .ok (.aload_n 0, 1) := by decide +kernel
theorem dM_powerModulo_300 : decode cM_powerModulo 300 = .ok (.getfield 38, 3) := by decide +kernel
theorem dM_powerModulo_303 : decode cM_powerModulo 303 = .ok (.aload_n 0, 1) := by decide +kernel
theorem dM_powerModulo_304 : decode cM_powerModulo 304 = .ok (.getfield 20, 3) := by decide +kernel
theorem dM_powerModulo_307 : decode cM_powerModulo 307 = .ok (.invokestatic 67, 3) := by decide +kernel
theorem dM_powerModulo_310 : decode cM_powerModulo 310 = .ok (.aload_n 0, 1) := by decide +kernel
theorem dM_powerModulo_311 : decode cM_powerModulo 311 = .ok (.iconst 0, 1) := by decide +kernel
theorem dM_powerModulo_312 : decode cM_powerModulo 312 = .ok (.putfield 82, 3) := by decide +kernel
theorem dM_powerModulo_315 : decode cM_powerModulo 315 = .ok (.aload_n 0, 1) := by decide +kernel
theorem dM_powerModulo_316 : decode cM_powerModulo 316 = .ok (.iload 4, 2) := by decide +kernel
theorem dM_powerModulo_318 : decode cM_powerModulo 318 = .ok (.invokevirtual 103, 3) := by decide +kernel
theorem dM_powerModulo_321 : decode cM_powerModulo 321 = .ok (.return_, 1) := by decide +kernel
abbrev cM_limb : ByteArray := prog_7_method_36_code
abbrev yM_limb : MethodName := ⟨"WholeDeskModel", "limb", "(II)I"⟩
theorem qM_limb : yM_limb.cls ≠ "java/lang/invoke/MethodHandle" ∧ yM_limb.cls ≠ "java/lang/invoke/VarHandle" ∧ (parseMethodDescriptor yM_limb.desc).map (fun d => d.parameters.length) = some 2 := by decide +kernel
theorem dM_limb_0 : decode cM_limb 0 = .ok (.aload_n 0, 1) := by decide +kernel
theorem dM_limb_1 : decode cM_limb 1 = .ok (.getfield 16, 3) := by decide +kernel
theorem dM_limb_4 : decode cM_limb 4 = .ok (.iload_n 1, 1) := by decide +kernel
theorem dM_limb_5 : decode cM_limb 5 = .ok (.baload, 1) := by decide +kernel
theorem dM_limb_6 : decode cM_limb 6 = .ok (.ifCond .ne 27, 3) := by decide +kernel
theorem dM_limb_9 : decode cM_limb 9 = .ok (.iload_n 2, 1) := by decide +kernel
theorem dM_limb_10 : decode cM_limb 10 = .ok (.sipush 128, 3) := by decide +kernel
theorem dM_limb_13 : decode cM_limb 13 = .ok (.if_icmp .ge 18, 3) := by decide +kernel
theorem dM_limb_16 : decode cM_limb 16 = .ok (.aload_n 0, 1) := by decide +kernel
theorem dM_limb_17 : decode cM_limb 17 = .ok (.getfield 13, 3) := by decide +kernel
theorem dM_limb_20 : decode cM_limb 20 = .ok (.sipush 128, 3) := by decide +kernel
theorem dM_limb_23 : decode cM_limb 23 = .ok (.iload_n 1, 1) := by decide +kernel
theorem dM_limb_24 : decode cM_limb 24 = .ok (.imul, 1) := by decide +kernel
theorem dM_limb_25 : decode cM_limb 25 = .ok (.iload_n 2, 1) := by decide +kernel
theorem dM_limb_26 : decode cM_limb 26 = .ok (.iadd, 1) := by decide +kernel
theorem dM_limb_27 : decode cM_limb 27 = .ok (.iaload, 1) := by decide +kernel
theorem dM_limb_28 : decode cM_limb 28 = .ok (.goto 4, 3) := by decide +kernel
theorem dM_limb_31 : decode cM_limb 31 = .ok (.iconst 0, 1) := by decide +kernel
theorem dM_limb_32 : decode cM_limb 32 = .ok (.ireturn, 1) := by decide +kernel
theorem dM_limb_33 : decode cM_limb 33 = .ok (.iconst 1, 1) := by decide +kernel
theorem dM_limb_34 : decode cM_limb 34 = .ok (.istore_n 3, 1) := by decide +kernel
theorem dM_limb_35 : decode cM_limb 35 = .ok (.iconst 0, 1) := by decide +kernel
theorem dM_limb_36 : decode cM_limb 36 = .ok (.istore 4, 2) := by decide +kernel
theorem dM_limb_38 : decode cM_limb 38 = .ok (.iload 4, 2) := by decide +kernel
theorem dM_limb_40 : decode cM_limb 40 = .ok (.iload_n 2, 1) := by decide +kernel
theorem dM_limb_41 : decode cM_limb 41 = .ok (.if_icmp .ge 43, 3) := by decide +kernel
theorem dM_limb_44 : decode cM_limb 44 = .ok (.iload 4, 2) := by decide +kernel
theorem dM_limb_46 : decode cM_limb 46 = .ok (.sipush 128, 3) := by decide +kernel
theorem dM_limb_49 : decode cM_limb 49 = .ok (.if_icmp .ge 35, 3) := by decide +kernel
theorem dM_limb_52 : decode cM_limb 52 = .ok (.iload_n 3, 1) := by decide +kernel
theorem dM_limb_53 : decode cM_limb 53 = .ok (.ifCond .eq 23, 3) := by decide +kernel
theorem dM_limb_56 : decode cM_limb 56 = .ok (.aload_n 0, 1) := by decide +kernel
theorem dM_limb_57 : decode cM_limb 57 = .ok (.getfield 13, 3) := by decide +kernel
theorem dM_limb_60 : decode cM_limb 60 = .ok (.sipush 128, 3) := by decide +kernel
theorem dM_limb_63 : decode cM_limb 63 = .ok (.iload_n 1, 1) := by decide +kernel
theorem dM_limb_64 : decode cM_limb 64 = .ok (.imul, 1) := by decide +kernel
theorem dM_limb_65 : decode cM_limb 65 = .ok (.iload 4, 2) := by decide +kernel
theorem dM_limb_67 : decode cM_limb 67 = .ok (.iadd, 1) := by decide +kernel
theorem dM_limb_68 : decode cM_limb 68 = .ok (.iaload, 1) := by decide +kernel
theorem dM_limb_69 : decode cM_limb 69 = .ok (.ifCond .ne 7, 3) := by decide +kernel
theorem dM_limb_72 : decode cM_limb 72 = .ok (.iconst 1, 1) := by decide +kernel
theorem dM_limb_73 : decode cM_limb 73 = .ok (.goto 4, 3) := by decide +kernel
theorem dM_limb_76 : decode cM_limb 76 = .ok (.iconst 0, 1) := by decide +kernel
theorem dM_limb_77 : decode cM_limb 77 = .ok (.istore_n 3, 1) := by decide +kernel
theorem dM_limb_78 : decode cM_limb 78 = .ok (.iinc 4 1, 3) := by decide +kernel
theorem dM_limb_81 : decode cM_limb 81 = .ok (.goto (-43), 3) := by decide +kernel
theorem dM_limb_84 : decode cM_limb 84 = .ok (.iload_n 2, 1) := by decide +kernel
theorem dM_limb_85 : decode cM_limb 85 = .ok (.sipush 128, 3) := by decide +kernel
theorem dM_limb_88 : decode cM_limb 88 = .ok (.if_icmp .ge 18, 3) := by decide +kernel
theorem dM_limb_91 : decode cM_limb 91 = .ok (.aload_n 0, 1) := by decide +kernel
theorem dM_limb_92 : decode cM_limb 92 = .ok (.getfield 13, 3) := by decide +kernel
theorem dM_limb_95 : decode cM_limb 95 = .ok (.sipush 128, 3) := by decide +kernel
theorem dM_limb_98 : decode cM_limb 98 = .ok (.iload_n 1, 1) := by decide +kernel
theorem dM_limb_99 : decode cM_limb 99 = .ok (.imul, 1) := by decide +kernel
theorem dM_limb_100 : decode cM_limb 100 = .ok (.iload_n 2, 1) := by decide +kernel
theorem dM_limb_101 : decode cM_limb 101 = .ok (.iadd, 1) := by decide +kernel
theorem dM_limb_102 : decode cM_limb 102 = .ok (.iaload, 1) := by decide +kernel
theorem dM_limb_103 : decode cM_limb 103 = .ok (.goto 4, 3) := by decide +kernel
theorem dM_limb_106 : decode cM_limb 106 = .ok (.iconst 0, 1) := by decide +kernel
theorem dM_limb_107 : decode cM_limb 107 = .ok (.istore 4, 2) := by decide +kernel
theorem dM_limb_109 : decode cM_limb 109 = .ok (.iload_n 3, 1) := by decide +kernel
theorem dM_limb_110 : decode cM_limb 110 = .ok (.ifCond .eq 10, 3) := by decide +kernel
theorem dM_limb_113 : decode cM_limb 113 = .ok (.iload 4, 2) := by decide +kernel
theorem dM_limb_115 : decode cM_limb 115 = .ok (.iconst 1, 1) := by decide +kernel
theorem dM_limb_116 : decode cM_limb 116 = .ok (.isub, 1) := by decide +kernel
theorem dM_limb_117 : decode cM_limb 117 = .ok (.goto 5, 3) := by decide +kernel
theorem dM_limb_120 : decode cM_limb 120 = .ok (.iload 4, 2) := by decide +kernel
theorem dM_limb_122 : decode cM_limb 122 = .ok (.iconst (-1), 1) := by decide +kernel
theorem dM_limb_123 : decode cM_limb 123 = .ok (.ixor, 1) := by decide +kernel
theorem dM_limb_124 : decode cM_limb 124 = .ok (.ldc 147, 2) := by decide +kernel
theorem dM_limb_126 : decode cM_limb 126 = .ok (.iand, 1) := by decide +kernel
theorem dM_limb_127 : decode cM_limb 127 = .ok (.ireturn, 1) := by decide +kernel
abbrev cM_combine : ByteArray := prog_7_method_37_code
abbrev yM_combine : MethodName := ⟨"WholeDeskModel", "combine", "(IIII)V"⟩
theorem qM_combine : yM_combine.cls ≠ "java/lang/invoke/MethodHandle" ∧ yM_combine.cls ≠ "java/lang/invoke/VarHandle" ∧ (parseMethodDescriptor yM_combine.desc).map (fun d => d.parameters.length) = some 4 := by decide +kernel
theorem dM_combine_0 : decode cM_combine 0 = .ok (.aload_n 0, 1) := by decide +kernel
theorem dM_combine_1 : decode cM_combine 1 = .ok (.iload_n 1, 1) := by decide +kernel
theorem dM_combine_2 : decode cM_combine 2 = .ok (.invokestatic 91, 3) := by decide +kernel
theorem dM_combine_5 : decode cM_combine 5 = .ok (.ifCond .ne 28, 3) := by decide +kernel
theorem dM_combine_8 : decode cM_combine 8 = .ok (.iload_n 2, 1) := by decide +kernel
theorem dM_combine_9 : decode cM_combine 9 = .ok (.invokestatic 91, 3) := by decide +kernel
theorem dM_combine_12 : decode cM_combine 12 = .ok (.ifCond .ne 21, 3) := by decide +kernel
theorem dM_combine_15 : decode cM_combine 15 = .ok (.iload_n 3, 1) := by decide +kernel
theorem dM_combine_16 : decode cM_combine 16 = .ok (.invokestatic 91, 3) := by decide +kernel
theorem dM_combine_19 : decode cM_combine 19 = .ok (.ifCond .ne 14, 3) := by decide +kernel
theorem dM_combine_22 : decode cM_combine 22 = .ok (.iload 4, 2) := by decide +kernel
theorem dM_combine_24 : decode cM_combine 24 = .ok (.ifCond .lt 9, 3) := by decide +kernel
theorem dM_combine_27 : decode cM_combine 27 = .ok (.iload 4, 2) := by decide +kernel
theorem dM_combine_29 : decode cM_combine 29 = .ok (.iconst 3, 1) := by decide +kernel
theorem dM_combine_30 : decode cM_combine 30 = .ok (.if_icmp .le 7, 3) := by decide +kernel
theorem dM_combine_33 : decode cM_combine 33 = .ok (.iconst 1, 1) := by decide +kernel
theorem dM_combine_34 : decode cM_combine 34 = .ok (.goto 4, 3) := by decide +kernel
theorem dM_combine_37 : decode cM_combine 37 = .ok (.iconst 0, 1) := by decide +kernel
theorem dM_combine_38 : decode cM_combine 38 = .ok (.putfield 53, 3) := by decide +kernel
theorem dM_combine_41 : decode cM_combine 41 = .ok (.aload_n 0, 1) := by decide +kernel
theorem dM_combine_42 : decode cM_combine 42 = .ok (.getfield 53, 3) := by decide +kernel
theorem dM_combine_45 : decode cM_combine 45 = .ok (.ifCond .le 4, 3) := by decide +kernel
theorem dM_combine_48 : decode cM_combine 48 = .ok (.return_, 1) := by decide +kernel
theorem dM_combine_49 : decode cM_combine 49 = .ok (.aload_n 0, 1) := by decide +kernel
theorem dM_combine_50 : decode cM_combine 50 = .ok (.iconst 2, 1) := by decide +kernel
theorem dM_combine_51 : decode cM_combine 51 = .ok (.putfield 79, 3) := by decide +kernel
theorem dM_combine_54 : decode cM_combine 54 = .ok (.aload_n 0, 1) := by decide +kernel
theorem dM_combine_55 : decode cM_combine 55 = .ok (.getfield 20, 3) := by decide +kernel
theorem dM_combine_58 : decode cM_combine 58 = .ok (.invokestatic 63, 3) := by decide +kernel
theorem dM_combine_61 : decode cM_combine 61 = .ok (.iconst 0, 1) := by decide +kernel
theorem dM_combine_62 : decode cM_combine 62 = .ok (.istore 5, 2) := by decide +kernel
theorem dM_combine_64 : decode cM_combine 64 = .ok (.iload 5, 2) := by decide +kernel
theorem dM_combine_66 : decode cM_combine 66 = .ok (.sipush 128, 3) := by decide +kernel
theorem dM_combine_69 : decode cM_combine 69 = .ok (.if_icmp .gt 82, 3) := by decide +kernel
theorem dM_combine_72 : decode cM_combine 72 = .ok (.aload_n 0, 1) := by decide +kernel
theorem dM_combine_73 : decode cM_combine 73 = .ok (.iload_n 1, 1) := by decide +kernel
theorem dM_combine_74 : decode cM_combine 74 = .ok (.iload 5, 2) := by decide +kernel
theorem dM_combine_76 : decode cM_combine 76 = .ok (.invokevirtual 148, 3) := by decide +kernel
theorem dM_combine_79 : decode cM_combine 79 = .ok (.istore 6, 2) := by decide +kernel
theorem dM_combine_81 : decode cM_combine 81 = .ok (.aload_n 0, 1) := by decide +kernel
theorem dM_combine_82 : decode cM_combine 82 = .ok (.iload_n 2, 1) := by decide +kernel
theorem dM_combine_83 : decode cM_combine 83 = .ok (.iload 5, 2) := by decide +kernel
theorem dM_combine_85 : decode cM_combine 85 = .ok (.invokevirtual 148, 3) := by decide +kernel
theorem dM_combine_88 : decode cM_combine 88 = .ok (.istore 7, 2) := by decide +kernel
theorem dM_combine_90 : decode cM_combine 90 = .ok (.aload_n 0, 1) := by decide +kernel
theorem dM_combine_91 : decode cM_combine 91 = .ok (.getfield 20, 3) := by decide +kernel
theorem dM_combine_94 : decode cM_combine 94 = .ok (.iload 5, 2) := by decide +kernel
theorem dM_combine_96 : decode cM_combine 96 = .ok (.iload 4, 2) := by decide +kernel
theorem dM_combine_98 : decode cM_combine 98 = .ok (.ifCond .ne 11, 3) := by decide +kernel
theorem dM_combine_101 : decode cM_combine 101 = .ok (.iload 6, 2) := by decide +kernel
theorem dM_combine_103 : decode cM_combine 103 = .ok (.iload 7, 2) := by decide +kernel
theorem dM_combine_105 : decode cM_combine 105 = .ok (.iand, 1) := by decide +kernel
theorem dM_combine_106 : decode cM_combine 106 = .ok (.goto 38, 3) := by decide +kernel
theorem dM_combine_109 : decode cM_combine 109 = .ok (.iload 4, 2) := by decide +kernel
theorem dM_combine_111 : decode cM_combine 111 = .ok (.iconst 1, 1) := by decide +kernel
theorem dM_combine_112 : decode cM_combine 112 = .ok (.if_icmp .ne 11, 3) := by decide +kernel
theorem dM_combine_115 : decode cM_combine 115 = .ok (.iload 6, 2) := by decide +kernel
theorem dM_combine_117 : decode cM_combine 117 = .ok (.iload 7, 2) := by decide +kernel
theorem dM_combine_119 : decode cM_combine 119 = .ok (.ior, 1) := by decide +kernel
theorem dM_combine_120 : decode cM_combine 120 = .ok (.goto 24, 3) := by decide +kernel
theorem dM_combine_123 : decode cM_combine 123 = .ok (.iload 4, 2) := by decide +kernel
theorem dM_combine_125 : decode cM_combine 125 = .ok (.iconst 2, 1) := by decide +kernel
theorem dM_combine_126 : decode cM_combine 126 = .ok (.if_icmp .ne 11, 3) := by decide +kernel
theorem dM_combine_129 : decode cM_combine 129 = .ok (.iload 6, 2) := by decide +kernel
theorem dM_combine_131 : decode cM_combine 131 = .ok (.iload 7, 2) := by decide +kernel
theorem dM_combine_133 : decode cM_combine 133 = .ok (.ixor, 1) := by decide +kernel
theorem dM_combine_134 : decode cM_combine 134 = .ok (.goto 10, 3) := by decide +kernel
theorem dM_combine_137 : decode cM_combine 137 = .ok (.iload 6, 2) := by decide +kernel
theorem dM_combine_139 : decode cM_combine 139 = .ok (.iload 7, 2) := by decide +kernel
theorem dM_combine_141 : decode cM_combine 141 = .ok (.iconst (-1), 1) := by decide +kernel
theorem dM_combine_142 : decode cM_combine 142 = .ok (.ixor, 1) := by decide +kernel
theorem dM_combine_143 : decode cM_combine 143 = .ok (.iand, 1) := by decide +kernel
theorem dM_combine_144 : decode cM_combine 144 = .ok (.iastore, 1) := by decide +kernel
theorem dM_combine_145 : decode cM_combine 145 = .ok (.iinc 5 1, 3) := by decide +kernel
theorem dM_combine_148 : decode cM_combine 148 = .ok (.goto (-84), 3) := by decide +kernel
theorem dM_combine_151 : decode cM_combine 151 = .ok (.aload_n 0, 1) := by decide +kernel
theorem dM_combine_152 : decode cM_combine 152 = .ok (.aload_n 0, 1) := by decide +kernel
theorem dM_combine_153 : decode cM_combine 153 = .ok (.getfield 20, 3) := by decide +kernel
theorem dM_combine_156 : decode cM_combine 156 = .ok (.sipush 128, 3) := by decide +kernel
theorem dM_combine_159 : decode cM_combine 159 = .ok (.iaload, 1) := by decide +kernel
theorem dM_combine_160 : decode cM_combine 160 = .ok (.ldc 152, 2) := by decide +kernel
theorem dM_combine_162 : decode cM_combine 162 = .ok (.if_icmp .lt 7, 3) := by decide +kernel
theorem dM_combine_165 : decode cM_combine 165 = .ok (.iconst 1, 1) := by decide +kernel
theorem dM_combine_166 : decode cM_combine 166 = .ok (.goto 4, 3) := by decide +kernel
theorem dM_combine_169 : decode cM_combine 169 = .ok (.iconst 0, 1) := by decide +kernel
theorem dM_combine_170 : decode cM_combine 170 = .ok (.putfield 82, 3) := by decide +kernel
theorem dM_combine_173 : decode cM_combine 173 = .ok (.aload_n 0, 1) := by decide +kernel
theorem dM_combine_174 : decode cM_combine 174 = .ok (.getfield 82, 3) := by decide +kernel
theorem dM_combine_177 : decode cM_combine 177 = .ok (.ifCond .eq 61, 3) := by decide +kernel
theorem dM_combine_180 : decode cM_combine 180 = .ok (.iconst 0, 1) := by decide +kernel
theorem dM_combine_181 : decode cM_combine 181 = .ok (.istore 5, 2) := by decide +kernel
theorem dM_combine_183 : decode cM_combine 183 = .ok (.iload 5, 2) := by decide +kernel
theorem dM_combine_185 : decode cM_combine 185 = .ok (.sipush 128, 3) := by decide +kernel
theorem dM_combine_188 : decode cM_combine 188 = .ok (.if_icmp .gt 28, 3) := by decide +kernel
theorem dM_combine_191 : decode cM_combine 191 = .ok (.aload_n 0, 1) := by decide +kernel
theorem dM_combine_192 : decode cM_combine 192 = .ok (.getfield 20, 3) := by decide +kernel
theorem dM_combine_195 : decode cM_combine 195 = .ok (.iload 5, 2) := by decide +kernel
theorem dM_combine_197 : decode cM_combine 197 = .ok (.aload_n 0, 1) := by decide +kernel
theorem dM_combine_198 : decode cM_combine 198 = .ok (.getfield 20, 3) := by decide +kernel
theorem dM_combine_201 : decode cM_combine 201 = .ok (.iload 5, 2) := by decide +kernel
theorem dM_combine_203 : decode cM_combine 203 = .ok (.iaload, 1) := by decide +kernel
theorem dM_combine_204 : decode cM_combine 204 = .ok (.iconst (-1), 1) := by decide +kernel
theorem dM_combine_205 : decode cM_combine 205 = .ok (.ixor, 1) := by decide +kernel
theorem dM_combine_206 : decode cM_combine 206 = .ok (.ldc 147, 2) := by decide +kernel
theorem dM_combine_208 : decode cM_combine 208 = .ok (.iand, 1) := by decide +kernel
theorem dM_combine_209 : decode cM_combine 209 = .ok (.iastore, 1) := by decide +kernel
theorem dM_combine_210 : decode cM_combine 210 = .ok (.iinc 5 1, 3) := by decide +kernel
theorem dM_combine_213 : decode cM_combine 213 = .ok (.goto (-30), 3) := by decide +kernel
theorem dM_combine_216 : decode cM_combine 216 = .ok (.aload_n 0, 1) := by decide +kernel
theorem dM_combine_217 : decode cM_combine 217 = .ok (.aload_n 0, 1) := by decide +kernel
theorem dM_combine_218 : decode cM_combine 218 = .ok (.getfield 23, 3) := by decide +kernel
theorem dM_combine_221 : decode cM_combine 221 = .ok (.invokevirtual 131, 3) := by decide +kernel
theorem dM_combine_224 : decode cM_combine 224 = .ok (.aload_n 0, 1) := by decide +kernel
theorem dM_combine_225 : decode cM_combine 225 = .ok (.getfield 20, 3) := by decide +kernel
theorem dM_combine_228 : decode cM_combine 228 = .ok (.aload_n 0, 1) := by decide +kernel
theorem dM_combine_229 : decode cM_combine 229 = .ok (.getfield 23, 3) := by decide +kernel
theorem dM_combine_232 : decode cM_combine 232 = .ok (.iconst 1, 1) := by decide +kernel
theorem dM_combine_233 : decode cM_combine 233 = .ok (.lconst 1, 1) := by decide +kernel
theorem dM_combine_234 : decode cM_combine 234 = .ok (.iconst 0, 1) := by decide +kernel
theorem dM_combine_235 : decode cM_combine 235 = .ok (.invokestatic 75, 3) := by decide +kernel
theorem dM_combine_238 : decode cM_combine 238 = .ok (.aload_n 0, 1) := by decide +kernel
theorem dM_combine_239 : decode cM_combine 239 = .ok (.iload_n 3, 1) := by decide +kernel
theorem dM_combine_240 : decode cM_combine 240 = .ok (.invokevirtual 103, 3) := by decide +kernel
theorem dM_combine_243 : decode cM_combine 243 = .ok (.return_, 1) := by decide +kernel
abbrev cM_shift : ByteArray := prog_7_method_38_code
abbrev yM_shift : MethodName := ⟨"WholeDeskModel", "shift", "(III)V"⟩
theorem qM_shift : yM_shift.cls ≠ "java/lang/invoke/MethodHandle" ∧ yM_shift.cls ≠ "java/lang/invoke/VarHandle" ∧ (parseMethodDescriptor yM_shift.desc).map (fun d => d.parameters.length) = some 3 := by decide +kernel
theorem dM_shift_0 : decode cM_shift 0 = .ok (.aload_n 0, 1) := by decide +kernel
theorem dM_shift_1 : decode cM_shift 1 = .ok (.iload_n 1, 1) := by decide +kernel
theorem dM_shift_2 : decode cM_shift 2 = .ok (.invokestatic 91, 3) := by decide +kernel
theorem dM_shift_5 : decode cM_shift 5 = .ok (.ifCond .ne 10, 3) := by decide +kernel
theorem dM_shift_8 : decode cM_shift 8 = .ok (.iload_n 3, 1) := by decide +kernel
theorem dM_shift_9 : decode cM_shift 9 = .ok (.invokestatic 91, 3) := by decide +kernel
theorem dM_shift_12 : decode cM_shift 12 = .ok (.ifCond .eq 7, 3) := by decide +kernel
theorem dM_shift_15 : decode cM_shift 15 = .ok (.iconst 1, 1) := by decide +kernel
theorem dM_shift_16 : decode cM_shift 16 = .ok (.goto 4, 3) := by decide +kernel
theorem dM_shift_19 : decode cM_shift 19 = .ok (.iconst 0, 1) := by decide +kernel
theorem dM_shift_20 : decode cM_shift 20 = .ok (.putfield 53, 3) := by decide +kernel
theorem dM_shift_23 : decode cM_shift 23 = .ok (.aload_n 0, 1) := by decide +kernel
theorem dM_shift_24 : decode cM_shift 24 = .ok (.getfield 53, 3) := by decide +kernel
theorem dM_shift_27 : decode cM_shift 27 = .ok (.ifCond .le 4, 3) := by decide +kernel
theorem dM_shift_30 : decode cM_shift 30 = .ok (.return_, 1) := by decide +kernel
theorem dM_shift_31 : decode cM_shift 31 = .ok (.aload_n 0, 1) := by decide +kernel
theorem dM_shift_32 : decode cM_shift 32 = .ok (.iconst 2, 1) := by decide +kernel
theorem dM_shift_33 : decode cM_shift 33 = .ok (.putfield 79, 3) := by decide +kernel
theorem dM_shift_36 : decode cM_shift 36 = .ok (.aload_n 0, 1) := by decide +kernel
theorem dM_shift_37 : decode cM_shift 37 = .ok (.iload_n 1, 1) := by decide +kernel
theorem dM_shift_38 : decode cM_shift 38 = .ok (.aload_n 0, 1) := by decide +kernel
theorem dM_shift_39 : decode cM_shift 39 = .ok (.getfield 35, 3) := by decide +kernel
theorem dM_shift_42 : decode cM_shift 42 = .ok (.invokevirtual 107, 3) := by decide +kernel
theorem dM_shift_45 : decode cM_shift 45 = .ok (.aload_n 0, 1) := by decide +kernel
theorem dM_shift_46 : decode cM_shift 46 = .ok (.aload_n 0, 1) := by decide +kernel
theorem dM_shift_47 : decode cM_shift 47 = .ok (.getfield 16, 3) := by decide +kernel
theorem dM_shift_50 : decode cM_shift 50 = .ok (.iload_n 1, 1) := by decide +kernel
theorem dM_shift_51 : decode cM_shift 51 = .ok (.baload, 1) := by decide +kernel
theorem dM_shift_52 : decode cM_shift 52 = .ok (.putfield 82, 3) := by decide +kernel
theorem dM_shift_55 : decode cM_shift 55 = .ok (.aload_n 0, 1) := by decide +kernel
theorem dM_shift_56 : decode cM_shift 56 = .ok (.getfield 20, 3) := by decide +kernel
theorem dM_shift_59 : decode cM_shift 59 = .ok (.invokestatic 63, 3) := by decide +kernel
theorem dM_shift_62 : decode cM_shift 62 = .ok (.iload_n 2, 1) := by decide +kernel
theorem dM_shift_63 : decode cM_shift 63 = .ok (.ifCond .lt 120, 3) := by decide +kernel
theorem dM_shift_66 : decode cM_shift 66 = .ok (.iload_n 2, 1) := by decide +kernel
theorem dM_shift_67 : decode cM_shift 67 = .ok (.sipush 2048, 3) := by decide +kernel
theorem dM_shift_70 : decode cM_shift 70 = .ok (.if_icmp .le 19, 3) := by decide +kernel
theorem dM_shift_73 : decode cM_shift 73 = .ok (.aload_n 0, 1) := by decide +kernel
theorem dM_shift_74 : decode cM_shift 74 = .ok (.getfield 35, 3) := by decide +kernel
theorem dM_shift_77 : decode cM_shift 77 = .ok (.invokestatic 59, 3) := by decide +kernel
theorem dM_shift_80 : decode cM_shift 80 = .ok (.ifCond .le 9, 3) := by decide +kernel
theorem dM_shift_83 : decode cM_shift 83 = .ok (.aload_n 0, 1) := by decide +kernel
theorem dM_shift_84 : decode cM_shift 84 = .ok (.iconst 2, 1) := by decide +kernel
theorem dM_shift_85 : decode cM_shift 85 = .ok (.putfield 53, 3) := by decide +kernel
theorem dM_shift_88 : decode cM_shift 88 = .ok (.return_, 1) := by decide +kernel
theorem dM_shift_89 : decode cM_shift 89 = .ok (.iconst 0, 1) := by decide +kernel
theorem dM_shift_90 : decode cM_shift 90 = .ok (.istore 4, 2) := by decide +kernel
theorem dM_shift_92 : decode cM_shift 92 = .ok (.iload 4, 2) := by decide +kernel
theorem dM_shift_94 : decode cM_shift 94 = .ok (.aload_n 0, 1) := by decide +kernel
theorem dM_shift_95 : decode cM_shift 95 = .ok (.getfield 35, 3) := by decide +kernel
theorem dM_shift_98 : decode cM_shift 98 = .ok (.invokestatic 59, 3) := by decide +kernel
theorem dM_shift_101 : decode cM_shift 101 = .ok (.if_icmp .ge 76, 3) := by decide +kernel
theorem dM_shift_104 : decode cM_shift 104 = .ok (.aload_n 0, 1) := by decide +kernel
theorem dM_shift_105 : decode cM_shift 105 = .ok (.getfield 35, 3) := by decide +kernel
theorem dM_shift_108 : decode cM_shift 108 = .ok (.iload 4, 2) := by decide +kernel
theorem dM_shift_110 : decode cM_shift 110 = .ok (.iaload, 1) := by decide +kernel
theorem dM_shift_111 : decode cM_shift 111 = .ok (.i2l, 1) := by decide +kernel
theorem dM_shift_112 : decode cM_shift 112 = .ok (.iload_n 2, 1) := by decide +kernel
theorem dM_shift_113 : decode cM_shift 113 = .ok (.bipush 16, 2) := by decide +kernel
theorem dM_shift_115 : decode cM_shift 115 = .ok (.irem, 1) := by decide +kernel
theorem dM_shift_116 : decode cM_shift 116 = .ok (.lshl, 1) := by decide +kernel
theorem dM_shift_117 : decode cM_shift 117 = .ok (.lstore 5, 2) := by decide +kernel
theorem dM_shift_119 : decode cM_shift 119 = .ok (.aload_n 0, 1) := by decide +kernel
theorem dM_shift_120 : decode cM_shift 120 = .ok (.getfield 20, 3) := by decide +kernel
theorem dM_shift_123 : decode cM_shift 123 = .ok (.iload 4, 2) := by decide +kernel
theorem dM_shift_125 : decode cM_shift 125 = .ok (.iload_n 2, 1) := by decide +kernel
theorem dM_shift_126 : decode cM_shift 126 = .ok (.bipush 16, 2) := by decide +kernel
theorem dM_shift_128 : decode cM_shift 128 = .ok (.idiv, 1) := by decide +kernel
theorem dM_shift_129 : decode cM_shift 129 = .ok (.iadd, 1) := by decide +kernel
theorem dM_shift_130 : decode cM_shift 130 = .ok (.aload_n 0, 1) := by decide +kernel
theorem dM_shift_131 : decode cM_shift 131 = .ok (.getfield 20, 3) := by decide +kernel
theorem dM_shift_134 : decode cM_shift 134 = .ok (.iload 4, 2) := by decide +kernel
theorem dM_shift_136 : decode cM_shift 136 = .ok (.iload_n 2, 1) := by decide +kernel
theorem dM_shift_137 : decode cM_shift 137 = .ok (.bipush 16, 2) := by decide +kernel
theorem dM_shift_139 : decode cM_shift 139 = .ok (.idiv, 1) := by decide +kernel
theorem dM_shift_140 : decode cM_shift 140 = .ok (.iadd, 1) := by decide +kernel
theorem dM_shift_141 : decode cM_shift 141 = .ok (.iaload, 1) := by decide +kernel
theorem dM_shift_142 : decode cM_shift 142 = .ok (.lload 5, 2) := by decide +kernel
theorem dM_shift_144 : decode cM_shift 144 = .ok (.ldc2_w 57, 3) := by decide +kernel
theorem dM_shift_147 : decode cM_shift 147 = .ok (.land, 1) := by decide +kernel
theorem dM_shift_148 : decode cM_shift 148 = .ok (.l2i, 1) := by decide +kernel
theorem dM_shift_149 : decode cM_shift 149 = .ok (.ior, 1) := by decide +kernel
theorem dM_shift_150 : decode cM_shift 150 = .ok (.iastore, 1) := by decide +kernel
theorem dM_shift_151 : decode cM_shift 151 = .ok (.aload_n 0, 1) := by decide +kernel
theorem dM_shift_152 : decode cM_shift 152 = .ok (.getfield 20, 3) := by decide +kernel
theorem dM_shift_155 : decode cM_shift 155 = .ok (.iload 4, 2) := by decide +kernel
theorem dM_shift_157 : decode cM_shift 157 = .ok (.iload_n 2, 1) := by decide +kernel
theorem dM_shift_158 : decode cM_shift 158 = .ok (.bipush 16, 2) := by decide +kernel
theorem dM_shift_160 : decode cM_shift 160 = .ok (.idiv, 1) := by decide +kernel
theorem dM_shift_161 : decode cM_shift 161 = .ok (.iadd, 1) := by decide +kernel
theorem dM_shift_162 : decode cM_shift 162 = .ok (.iconst 1, 1) := by decide +kernel
theorem dM_shift_163 : decode cM_shift 163 = .ok (.iadd, 1) := by decide +kernel
theorem dM_shift_164 : decode cM_shift 164 = .ok (.lload 5, 2) := by decide +kernel
theorem dM_shift_166 : decode cM_shift 166 = .ok (.bipush 16, 2) := by decide +kernel
theorem dM_shift_168 : decode cM_shift 168 = .ok (.lshr, 1) := by decide +kernel
theorem dM_shift_169 : decode cM_shift 169 = .ok (.l2i, 1) := by decide +kernel
theorem dM_shift_170 : decode cM_shift 170 = .ok (.iastore, 1) := by decide +kernel
theorem dM_shift_171 : decode cM_shift 171 = .ok (.iinc 4 1, 3) := by decide +kernel
theorem dM_shift_174 : decode cM_shift 174 = .ok (.goto (-82), 3) := by decide +kernel
theorem dM_shift_177 : decode cM_shift 177 = .ok (.aload_n 0, 1) := by decide +kernel
theorem dM_shift_178 : decode cM_shift 178 = .ok (.iload_n 3, 1) := by decide +kernel
theorem dM_shift_179 : decode cM_shift 179 = .ok (.invokevirtual 103, 3) := by decide +kernel
theorem dM_shift_182 : decode cM_shift 182 = .ok (.return_, 1) := by decide +kernel
theorem dM_shift_183 : decode cM_shift 183 = .ok (.iconst 0, 1) := by decide +kernel
theorem dM_shift_184 : decode cM_shift 184 = .ok (.istore 4, 2) := by decide +kernel
theorem dM_shift_186 : decode cM_shift 186 = .ok (.iconst 0, 1) := by decide +kernel
theorem dM_shift_187 : decode cM_shift 187 = .ok (.istore 5, 2) := by decide +kernel
theorem dM_shift_189 : decode cM_shift 189 = .ok (.iload 5, 2) := by decide +kernel
theorem dM_shift_191 : decode cM_shift 191 = .ok (.sipush 2048, 3) := by decide +kernel
theorem dM_shift_194 : decode cM_shift 194 = .ok (.if_icmp .ge 101, 3) := by decide +kernel
theorem dM_shift_197 : decode cM_shift 197 = .ok (.aload_n 0, 1) := by decide +kernel
theorem dM_shift_198 : decode cM_shift 198 = .ok (.getfield 35, 3) := by decide +kernel
theorem dM_shift_201 : decode cM_shift 201 = .ok (.iload 5, 2) := by decide +kernel
theorem dM_shift_203 : decode cM_shift 203 = .ok (.bipush 16, 2) := by decide +kernel
theorem dM_shift_205 : decode cM_shift 205 = .ok (.idiv, 1) := by decide +kernel
theorem dM_shift_206 : decode cM_shift 206 = .ok (.iaload, 1) := by decide +kernel
theorem dM_shift_207 : decode cM_shift 207 = .ok (.iload 5, 2) := by decide +kernel
theorem dM_shift_209 : decode cM_shift 209 = .ok (.bipush 16, 2) := by decide +kernel
theorem dM_shift_211 : decode cM_shift 211 = .ok (.irem, 1) := by decide +kernel
theorem dM_shift_212 : decode cM_shift 212 = .ok (.ishr, 1) := by decide +kernel
theorem dM_shift_213 : decode cM_shift 213 = .ok (.iconst 1, 1) := by decide +kernel
theorem dM_shift_214 : decode cM_shift 214 = .ok (.iand, 1) := by decide +kernel
theorem dM_shift_215 : decode cM_shift 215 = .ok (.istore 6, 2) := by decide +kernel
theorem dM_shift_217 : decode cM_shift 217 = .ok (.iload 5, 2) := by decide +kernel
theorem dM_shift_219 : decode cM_shift 219 = .ok (.i2l, 1) := by decide +kernel
theorem dM_shift_220 : decode cM_shift 220 = .ok (.iload_n 2, 1) := by decide +kernel
theorem dM_shift_221 : decode cM_shift 221 = .ok (.i2l, 1) := by decide +kernel
theorem dM_shift_222 : decode cM_shift 222 = .ok (.ladd, 1) := by decide +kernel
theorem dM_shift_223 : decode cM_shift 223 = .ok (.lstore 7, 2) := by decide +kernel
theorem dM_shift_225 : decode cM_shift 225 = .ok (.iload 4, 2) := by decide +kernel
theorem dM_shift_227 : decode cM_shift 227 = .ok (.ifCond .ne 16, 3) := by decide +kernel
theorem dM_shift_230 : decode cM_shift 230 = .ok (.iload 6, 2) := by decide +kernel
theorem dM_shift_232 : decode cM_shift 232 = .ok (.iconst 1, 1) := by decide +kernel
theorem dM_shift_233 : decode cM_shift 233 = .ok (.if_icmp .ne 14, 3) := by decide +kernel
theorem dM_shift_236 : decode cM_shift 236 = .ok (.lload 7, 2) := by decide +kernel
theorem dM_shift_238 : decode cM_shift 238 = .ok (.lconst 0, 1) := by decide +kernel
theorem dM_shift_239 : decode cM_shift 239 = .ok (.lcmp, 1) := by decide +kernel
theorem dM_shift_240 : decode cM_shift 240 = .ok (.ifCond .ge 7, 3) := by decide +kernel
theorem dM_shift_243 : decode cM_shift 243 = .ok (.iconst 1, 1) := by decide +kernel
theorem dM_shift_244 : decode cM_shift 244 = .ok (.goto 4, 3) := by decide +kernel
theorem dM_shift_247 : decode cM_shift 247 = .ok (.iconst 0, 1) := by decide +kernel
theorem dM_shift_248 : decode cM_shift 248 = .ok (.istore 4, 2) := by decide +kernel
theorem dM_shift_250 : decode cM_shift 250 = .ok (.lload 7, 2) := by decide +kernel
theorem dM_shift_252 : decode cM_shift 252 = .ok (.lconst 0, 1) := by decide +kernel
theorem dM_shift_253 : decode cM_shift 253 = .ok (.lcmp, 1) := by decide +kernel
theorem dM_shift_254 : decode cM_shift 254 = .ok (.ifCond .lt 35, 3) := by decide +kernel
theorem dM_shift_257 : decode cM_shift 257 = .ok (.aload_n 0, 1) := by decide +kernel
theorem dM_shift_258 : decode cM_shift 258 = .ok (.getfield 20, 3) := by decide +kernel
theorem dM_shift_261 : decode cM_shift 261 = .ok (.lload 7, 2) := by decide +kernel
theorem dM_shift_263 : decode cM_shift 263 = .ok (.l2i, 1) := by decide +kernel
theorem dM_shift_264 : decode cM_shift 264 = .ok (.bipush 16, 2) := by decide +kernel
theorem dM_shift_266 : decode cM_shift 266 = .ok (.idiv, 1) := by decide +kernel
theorem dM_shift_267 : decode cM_shift 267 = .ok (.aload_n 0, 1) := by decide +kernel
theorem dM_shift_268 : decode cM_shift 268 = .ok (.getfield 20, 3) := by decide +kernel
theorem dM_shift_271 : decode cM_shift 271 = .ok (.lload 7, 2) := by decide +kernel
theorem dM_shift_273 : decode cM_shift 273 = .ok (.l2i, 1) := by decide +kernel
theorem dM_shift_274 : decode cM_shift 274 = .ok (.bipush 16, 2) := by decide +kernel
theorem dM_shift_276 : decode cM_shift 276 = .ok (.idiv, 1) := by decide +kernel
theorem dM_shift_277 : decode cM_shift 277 = .ok (.iaload, 1) := by decide +kernel
theorem dM_shift_278 : decode cM_shift 278 = .ok (.iload 6, 2) := by decide +kernel
theorem dM_shift_280 : decode cM_shift 280 = .ok (.lload 7, 2) := by decide +kernel
theorem dM_shift_282 : decode cM_shift 282 = .ok (.l2i, 1) := by decide +kernel
theorem dM_shift_283 : decode cM_shift 283 = .ok (.bipush 16, 2) := by decide +kernel
theorem dM_shift_285 : decode cM_shift 285 = .ok (.irem, 1) := by decide +kernel
theorem dM_shift_286 : decode cM_shift 286 = .ok (.ishl, 1) := by decide +kernel
theorem dM_shift_287 : decode cM_shift 287 = .ok (.ior, 1) := by decide +kernel
theorem dM_shift_288 : decode cM_shift 288 = .ok (.iastore, 1) := by decide +kernel
theorem dM_shift_289 : decode cM_shift 289 = .ok (.iinc 5 1, 3) := by decide +kernel
theorem dM_shift_292 : decode cM_shift 292 = .ok (.goto (-103), 3) := by decide +kernel
theorem dM_shift_295 : decode cM_shift 295 = .ok (.aload_n 0, 1) := by decide +kernel
theorem dM_shift_296 : decode cM_shift 296 = .ok (.getfield 82, 3) := by decide +kernel
theorem dM_shift_299 : decode cM_shift 299 = .ok (.ifCond .eq 30, 3) := by decide +kernel
theorem dM_shift_302 : decode cM_shift 302 = .ok (.iload 4, 2) := by decide +kernel
theorem dM_shift_304 : decode cM_shift 304 = .ok (.ifCond .eq 25, 3) := by decide +kernel
theorem dM_shift_307 : decode cM_shift 307 = .ok (.aload_n 0, 1) := by decide +kernel
theorem dM_shift_308 : decode cM_shift 308 = .ok (.aload_n 0, 1) := by decide +kernel
theorem dM_shift_309 : decode cM_shift 309 = .ok (.getfield 23, 3) := by decide +kernel
theorem dM_shift_312 : decode cM_shift 312 = .ok (.invokevirtual 131, 3) := by decide +kernel
theorem dM_shift_315 : decode cM_shift 315 = .ok (.aload_n 0, 1) := by decide +kernel
theorem dM_shift_316 : decode cM_shift 316 = .ok (.getfield 20, 3) := by decide +kernel
theorem dM_shift_319 : decode cM_shift 319 = .ok (.aload_n 0, 1) := by decide +kernel
theorem dM_shift_320 : decode cM_shift 320 = .ok (.getfield 23, 3) := by decide +kernel
theorem dM_shift_323 : decode cM_shift 323 = .ok (.iconst 1, 1) := by decide +kernel
theorem dM_shift_324 : decode cM_shift 324 = .ok (.lconst 1, 1) := by decide +kernel
theorem dM_shift_325 : decode cM_shift 325 = .ok (.iconst 0, 1) := by decide +kernel
theorem dM_shift_326 : decode cM_shift 326 = .ok (.invokestatic 75, 3) := by decide +kernel
theorem dM_shift_329 : decode cM_shift 329 = .ok (.aload_n 0, 1) := by decide +kernel
theorem dM_shift_330 : decode cM_shift 330 = .ok (.iload_n 3, 1) := by decide +kernel
theorem dM_shift_331 : decode cM_shift 331 = .ok (.invokevirtual 103, 3) := by decide +kernel
theorem dM_shift_334 : decode cM_shift 334 = .ok (.return_, 1) := by decide +kernel
abbrev cM_bit : ByteArray := prog_7_method_39_code
abbrev yM_bit : MethodName := ⟨"WholeDeskModel", "bit", "(II)I"⟩
theorem qM_bit : yM_bit.cls ≠ "java/lang/invoke/MethodHandle" ∧ yM_bit.cls ≠ "java/lang/invoke/VarHandle" ∧ (parseMethodDescriptor yM_bit.desc).map (fun d => d.parameters.length) = some 2 := by decide +kernel
theorem dM_bit_0 : decode cM_bit 0 = .ok (.aload_n 0, 1) := by decide +kernel
theorem dM_bit_1 : decode cM_bit 1 = .ok (.iload_n 1, 1) := by decide +kernel
theorem dM_bit_2 : decode cM_bit 2 = .ok (.invokestatic 91, 3) := by decide +kernel
theorem dM_bit_5 : decode cM_bit 5 = .ok (.ifCond .ne 7, 3) := by decide +kernel
theorem dM_bit_8 : decode cM_bit 8 = .ok (.iload_n 2, 1) := by decide +kernel
theorem dM_bit_9 : decode cM_bit 9 = .ok (.ifCond .ge 7, 3) := by decide +kernel
theorem dM_bit_12 : decode cM_bit 12 = .ok (.iconst 1, 1) := by decide +kernel
theorem dM_bit_13 : decode cM_bit 13 = .ok (.goto 4, 3) := by decide +kernel
theorem dM_bit_16 : decode cM_bit 16 = .ok (.iconst 0, 1) := by decide +kernel
theorem dM_bit_17 : decode cM_bit 17 = .ok (.putfield 53, 3) := by decide +kernel
theorem dM_bit_20 : decode cM_bit 20 = .ok (.aload_n 0, 1) := by decide +kernel
theorem dM_bit_21 : decode cM_bit 21 = .ok (.getfield 53, 3) := by decide +kernel
theorem dM_bit_24 : decode cM_bit 24 = .ok (.ifCond .le 7, 3) := by decide +kernel
theorem dM_bit_27 : decode cM_bit 27 = .ok (.iconst 0, 1) := by decide +kernel
theorem dM_bit_28 : decode cM_bit 28 = .ok (.goto 35, 3) := by decide +kernel
theorem dM_bit_31 : decode cM_bit 31 = .ok (.aload_n 0, 1) := by decide +kernel
theorem dM_bit_32 : decode cM_bit 32 = .ok (.iload_n 1, 1) := by decide +kernel
theorem dM_bit_33 : decode cM_bit 33 = .ok (.iload_n 2, 1) := by decide +kernel
theorem dM_bit_34 : decode cM_bit 34 = .ok (.bipush 16, 2) := by decide +kernel
theorem dM_bit_36 : decode cM_bit 36 = .ok (.idiv, 1) := by decide +kernel
theorem dM_bit_37 : decode cM_bit 37 = .ok (.sipush 128, 3) := by decide +kernel
theorem dM_bit_40 : decode cM_bit 40 = .ok (.if_icmp .le 9, 3) := by decide +kernel
theorem dM_bit_43 : decode cM_bit 43 = .ok (.sipush 128, 3) := by decide +kernel
theorem dM_bit_46 : decode cM_bit 46 = .ok (.goto 7, 3) := by decide +kernel
theorem dM_bit_49 : decode cM_bit 49 = .ok (.iload_n 2, 1) := by decide +kernel
theorem dM_bit_50 : decode cM_bit 50 = .ok (.bipush 16, 2) := by decide +kernel
theorem dM_bit_52 : decode cM_bit 52 = .ok (.idiv, 1) := by decide +kernel
theorem dM_bit_53 : decode cM_bit 53 = .ok (.invokevirtual 148, 3) := by decide +kernel
theorem dM_bit_56 : decode cM_bit 56 = .ok (.iload_n 2, 1) := by decide +kernel
theorem dM_bit_57 : decode cM_bit 57 = .ok (.bipush 16, 2) := by decide +kernel
theorem dM_bit_59 : decode cM_bit 59 = .ok (.irem, 1) := by decide +kernel
theorem dM_bit_60 : decode cM_bit 60 = .ok (.ishr, 1) := by decide +kernel
theorem dM_bit_61 : decode cM_bit 61 = .ok (.iconst 1, 1) := by decide +kernel
theorem dM_bit_62 : decode cM_bit 62 = .ok (.iand, 1) := by decide +kernel
theorem dM_bit_63 : decode cM_bit 63 = .ok (.ireturn, 1) := by decide +kernel
abbrev cM_compare : ByteArray := prog_7_method_40_code
abbrev yM_compare : MethodName := ⟨"WholeDeskModel", "compare", "(II)I"⟩
theorem qM_compare : yM_compare.cls ≠ "java/lang/invoke/MethodHandle" ∧ yM_compare.cls ≠ "java/lang/invoke/VarHandle" ∧ (parseMethodDescriptor yM_compare.desc).map (fun d => d.parameters.length) = some 2 := by decide +kernel
theorem dM_compare_0 : decode cM_compare 0 = .ok (.aload_n 0, 1) := by decide +kernel
theorem dM_compare_1 : decode cM_compare 1 = .ok (.iload_n 1, 1) := by decide +kernel
theorem dM_compare_2 : decode cM_compare 2 = .ok (.invokestatic 91, 3) := by decide +kernel
theorem dM_compare_5 : decode cM_compare 5 = .ok (.ifCond .ne 10, 3) := by decide +kernel
theorem dM_compare_8 : decode cM_compare 8 = .ok (.iload_n 2, 1) := by decide +kernel
theorem dM_compare_9 : decode cM_compare 9 = .ok (.invokestatic 91, 3) := by decide +kernel
theorem dM_compare_12 : decode cM_compare 12 = .ok (.ifCond .eq 7, 3) := by decide +kernel
theorem dM_compare_15 : decode cM_compare 15 = .ok (.iconst 1, 1) := by decide +kernel
theorem dM_compare_16 : decode cM_compare 16 = .ok (.goto 4, 3) := by decide +kernel
theorem dM_compare_19 : decode cM_compare 19 = .ok (.iconst 0, 1) := by decide +kernel
theorem dM_compare_20 : decode cM_compare 20 = .ok (.putfield 53, 3) := by decide +kernel
theorem dM_compare_23 : decode cM_compare 23 = .ok (.aload_n 0, 1) := by decide +kernel
theorem dM_compare_24 : decode cM_compare 24 = .ok (.getfield 53, 3) := by decide +kernel
theorem dM_compare_27 : decode cM_compare 27 = .ok (.ifCond .le 5, 3) := by decide +kernel
theorem dM_compare_30 : decode cM_compare 30 = .ok (.iconst 0, 1) := by decide +kernel
theorem dM_compare_31 : decode cM_compare 31 = .ok (.ireturn, 1) := by decide +kernel
theorem dM_compare_32 : decode cM_compare 32 = .ok (.aload_n 0, 1) := by decide +kernel
theorem dM_compare_33 : decode cM_compare 33 = .ok (.getfield 16, 3) := by decide +kernel
theorem dM_compare_36 : decode cM_compare 36 = .ok (.iload_n 1, 1) := by decide +kernel
theorem dM_compare_37 : decode cM_compare 37 = .ok (.baload, 1) := by decide +kernel
theorem dM_compare_38 : decode cM_compare 38 = .ok (.aload_n 0, 1) := by decide +kernel
theorem dM_compare_39 : decode cM_compare 39 = .ok (.getfield 16, 3) := by decide +kernel
theorem dM_compare_42 : decode cM_compare 42 = .ok (.iload_n 2, 1) := by decide +kernel
theorem dM_compare_43 : decode cM_compare 43 = .ok (.baload, 1) := by decide +kernel
theorem dM_compare_44 : decode cM_compare 44 = .ok (.if_icmp .eq 18, 3) := by decide +kernel
theorem dM_compare_47 : decode cM_compare 47 = .ok (.aload_n 0, 1) := by decide +kernel
theorem dM_compare_48 : decode cM_compare 48 = .ok (.getfield 16, 3) := by decide +kernel
theorem dM_compare_51 : decode cM_compare 51 = .ok (.iload_n 1, 1) := by decide +kernel
theorem dM_compare_52 : decode cM_compare 52 = .ok (.baload, 1) := by decide +kernel
theorem dM_compare_53 : decode cM_compare 53 = .ok (.ifCond .eq 7, 3) := by decide +kernel
theorem dM_compare_56 : decode cM_compare 56 = .ok (.iconst (-1), 1) := by decide +kernel
theorem dM_compare_57 : decode cM_compare 57 = .ok (.goto 4, 3) := by decide +kernel
theorem dM_compare_60 : decode cM_compare 60 = .ok (.iconst 1, 1) := by decide +kernel
theorem dM_compare_61 : decode cM_compare 61 = .ok (.ireturn, 1) := by decide +kernel
theorem dM_compare_62 : decode cM_compare 62 = .ok (.aload_n 0, 1) := by decide +kernel
theorem dM_compare_63 : decode cM_compare 63 = .ok (.iload_n 1, 1) := by decide +kernel
theorem dM_compare_64 : decode cM_compare 64 = .ok (.aload_n 0, 1) := by decide +kernel
theorem dM_compare_65 : decode cM_compare 65 = .ok (.getfield 35, 3) := by decide +kernel
theorem dM_compare_68 : decode cM_compare 68 = .ok (.invokevirtual 107, 3) := by decide +kernel
theorem dM_compare_71 : decode cM_compare 71 = .ok (.aload_n 0, 1) := by decide +kernel
theorem dM_compare_72 : decode cM_compare 72 = .ok (.iload_n 2, 1) := by decide +kernel
theorem dM_compare_73 : decode cM_compare 73 = .ok (.aload_n 0, 1) := by decide +kernel
theorem dM_compare_74 : decode cM_compare 74 = .ok (.getfield 38, 3) := by decide +kernel
theorem dM_compare_77 : decode cM_compare 77 = .ok (.invokevirtual 107, 3) := by decide +kernel
theorem dM_compare_80 : decode cM_compare 80 = .ok (.aload_n 0, 1) := by decide +kernel
theorem dM_compare_81 : decode cM_compare 81 = .ok (.getfield 35, 3) := by decide +kernel
theorem dM_compare_84 : decode cM_compare 84 = .ok (.aload_n 0, 1) := by decide +kernel
theorem dM_compare_85 : decode cM_compare 85 = .ok (.getfield 38, 3) := by decide +kernel
theorem dM_compare_88 : decode cM_compare 88 = .ok (.invokestatic 71, 3) := by decide +kernel
theorem dM_compare_91 : decode cM_compare 91 = .ok (.istore_n 3, 1) := by decide +kernel
theorem dM_compare_92 : decode cM_compare 92 = .ok (.aload_n 0, 1) := by decide +kernel
theorem dM_compare_93 : decode cM_compare 93 = .ok (.getfield 16, 3) := by decide +kernel
theorem dM_compare_96 : decode cM_compare 96 = .ok (.iload_n 1, 1) := by decide +kernel
theorem dM_compare_97 : decode cM_compare 97 = .ok (.baload, 1) := by decide +kernel
theorem dM_compare_98 : decode cM_compare 98 = .ok (.ifCond .eq 8, 3) := by decide +kernel
theorem dM_compare_101 : decode cM_compare 101 = .ok (.iload_n 3, 1) := by decide +kernel
theorem dM_compare_102 : decode cM_compare 102 = .ok (.ineg, 1) := by decide +kernel
theorem dM_compare_103 : decode cM_compare 103 = .ok (.goto 4, 3) := by decide +kernel
theorem dM_compare_106 : decode cM_compare 106 = .ok (.iload_n 3, 1) := by decide +kernel
theorem dM_compare_107 : decode cM_compare 107 = .ok (.ireturn, 1) := by decide +kernel
abbrev cM_told : ByteArray := prog_7_method_41_code
abbrev yM_told : MethodName := ⟨"WholeDeskModel", "told", "(II)J"⟩
theorem qM_told : yM_told.cls ≠ "java/lang/invoke/MethodHandle" ∧ yM_told.cls ≠ "java/lang/invoke/VarHandle" ∧ (parseMethodDescriptor yM_told.desc).map (fun d => d.parameters.length) = some 2 := by decide +kernel
theorem dM_told_0 : decode cM_told 0 = .ok (.aload_n 0, 1) := by decide +kernel
theorem dM_told_1 : decode cM_told 1 = .ok (.iload_n 1, 1) := by decide +kernel
theorem dM_told_2 : decode cM_told 2 = .ok (.invokestatic 91, 3) := by decide +kernel
theorem dM_told_5 : decode cM_told 5 = .ok (.ifCond .ne 12, 3) := by decide +kernel
theorem dM_told_8 : decode cM_told 8 = .ok (.iload_n 2, 1) := by decide +kernel
theorem dM_told_9 : decode cM_told 9 = .ok (.ifCond .lt 8, 3) := by decide +kernel
theorem dM_told_12 : decode cM_told 12 = .ok (.iload_n 2, 1) := by decide +kernel
theorem dM_told_13 : decode cM_told 13 = .ok (.iconst 4, 1) := by decide +kernel
theorem dM_told_14 : decode cM_told 14 = .ok (.if_icmp .le 7, 3) := by decide +kernel
theorem dM_told_17 : decode cM_told 17 = .ok (.iconst 1, 1) := by decide +kernel
theorem dM_told_18 : decode cM_told 18 = .ok (.goto 4, 3) := by decide +kernel
theorem dM_told_21 : decode cM_told 21 = .ok (.iconst 0, 1) := by decide +kernel
theorem dM_told_22 : decode cM_told 22 = .ok (.putfield 53, 3) := by decide +kernel
theorem dM_told_25 : decode cM_told 25 = .ok (.aload_n 0, 1) := by decide +kernel
theorem dM_told_26 : decode cM_told 26 = .ok (.getfield 53, 3) := by decide +kernel
theorem dM_told_29 : decode cM_told 29 = .ok (.ifCond .le 5, 3) := by decide +kernel
theorem dM_told_32 : decode cM_told 32 = .ok (.lconst 0, 1) := by decide +kernel
theorem dM_told_33 : decode cM_told 33 = .ok (.lreturn, 1) := by decide +kernel
theorem dM_told_34 : decode cM_told 34 = .ok (.iload_n 2, 1) := by decide +kernel
theorem dM_told_35 : decode cM_told 35 = .ok (.ifCond .ne 44, 3) := by decide +kernel
theorem dM_told_38 : decode cM_told 38 = .ok (.aload_n 0, 1) := by decide +kernel
theorem dM_told_39 : decode cM_told 39 = .ok (.iload_n 1, 1) := by decide +kernel
theorem dM_told_40 : decode cM_told 40 = .ok (.iconst 0, 1) := by decide +kernel
theorem dM_told_41 : decode cM_told 41 = .ok (.invokevirtual 148, 3) := by decide +kernel
theorem dM_told_44 : decode cM_told 44 = .ok (.i2l, 1) := by decide +kernel
theorem dM_told_45 : decode cM_told 45 = .ok (.aload_n 0, 1) := by decide +kernel
theorem dM_told_46 : decode cM_told 46 = .ok (.iload_n 1, 1) := by decide +kernel
theorem dM_told_47 : decode cM_told 47 = .ok (.iconst 1, 1) := by decide +kernel
theorem dM_told_48 : decode cM_told 48 = .ok (.invokevirtual 148, 3) := by decide +kernel
theorem dM_told_51 : decode cM_told 51 = .ok (.i2l, 1) := by decide +kernel
theorem dM_told_52 : decode cM_told 52 = .ok (.bipush 16, 2) := by decide +kernel
theorem dM_told_54 : decode cM_told 54 = .ok (.lshl, 1) := by decide +kernel
theorem dM_told_55 : decode cM_told 55 = .ok (.lor, 1) := by decide +kernel
theorem dM_told_56 : decode cM_told 56 = .ok (.aload_n 0, 1) := by decide +kernel
theorem dM_told_57 : decode cM_told 57 = .ok (.iload_n 1, 1) := by decide +kernel
theorem dM_told_58 : decode cM_told 58 = .ok (.iconst 2, 1) := by decide +kernel
theorem dM_told_59 : decode cM_told 59 = .ok (.invokevirtual 148, 3) := by decide +kernel
theorem dM_told_62 : decode cM_told 62 = .ok (.i2l, 1) := by decide +kernel
theorem dM_told_63 : decode cM_told 63 = .ok (.bipush 32, 2) := by decide +kernel
theorem dM_told_65 : decode cM_told 65 = .ok (.lshl, 1) := by decide +kernel
theorem dM_told_66 : decode cM_told 66 = .ok (.lor, 1) := by decide +kernel
theorem dM_told_67 : decode cM_told 67 = .ok (.aload_n 0, 1) := by decide +kernel
theorem dM_told_68 : decode cM_told 68 = .ok (.iload_n 1, 1) := by decide +kernel
theorem dM_told_69 : decode cM_told 69 = .ok (.iconst 3, 1) := by decide +kernel
theorem dM_told_70 : decode cM_told 70 = .ok (.invokevirtual 148, 3) := by decide +kernel
theorem dM_told_73 : decode cM_told 73 = .ok (.i2l, 1) := by decide +kernel
theorem dM_told_74 : decode cM_told 74 = .ok (.bipush 48, 2) := by decide +kernel
theorem dM_told_76 : decode cM_told 76 = .ok (.lshl, 1) := by decide +kernel
theorem dM_told_77 : decode cM_told 77 = .ok (.lor, 1) := by decide +kernel
theorem dM_told_78 : decode cM_told 78 = .ok (.lreturn, 1) := by decide +kernel
theorem dM_told_79 : decode cM_told 79 = .ok (.iload_n 2, 1) := by decide +kernel
theorem dM_told_80 : decode cM_told 80 = .ok (.iconst 1, 1) := by decide +kernel
theorem dM_told_81 : decode cM_told 81 = .ok (.if_icmp .ne 32, 3) := by decide +kernel
theorem dM_told_84 : decode cM_told 84 = .ok (.aload_n 0, 1) := by decide +kernel
theorem dM_told_85 : decode cM_told 85 = .ok (.iload_n 1, 1) := by decide +kernel
theorem dM_told_86 : decode cM_told 86 = .ok (.invokevirtual 119, 3) := by decide +kernel
theorem dM_told_89 : decode cM_told 89 = .ok (.ifCond .eq 7, 3) := by decide +kernel
theorem dM_told_92 : decode cM_told 92 = .ok (.lconst 0, 1) := by decide +kernel
theorem dM_told_93 : decode cM_told 93 = .ok (.goto 19, 3) := by decide +kernel
theorem dM_told_96 : decode cM_told 96 = .ok (.aload_n 0, 1) := by decide +kernel
theorem dM_told_97 : decode cM_told 97 = .ok (.getfield 16, 3) := by decide +kernel
theorem dM_told_100 : decode cM_told 100 = .ok (.iload_n 1, 1) := by decide +kernel
theorem dM_told_101 : decode cM_told 101 = .ok (.baload, 1) := by decide +kernel
theorem dM_told_102 : decode cM_told 102 = .ok (.ifCond .eq 9, 3) := by decide +kernel
theorem dM_told_105 : decode cM_told 105 = .ok (.ldc2_w 153, 3) := by decide +kernel
theorem dM_told_108 : decode cM_told 108 = .ok (.goto 4, 3) := by decide +kernel
theorem dM_told_111 : decode cM_told 111 = .ok (.lconst 1, 1) := by decide +kernel
theorem dM_told_112 : decode cM_told 112 = .ok (.lreturn, 1) := by decide +kernel
theorem dM_told_113 : decode cM_told 113 = .ok (.aload_n 0, 1) := by decide +kernel
theorem dM_told_114 : decode cM_told 114 = .ok (.getfield 16, 3) := by decide +kernel
theorem dM_told_117 : decode cM_told 117 = .ok (.iload_n 1, 1) := by decide +kernel
theorem dM_told_118 : decode cM_told 118 = .ok (.baload, 1) := by decide +kernel
theorem dM_told_119 : decode cM_told 119 = .ok (.ifCond .eq 7, 3) := by decide +kernel
theorem dM_told_122 : decode cM_told 122 = .ok (.iconst 1, 1) := by decide +kernel
theorem dM_told_123 : decode cM_told 123 = .ok (.goto 4, 3) := by decide +kernel
theorem dM_told_126 : decode cM_told 126 = .ok (.iconst 0, 1) := by decide +kernel
theorem dM_told_127 : decode cM_told 127 = .ok (.istore_n 3, 1) := by decide +kernel
theorem dM_told_128 : decode cM_told 128 = .ok (.lconst 0, 1) := by decide +kernel
theorem dM_told_129 : decode cM_told 129 = .ok (.lstore 4, 2) := by decide +kernel
theorem dM_told_131 : decode cM_told 131 = .ok (.lconst 0, 1) := by decide +kernel
theorem dM_told_132 : decode cM_told 132 = .ok (.lstore 6, 2) := by decide +kernel
theorem dM_told_134 : decode cM_told 134 = .ok (.ldc2_w 153, 3) := by decide +kernel
theorem dM_told_137 : decode cM_told 137 = .ok (.lstore 8, 2) := by decide +kernel
theorem dM_told_139 : decode cM_told 139 = .ok (.sipush 2047, 3) := by decide +kernel
theorem dM_told_142 : decode cM_told 142 = .ok (.istore 10, 2) := by decide +kernel
theorem dM_told_144 : decode cM_told 144 = .ok (.iload 10, 2) := by decide +kernel
theorem dM_told_146 : decode cM_told 146 = .ok (.ifCond .lt 87, 3) := by decide +kernel
theorem dM_told_149 : decode cM_told 149 = .ok (.aload_n 0, 1) := by decide +kernel
theorem dM_told_150 : decode cM_told 150 = .ok (.iload_n 1, 1) := by decide +kernel
theorem dM_told_151 : decode cM_told 151 = .ok (.iload 10, 2) := by decide +kernel
theorem dM_told_153 : decode cM_told 153 = .ok (.bipush 16, 2) := by decide +kernel
theorem dM_told_155 : decode cM_told 155 = .ok (.idiv, 1) := by decide +kernel
theorem dM_told_156 : decode cM_told 156 = .ok (.invokevirtual 148, 3) := by decide +kernel
theorem dM_told_159 : decode cM_told 159 = .ok (.iload 10, 2) := by decide +kernel
theorem dM_told_161 : decode cM_told 161 = .ok (.bipush 16, 2) := by decide +kernel
theorem dM_told_163 : decode cM_told 163 = .ok (.irem, 1) := by decide +kernel
theorem dM_told_164 : decode cM_told 164 = .ok (.ishr, 1) := by decide +kernel
theorem dM_told_165 : decode cM_told 165 = .ok (.iconst 1, 1) := by decide +kernel
theorem dM_told_166 : decode cM_told 166 = .ok (.iand, 1) := by decide +kernel
theorem dM_told_167 : decode cM_told 167 = .ok (.istore 11, 2) := by decide +kernel
theorem dM_told_169 : decode cM_told 169 = .ok (.iload 11, 2) := by decide +kernel
theorem dM_told_171 : decode cM_told 171 = .ok (.iload_n 3, 1) := by decide +kernel
theorem dM_told_172 : decode cM_told 172 = .ok (.if_icmp .eq 18, 3) := by decide +kernel
theorem dM_told_175 : decode cM_told 175 = .ok (.lload 4, 2) := by decide +kernel
theorem dM_told_177 : decode cM_told 177 = .ok (.lconst 0, 1) := by decide +kernel
theorem dM_told_178 : decode cM_told 178 = .ok (.lcmp, 1) := by decide +kernel
theorem dM_told_179 : decode cM_told 179 = .ok (.ifCond .ne 11, 3) := by decide +kernel
theorem dM_told_182 : decode cM_told 182 = .ok (.iload 10, 2) := by decide +kernel
theorem dM_told_184 : decode cM_told 184 = .ok (.iconst 1, 1) := by decide +kernel
theorem dM_told_185 : decode cM_told 185 = .ok (.iadd, 1) := by decide +kernel
theorem dM_told_186 : decode cM_told 186 = .ok (.i2l, 1) := by decide +kernel
theorem dM_told_187 : decode cM_told 187 = .ok (.goto 5, 3) := by decide +kernel
theorem dM_told_190 : decode cM_told 190 = .ok (.lload 4, 2) := by decide +kernel
theorem dM_told_192 : decode cM_told 192 = .ok (.lstore 4, 2) := by decide +kernel
theorem dM_told_194 : decode cM_told 194 = .ok (.iload 11, 2) := by decide +kernel
theorem dM_told_196 : decode cM_told 196 = .ok (.iload_n 3, 1) := by decide +kernel
theorem dM_told_197 : decode cM_told 197 = .ok (.if_icmp .eq 10, 3) := by decide +kernel
theorem dM_told_200 : decode cM_told 200 = .ok (.lload 6, 2) := by decide +kernel
theorem dM_told_202 : decode cM_told 202 = .ok (.lconst 1, 1) := by decide +kernel
theorem dM_told_203 : decode cM_told 203 = .ok (.ladd, 1) := by decide +kernel
theorem dM_told_204 : decode cM_told 204 = .ok (.goto 5, 3) := by decide +kernel
theorem dM_told_207 : decode cM_told 207 = .ok (.lload 6, 2) := by decide +kernel
theorem dM_told_209 : decode cM_told 209 = .ok (.lstore 6, 2) := by decide +kernel
theorem dM_told_211 : decode cM_told 211 = .ok (.iload 11, 2) := by decide +kernel
theorem dM_told_213 : decode cM_told 213 = .ok (.iconst 1, 1) := by decide +kernel
theorem dM_told_214 : decode cM_told 214 = .ok (.if_icmp .ne 9, 3) := by decide +kernel
theorem dM_told_217 : decode cM_told 217 = .ok (.iload 10, 2) := by decide +kernel
theorem dM_told_219 : decode cM_told 219 = .ok (.i2l, 1) := by decide +kernel
theorem dM_told_220 : decode cM_told 220 = .ok (.goto 5, 3) := by decide +kernel
theorem dM_told_223 : decode cM_told 223 = .ok (.lload 8, 2) := by decide +kernel
theorem dM_told_225 : decode cM_told 225 = .ok (.lstore 8, 2) := by decide +kernel
theorem dM_told_227 : decode cM_told 227 = .ok (.iinc 10 (-1), 3) := by decide +kernel
theorem dM_told_230 : decode cM_told 230 = .ok (.goto (-86), 3) := by decide +kernel
theorem dM_told_233 : decode cM_told 233 = .ok (.iload_n 2, 1) := by decide +kernel
theorem dM_told_234 : decode cM_told 234 = .ok (.iconst 2, 1) := by decide +kernel
theorem dM_told_235 : decode cM_told 235 = .ok (.if_icmp .ne 8, 3) := by decide +kernel
theorem dM_told_238 : decode cM_told 238 = .ok (.lload 4, 2) := by decide +kernel
theorem dM_told_240 : decode cM_told 240 = .ok (.goto 15, 3) := by decide +kernel
theorem dM_told_243 : decode cM_told 243 = .ok (.iload_n 2, 1) := by decide +kernel
theorem dM_told_244 : decode cM_told 244 = .ok (.iconst 3, 1) := by decide +kernel
theorem dM_told_245 : decode cM_told 245 = .ok (.if_icmp .ne 8, 3) := by decide +kernel
theorem dM_told_248 : decode cM_told 248 = .ok (.lload 6, 2) := by decide +kernel
theorem dM_told_250 : decode cM_told 250 = .ok (.goto 5, 3) := by decide +kernel
theorem dM_told_253 : decode cM_told 253 = .ok (.lload 8, 2) := by decide +kernel
theorem dM_told_255 : decode cM_told 255 = .ok (.lreturn, 1) := by decide +kernel
abbrev cM_written : ByteArray := prog_7_method_42_code
abbrev yM_written : MethodName := ⟨"WholeDeskModel", "written", "(II)I"⟩
theorem qM_written : yM_written.cls ≠ "java/lang/invoke/MethodHandle" ∧ yM_written.cls ≠ "java/lang/invoke/VarHandle" ∧ (parseMethodDescriptor yM_written.desc).map (fun d => d.parameters.length) = some 2 := by decide +kernel
theorem dM_written_0 : decode cM_written 0 = .ok (.aload_n 0, 1) := by decide +kernel
theorem dM_written_1 : decode cM_written 1 = .ok (.iload_n 1, 1) := by decide +kernel
theorem dM_written_2 : decode cM_written 2 = .ok (.invokestatic 91, 3) := by decide +kernel
theorem dM_written_5 : decode cM_written 5 = .ok (.ifCond .ne 14, 3) := by decide +kernel
theorem dM_written_8 : decode cM_written 8 = .ok (.iload_n 2, 1) := by decide +kernel
theorem dM_written_9 : decode cM_written 9 = .ok (.iconst 2, 1) := by decide +kernel
theorem dM_written_10 : decode cM_written 10 = .ok (.if_icmp .lt 9, 3) := by decide +kernel
theorem dM_written_13 : decode cM_written 13 = .ok (.iload_n 2, 1) := by decide +kernel
theorem dM_written_14 : decode cM_written 14 = .ok (.bipush 36, 2) := by decide +kernel
theorem dM_written_16 : decode cM_written 16 = .ok (.if_icmp .le 7, 3) := by decide +kernel
theorem dM_written_19 : decode cM_written 19 = .ok (.iconst 1, 1) := by decide +kernel
theorem dM_written_20 : decode cM_written 20 = .ok (.goto 4, 3) := by decide +kernel
theorem dM_written_23 : decode cM_written 23 = .ok (.iconst 0, 1) := by decide +kernel
theorem dM_written_24 : decode cM_written 24 = .ok (.putfield 53, 3) := by decide +kernel
theorem dM_written_27 : decode cM_written 27 = .ok (.aload_n 0, 1) := by decide +kernel
theorem dM_written_28 : decode cM_written 28 = .ok (.getfield 53, 3) := by decide +kernel
theorem dM_written_31 : decode cM_written 31 = .ok (.ifCond .le 5, 3) := by decide +kernel
theorem dM_written_34 : decode cM_written 34 = .ok (.iconst 0, 1) := by decide +kernel
theorem dM_written_35 : decode cM_written 35 = .ok (.ireturn, 1) := by decide +kernel
theorem dM_written_36 : decode cM_written 36 = .ok (.aload_n 0, 1) := by decide +kernel
theorem dM_written_37 : decode cM_written 37 = .ok (.iload_n 1, 1) := by decide +kernel
theorem dM_written_38 : decode cM_written 38 = .ok (.aload_n 0, 1) := by decide +kernel
theorem dM_written_39 : decode cM_written 39 = .ok (.getfield 35, 3) := by decide +kernel
theorem dM_written_42 : decode cM_written 42 = .ok (.invokevirtual 107, 3) := by decide +kernel
theorem dM_written_45 : decode cM_written 45 = .ok (.aload_n 0, 1) := by decide +kernel
theorem dM_written_46 : decode cM_written 46 = .ok (.iconst 0, 1) := by decide +kernel
theorem dM_written_47 : decode cM_written 47 = .ok (.putfield 155, 3) := by decide +kernel
theorem dM_written_50 : decode cM_written 50 = .ok (.aload_n 0, 1) := by decide +kernel
theorem dM_written_51 : decode cM_written 51 = .ok (.getfield 35, 3) := by decide +kernel
theorem dM_written_54 : decode cM_written 54 = .ok (.invokestatic 59, 3) := by decide +kernel
theorem dM_written_57 : decode cM_written 57 = .ok (.ifCond .gt 10, 3) := by decide +kernel
theorem dM_written_60 : decode cM_written 60 = .ok (.aload_n 0, 1) := by decide +kernel
theorem dM_written_61 : decode cM_written 61 = .ok (.getfield 155, 3) := by decide +kernel
theorem dM_written_64 : decode cM_written 64 = .ok (.ifCond .ne 54, 3) := by decide +kernel
theorem dM_written_67 : decode cM_written 67 = .ok (.aload_n 0, 1) := by decide +kernel
theorem dM_written_68 : decode cM_written 68 = .ok (.getfield 35, 3) := by decide +kernel
theorem dM_written_71 : decode cM_written 71 = .ok (.iload_n 2, 1) := by decide +kernel
theorem dM_written_72 : decode cM_written 72 = .ok (.invokestatic 158, 3) := by decide +kernel
theorem dM_written_75 : decode cM_written 75 = .ok (.istore_n 3, 1) := by decide +kernel
theorem dM_written_76 : decode cM_written 76 = .ok (.aload_n 0, 1) := by decide +kernel
theorem dM_written_77 : decode cM_written 77 = .ok (.getfield 50, 3) := by decide +kernel
theorem dM_written_80 : decode cM_written 80 = .ok (.aload_n 0, 1) := by decide +kernel
theorem dM_written_81 : decode cM_written 81 = .ok (.getfield 155, 3) := by decide +kernel
theorem dM_written_84 : decode cM_written 84 = .ok (.iload_n 3, 1) := by decide +kernel
theorem dM_written_85 : decode cM_written 85 = .ok (.bipush 10, 2) := by decide +kernel
theorem dM_written_87 : decode cM_written 87 = .ok (.if_icmp .ge 10, 3) := by decide +kernel
theorem dM_written_90 : decode cM_written 90 = .ok (.bipush 48, 2) := by decide +kernel
theorem dM_written_92 : decode cM_written 92 = .ok (.iload_n 3, 1) := by decide +kernel
theorem dM_written_93 : decode cM_written 93 = .ok (.iadd, 1) := by decide +kernel
theorem dM_written_94 : decode cM_written 94 = .ok (.goto 10, 3) := by decide +kernel
theorem dM_written_97 : decode cM_written 97 = .ok (.bipush 97, 2) := by decide +kernel
theorem dM_written_99 : decode cM_written 99 = .ok (.iload_n 3, 1) := by decide +kernel
theorem dM_written_100 : decode cM_written 100 = .ok (.iadd, 1) := by decide +kernel
theorem dM_written_101 : decode cM_written 101 = .ok (.bipush 10, 2) := by decide +kernel
theorem dM_written_103 : decode cM_written 103 = .ok (.isub, 1) := by decide +kernel
theorem dM_written_104 : decode cM_written 104 = .ok (.iastore, 1) := by decide +kernel
theorem dM_written_105 : decode cM_written 105 = .ok (.aload_n 0, 1) := by decide +kernel
theorem dM_written_106 : decode cM_written 106 = .ok (.dup, 1) := by decide +kernel
theorem dM_written_107 : decode cM_written 107 = .ok (.getfield 155, 3) := by decide +kernel
theorem dM_written_110 : decode cM_written 110 = .ok (.iconst 1, 1) := by decide +kernel
theorem dM_written_111 : decode cM_written 111 = .ok (.iadd, 1) := by decide +kernel
theorem dM_written_112 : decode cM_written 112 = .ok (.putfield 155, 3) := by decide +kernel
theorem dM_written_115 : decode cM_written 115 = .ok (.goto (-65), 3) := by decide +kernel
theorem dM_written_118 : decode cM_written 118 = .ok (.aload_n 0, 1) := by decide +kernel
theorem dM_written_119 : decode cM_written 119 = .ok (.getfield 16, 3) := by decide +kernel
theorem dM_written_122 : decode cM_written 122 = .ok (.iload_n 1, 1) := by decide +kernel
theorem dM_written_123 : decode cM_written 123 = .ok (.baload, 1) := by decide +kernel
theorem dM_written_124 : decode cM_written 124 = .ok (.ifCond .eq 24, 3) := by decide +kernel
theorem dM_written_127 : decode cM_written 127 = .ok (.aload_n 0, 1) := by decide +kernel
theorem dM_written_128 : decode cM_written 128 = .ok (.getfield 50, 3) := by decide +kernel
theorem dM_written_131 : decode cM_written 131 = .ok (.aload_n 0, 1) := by decide +kernel
theorem dM_written_132 : decode cM_written 132 = .ok (.getfield 155, 3) := by decide +kernel
theorem dM_written_135 : decode cM_written 135 = .ok (.bipush 45, 2) := by decide +kernel
theorem dM_written_137 : decode cM_written 137 = .ok (.iastore, 1) := by decide +kernel
theorem dM_written_138 : decode cM_written 138 = .ok (.aload_n 0, 1) := by decide +kernel
theorem dM_written_139 : decode cM_written 139 = .ok (.dup, 1) := by decide +kernel
theorem dM_written_140 : decode cM_written 140 = .ok (.getfield 155, 3) := by decide +kernel
theorem dM_written_143 : decode cM_written 143 = .ok (.iconst 1, 1) := by decide +kernel
theorem dM_written_144 : decode cM_written 144 = .ok (.iadd, 1) := by decide +kernel
theorem dM_written_145 : decode cM_written 145 = .ok (.putfield 155, 3) := by decide +kernel
theorem dM_written_148 : decode cM_written 148 = .ok (.iconst 0, 1) := by decide +kernel
theorem dM_written_149 : decode cM_written 149 = .ok (.istore_n 3, 1) := by decide +kernel
theorem dM_written_150 : decode cM_written 150 = .ok (.aload_n 0, 1) := by decide +kernel
theorem dM_written_151 : decode cM_written 151 = .ok (.getfield 155, 3) := by decide +kernel
theorem dM_written_154 : decode cM_written 154 = .ok (.iconst 1, 1) := by decide +kernel
theorem dM_written_155 : decode cM_written 155 = .ok (.isub, 1) := by decide +kernel
theorem dM_written_156 : decode cM_written 156 = .ok (.istore 4, 2) := by decide +kernel
theorem dM_written_158 : decode cM_written 158 = .ok (.iload_n 3, 1) := by decide +kernel
theorem dM_written_159 : decode cM_written 159 = .ok (.iload 4, 2) := by decide +kernel
theorem dM_written_161 : decode cM_written 161 = .ok (.if_icmp .ge 42, 3) := by decide +kernel
theorem dM_written_164 : decode cM_written 164 = .ok (.aload_n 0, 1) := by decide +kernel
theorem dM_written_165 : decode cM_written 165 = .ok (.getfield 50, 3) := by decide +kernel
theorem dM_written_168 : decode cM_written 168 = .ok (.iload_n 3, 1) := by decide +kernel
theorem dM_written_169 : decode cM_written 169 = .ok (.iaload, 1) := by decide +kernel
theorem dM_written_170 : decode cM_written 170 = .ok (.istore 5, 2) := by decide +kernel
theorem dM_written_172 : decode cM_written 172 = .ok (.aload_n 0, 1) := by decide +kernel
theorem dM_written_173 : decode cM_written 173 = .ok (.getfield 50, 3) := by decide +kernel
theorem dM_written_176 : decode cM_written 176 = .ok (.iload_n 3, 1) := by decide +kernel
theorem dM_written_177 : decode cM_written 177 = .ok (.aload_n 0, 1) := by decide +kernel
theorem dM_written_178 : decode cM_written 178 = .ok (.getfield 50, 3) := by decide +kernel
theorem dM_written_181 : decode cM_written 181 = .ok (.iload 4, 2) := by decide +kernel
theorem dM_written_183 : decode cM_written 183 = .ok (.iaload, 1) := by decide +kernel
theorem dM_written_184 : decode cM_written 184 = .ok (.iastore, 1) := by decide +kernel
theorem dM_written_185 : decode cM_written 185 = .ok (.aload_n 0, 1) := by decide +kernel
theorem dM_written_186 : decode cM_written 186 = .ok (.getfield 50, 3) := by decide +kernel
theorem dM_written_189 : decode cM_written 189 = .ok (.iload 4, 2) := by decide +kernel
theorem dM_written_191 : decode cM_written 191 = .ok (.iload 5, 2) := by decide +kernel
theorem dM_written_193 : decode cM_written 193 = .ok (.iastore, 1) := by decide +kernel
theorem dM_written_194 : decode cM_written 194 = .ok (.iinc 3 1, 3) := by decide +kernel
theorem dM_written_197 : decode cM_written 197 = .ok (.iinc 4 (-1), 3) := by decide +kernel
theorem dM_written_200 : decode cM_written 200 = .ok (.goto (-42), 3) := by decide +kernel
theorem dM_written_203 : decode cM_written 203 = .ok (.aload_n 0, 1) := by decide +kernel
theorem dM_written_204 : decode cM_written 204 = .ok (.getfield 155, 3) := by decide +kernel
theorem dM_written_207 : decode cM_written 207 = .ok (.ireturn, 1) := by decide +kernel
abbrev cM_text : ByteArray := prog_7_method_43_code
abbrev yM_text : MethodName := ⟨"WholeDeskModel", "text", "(I)J"⟩
theorem qM_text : yM_text.cls ≠ "java/lang/invoke/MethodHandle" ∧ yM_text.cls ≠ "java/lang/invoke/VarHandle" ∧ (parseMethodDescriptor yM_text.desc).map (fun d => d.parameters.length) = some 1 := by decide +kernel
theorem dM_text_0 : decode cM_text 0 = .ok (.aload_n 0, 1) := by decide +kernel
theorem dM_text_1 : decode cM_text 1 = .ok (.iconst 0, 1) := by decide +kernel
theorem dM_text_2 : decode cM_text 2 = .ok (.putfield 53, 3) := by decide +kernel
theorem dM_text_5 : decode cM_text 5 = .ok (.lconst 0, 1) := by decide +kernel
theorem dM_text_6 : decode cM_text 6 = .ok (.lstore_n 2, 1) := by decide +kernel
theorem dM_text_7 : decode cM_text 7 = .ok (.iconst 0, 1) := by decide +kernel
theorem dM_text_8 : decode cM_text 8 = .ok (.istore 4, 2) := by decide +kernel
theorem dM_text_10 : decode cM_text 10 = .ok (.iload 4, 2) := by decide +kernel
theorem dM_text_12 : decode cM_text 12 = .ok (.bipush 8, 2) := by decide +kernel
theorem dM_text_14 : decode cM_text 14 = .ok (.if_icmp .ge 57, 3) := by decide +kernel
theorem dM_text_17 : decode cM_text 17 = .ok (.iload_n 1, 1) := by decide +kernel
theorem dM_text_18 : decode cM_text 18 = .ok (.i2l, 1) := by decide +kernel
theorem dM_text_19 : decode cM_text 19 = .ok (.iload 4, 2) := by decide +kernel
theorem dM_text_21 : decode cM_text 21 = .ok (.i2l, 1) := by decide +kernel
theorem dM_text_22 : decode cM_text 22 = .ok (.ladd, 1) := by decide +kernel
theorem dM_text_23 : decode cM_text 23 = .ok (.lstore 5, 2) := by decide +kernel
theorem dM_text_25 : decode cM_text 25 = .ok (.lload 5, 2) := by decide +kernel
theorem dM_text_27 : decode cM_text 27 = .ok (.lconst 0, 1) := by decide +kernel
theorem dM_text_28 : decode cM_text 28 = .ok (.lcmp, 1) := by decide +kernel
theorem dM_text_29 : decode cM_text 29 = .ok (.ifCond .lt 34, 3) := by decide +kernel
theorem dM_text_32 : decode cM_text 32 = .ok (.lload 5, 2) := by decide +kernel
theorem dM_text_34 : decode cM_text 34 = .ok (.aload_n 0, 1) := by decide +kernel
theorem dM_text_35 : decode cM_text 35 = .ok (.getfield 155, 3) := by decide +kernel
theorem dM_text_38 : decode cM_text 38 = .ok (.i2l, 1) := by decide +kernel
theorem dM_text_39 : decode cM_text 39 = .ok (.lcmp, 1) := by decide +kernel
theorem dM_text_40 : decode cM_text 40 = .ok (.ifCond .ge 23, 3) := by decide +kernel
theorem dM_text_43 : decode cM_text 43 = .ok (.lload_n 2, 1) := by decide +kernel
theorem dM_text_44 : decode cM_text 44 = .ok (.aload_n 0, 1) := by decide +kernel
theorem dM_text_45 : decode cM_text 45 = .ok (.getfield 50, 3) := by decide +kernel
theorem dM_text_48 : decode cM_text 48 = .ok (.lload 5, 2) := by decide +kernel
theorem dM_text_50 : decode cM_text 50 = .ok (.l2i, 1) := by decide +kernel
theorem dM_text_51 : decode cM_text 51 = .ok (.iaload, 1) := by decide +kernel
theorem dM_text_52 : decode cM_text 52 = .ok (.i2l, 1) := by decide +kernel
theorem dM_text_53 : decode cM_text 53 = .ok (.bipush 8, 2) := by decide +kernel
theorem dM_text_55 : decode cM_text 55 = .ok (.iload 4, 2) := by decide +kernel
theorem dM_text_57 : decode cM_text 57 = .ok (.imul, 1) := by decide +kernel
theorem dM_text_58 : decode cM_text 58 = .ok (.lshl, 1) := by decide +kernel
theorem dM_text_59 : decode cM_text 59 = .ok (.lor, 1) := by decide +kernel
theorem dM_text_60 : decode cM_text 60 = .ok (.goto 4, 3) := by decide +kernel
theorem dM_text_63 : decode cM_text 63 = .ok (.lload_n 2, 1) := by decide +kernel
theorem dM_text_64 : decode cM_text 64 = .ok (.lstore_n 2, 1) := by decide +kernel
theorem dM_text_65 : decode cM_text 65 = .ok (.iinc 4 1, 3) := by decide +kernel
theorem dM_text_68 : decode cM_text 68 = .ok (.goto (-58), 3) := by decide +kernel
theorem dM_text_71 : decode cM_text 71 = .ok (.lload_n 2, 1) := by decide +kernel
theorem dM_text_72 : decode cM_text 72 = .ok (.lreturn, 1) := by decide +kernel
