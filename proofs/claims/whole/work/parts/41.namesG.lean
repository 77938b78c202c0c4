abbrev cG_init : ByteArray := prog_5_method_1_code
abbrev yG_init : MethodName := ⟨"WholeDesk$Writing", "<init>", "()V"⟩
theorem qG_init : yG_init.cls ≠ "java/lang/invoke/MethodHandle" ∧ yG_init.cls ≠ "java/lang/invoke/VarHandle" ∧ (parseMethodDescriptor yG_init.desc).map (fun d => d.parameters.length) = some 0 := by decide +kernel
theorem dG_init_0 : decode cG_init 0 = .ok (.aload_n 0, 1) := by decide +kernel
theorem dG_init_1 : decode cG_init 1 = .ok (.invokespecial 3, 3) := by decide +kernel
theorem dG_init_4 : decode cG_init 4 = .ok (.aload_n 0, 1) := by decide +kernel
theorem dG_init_5 : decode cG_init 5 = .ok (.sipush 2049, 3) := by decide +kernel
theorem dG_init_8 : decode cG_init 8 = .ok (.newarray .byte, 2) := by decide +kernel
theorem dG_init_10 : decode cG_init 10 = .ok (.putfield 11, 3) := by decide +kernel
theorem dG_init_13 : decode cG_init 13 = .ok (.aload_n 0, 1) := by decide +kernel
theorem dG_init_14 : decode cG_init 14 = .ok (.sipush 2049, 3) := by decide +kernel
theorem dG_init_17 : decode cG_init 17 = .ok (.putfield 15, 3) := by decide +kernel
theorem dG_init_20 : decode cG_init 20 = .ok (.aload_n 0, 1) := by decide +kernel
theorem dG_init_21 : decode cG_init 21 = .ok (.new 19, 3) := by decide +kernel
theorem dG_init_24 : decode cG_init 24 = .ok (.dup, 1) := by decide +kernel
theorem dG_init_25 : decode cG_init 25 = .ok (.invokespecial 21, 3) := by decide +kernel
theorem dG_init_28 : decode cG_init 28 = .ok (.putfield 22, 3) := by decide +kernel
theorem dG_init_31 : decode cG_init 31 = .ok (.return_, 1) := by decide +kernel
abbrev cG_fill : ByteArray := prog_5_method_2_code
abbrev yG_fill : MethodName := ⟨"WholeDesk$Writing", "fill", "(LWholeDesk$Whole;I)I"⟩
theorem qG_fill : yG_fill.cls ≠ "java/lang/invoke/MethodHandle" ∧ yG_fill.cls ≠ "java/lang/invoke/VarHandle" ∧ (parseMethodDescriptor yG_fill.desc).map (fun d => d.parameters.length) = some 2 := by decide +kernel
theorem dG_fill_0 : decode cG_fill 0 = .ok (.iload_n 2, 1) := by decide +kernel
theorem dG_fill_1 : decode cG_fill 1 = .ok (.invokestatic 26, 3) := by decide +kernel
theorem dG_fill_4 : decode cG_fill 4 = .ok (.istore_n 3, 1) := by decide +kernel
theorem dG_fill_5 : decode cG_fill 5 = .ok (.lconst 1, 1) := by decide +kernel
theorem dG_fill_6 : decode cG_fill 6 = .ok (.lstore 4, 2) := by decide +kernel
theorem dG_fill_8 : decode cG_fill 8 = .ok (.iconst 0, 1) := by decide +kernel
theorem dG_fill_9 : decode cG_fill 9 = .ok (.istore 6, 2) := by decide +kernel
theorem dG_fill_11 : decode cG_fill 11 = .ok (.iload 6, 2) := by decide +kernel
theorem dG_fill_13 : decode cG_fill 13 = .ok (.iload_n 3, 1) := by decide +kernel
theorem dG_fill_14 : decode cG_fill 14 = .ok (.if_icmp .ge 16, 3) := by decide +kernel
theorem dG_fill_17 : decode cG_fill 17 = .ok (.lload 4, 2) := by decide +kernel
theorem dG_fill_19 : decode cG_fill 19 = .ok (.iload_n 2, 1) := by decide +kernel
theorem dG_fill_20 : decode cG_fill 20 = .ok (.i2l, 1) := by decide +kernel
theorem dG_fill_21 : decode cG_fill 21 = .ok (.lmul, 1) := by decide +kernel
theorem dG_fill_22 : decode cG_fill 22 = .ok (.lstore 4, 2) := by decide +kernel
theorem dG_fill_24 : decode cG_fill 24 = .ok (.iinc 6 1, 3) := by decide +kernel
theorem dG_fill_27 : decode cG_fill 27 = .ok (.goto (-16), 3) := by decide +kernel
theorem dG_fill_30 : decode cG_fill 30 = .ok (.aload_n 0, 1) := by decide +kernel
theorem dG_fill_31 : decode cG_fill 31 = .ok (.getfield 22, 3) := by decide +kernel
theorem dG_fill_34 : decode cG_fill 34 = .ok (.aload_n 1, 1) := by decide +kernel
theorem dG_fill_35 : decode cG_fill 35 = .ok (.invokevirtual 30, 3) := by decide +kernel
theorem dG_fill_38 : decode cG_fill 38 = .ok (.aload_n 0, 1) := by decide +kernel
theorem dG_fill_39 : decode cG_fill 39 = .ok (.sipush 2049, 3) := by decide +kernel
theorem dG_fill_42 : decode cG_fill 42 = .ok (.putfield 15, 3) := by decide +kernel
theorem dG_fill_45 : decode cG_fill 45 = .ok (.iconst 0, 1) := by decide +kernel
theorem dG_fill_46 : decode cG_fill 46 = .ok (.istore 6, 2) := by decide +kernel
theorem dG_fill_48 : decode cG_fill 48 = .ok (.iload 6, 2) := by decide +kernel
theorem dG_fill_50 : decode cG_fill 50 = .ok (.sipush 152, 3) := by decide +kernel
theorem dG_fill_53 : decode cG_fill 53 = .ok (.if_icmp .ge 57, 3) := by decide +kernel
theorem dG_fill_56 : decode cG_fill 56 = .ok (.iload 6, 2) := by decide +kernel
theorem dG_fill_58 : decode cG_fill 58 = .ok (.ifCond .eq 13, 3) := by decide +kernel
theorem dG_fill_61 : decode cG_fill 61 = .ok (.aload_n 0, 1) := by decide +kernel
theorem dG_fill_62 : decode cG_fill 62 = .ok (.getfield 22, 3) := by decide +kernel
theorem dG_fill_65 : decode cG_fill 65 = .ok (.getfield 34, 3) := by decide +kernel
theorem dG_fill_68 : decode cG_fill 68 = .ok (.ifCond .le 42, 3) := by decide +kernel
theorem dG_fill_71 : decode cG_fill 71 = .ok (.aload_n 0, 1) := by decide +kernel
theorem dG_fill_72 : decode cG_fill 72 = .ok (.getfield 22, 3) := by decide +kernel
theorem dG_fill_75 : decode cG_fill 75 = .ok (.lload 4, 2) := by decide +kernel
theorem dG_fill_77 : decode cG_fill 77 = .ok (.invokevirtual 37, 3) := by decide +kernel
theorem dG_fill_80 : decode cG_fill 80 = .ok (.lstore 7, 2) := by decide +kernel
theorem dG_fill_82 : decode cG_fill 82 = .ok (.aload_n 0, 1) := by decide +kernel
theorem dG_fill_83 : decode cG_fill 83 = .ok (.lload 7, 2) := by decide +kernel
theorem dG_fill_85 : decode cG_fill 85 = .ok (.iload_n 2, 1) := by decide +kernel
theorem dG_fill_86 : decode cG_fill 86 = .ok (.aload_n 0, 1) := by decide +kernel
theorem dG_fill_87 : decode cG_fill 87 = .ok (.getfield 22, 3) := by decide +kernel
theorem dG_fill_90 : decode cG_fill 90 = .ok (.getfield 34, 3) := by decide +kernel
theorem dG_fill_93 : decode cG_fill 93 = .ok (.ifCond .ne 7, 3) := by decide +kernel
theorem dG_fill_96 : decode cG_fill 96 = .ok (.iconst 1, 1) := by decide +kernel
theorem dG_fill_97 : decode cG_fill 97 = .ok (.goto 4, 3) := by decide +kernel
theorem dG_fill_100 : decode cG_fill 100 = .ok (.iload_n 3, 1) := by decide +kernel
theorem dG_fill_101 : decode cG_fill 101 = .ok (.invokevirtual 41, 3) := by decide +kernel
theorem dG_fill_104 : decode cG_fill 104 = .ok (.iinc 6 1, 3) := by decide +kernel
theorem dG_fill_107 : decode cG_fill 107 = .ok (.goto (-59), 3) := by decide +kernel
theorem dG_fill_110 : decode cG_fill 110 = .ok (.aload_n 1, 1) := by decide +kernel
theorem dG_fill_111 : decode cG_fill 111 = .ok (.getfield 45, 3) := by decide +kernel
theorem dG_fill_114 : decode cG_fill 114 = .ok (.ifCond .eq 9, 3) := by decide +kernel
theorem dG_fill_117 : decode cG_fill 117 = .ok (.aload_n 0, 1) := by decide +kernel
theorem dG_fill_118 : decode cG_fill 118 = .ok (.bipush 45, 2) := by decide +kernel
theorem dG_fill_120 : decode cG_fill 120 = .ok (.invokevirtual 49, 3) := by decide +kernel
theorem dG_fill_123 : decode cG_fill 123 = .ok (.sipush 2049, 3) := by decide +kernel
theorem dG_fill_126 : decode cG_fill 126 = .ok (.aload_n 0, 1) := by decide +kernel
theorem dG_fill_127 : decode cG_fill 127 = .ok (.getfield 15, 3) := by decide +kernel
theorem dG_fill_130 : decode cG_fill 130 = .ok (.isub, 1) := by decide +kernel
theorem dG_fill_131 : decode cG_fill 131 = .ok (.ireturn, 1) := by decide +kernel
abbrev cG_digitsInLimb : ByteArray := prog_5_method_3_code
abbrev yG_digitsInLimb : MethodName := ⟨"WholeDesk$Writing", "digitsInLimb", "(I)I"⟩
theorem qG_digitsInLimb : yG_digitsInLimb.cls ≠ "java/lang/invoke/MethodHandle" ∧ yG_digitsInLimb.cls ≠ "java/lang/invoke/VarHandle" ∧ (parseMethodDescriptor yG_digitsInLimb.desc).map (fun d => d.parameters.length) = some 1 := by decide +kernel
theorem dG_digitsInLimb_0 : decode cG_digitsInLimb 0 = .ok (.iconst 0, 1) := by decide +kernel
theorem dG_digitsInLimb_1 : decode cG_digitsInLimb 1 = .ok (.istore_n 1, 1) := by decide +kernel
theorem dG_digitsInLimb_2 : decode cG_digitsInLimb 2 = .ok (.iload_n 0, 1) := by decide +kernel
theorem dG_digitsInLimb_3 : decode cG_digitsInLimb 3 = .ok (.i2l, 1) := by decide +kernel
theorem dG_digitsInLimb_4 : decode cG_digitsInLimb 4 = .ok (.lstore_n 2, 1) := by decide +kernel
theorem dG_digitsInLimb_5 : decode cG_digitsInLimb 5 = .ok (.lload_n 2, 1) := by decide +kernel
theorem dG_digitsInLimb_6 : decode cG_digitsInLimb 6 = .ok (.ldc2_w 53, 3) := by decide +kernel
theorem dG_digitsInLimb_9 : decode cG_digitsInLimb 9 = .ok (.lcmp, 1) := by decide +kernel
theorem dG_digitsInLimb_10 : decode cG_digitsInLimb 10 = .ok (.ifCond .gt 20, 3) := by decide +kernel
theorem dG_digitsInLimb_13 : decode cG_digitsInLimb 13 = .ok (.iload_n 1, 1) := by decide +kernel
theorem dG_digitsInLimb_14 : decode cG_digitsInLimb 14 = .ok (.bipush 28, 2) := by decide +kernel
theorem dG_digitsInLimb_16 : decode cG_digitsInLimb 16 = .ok (.if_icmp .ge 14, 3) := by decide +kernel
theorem dG_digitsInLimb_19 : decode cG_digitsInLimb 19 = .ok (.lload_n 2, 1) := by decide +kernel
theorem dG_digitsInLimb_20 : decode cG_digitsInLimb 20 = .ok (.iload_n 0, 1) := by decide +kernel
theorem dG_digitsInLimb_21 : decode cG_digitsInLimb 21 = .ok (.i2l, 1) := by decide +kernel
theorem dG_digitsInLimb_22 : decode cG_digitsInLimb 22 = .ok (.lmul, 1) := by decide +kernel
theorem dG_digitsInLimb_23 : decode cG_digitsInLimb 23 = .ok (.lstore_n 2, 1) := by decide +kernel
theorem dG_digitsInLimb_24 : decode cG_digitsInLimb 24 = .ok (.iinc 1 1, 3) := by decide +kernel
theorem dG_digitsInLimb_27 : decode cG_digitsInLimb 27 = .ok (.goto (-22), 3) := by decide +kernel
theorem dG_digitsInLimb_30 : decode cG_digitsInLimb 30 = .ok (.iload_n 1, 1) := by decide +kernel
theorem dG_digitsInLimb_31 : decode cG_digitsInLimb 31 = .ok (.ireturn, 1) := by decide +kernel
abbrev cG_prependDigits : ByteArray := prog_5_method_4_code
abbrev yG_prependDigits : MethodName := ⟨"WholeDesk$Writing", "prependDigits", "(JII)V"⟩
theorem qG_prependDigits : yG_prependDigits.cls ≠ "java/lang/invoke/MethodHandle" ∧ yG_prependDigits.cls ≠ "java/lang/invoke/VarHandle" ∧ (parseMethodDescriptor yG_prependDigits.desc).map (fun d => d.parameters.length) = some 3 := by decide +kernel
theorem dG_prependDigits_0 : decode cG_prependDigits 0 = .ok (.iload_n 3, 1) := by decide +kernel
theorem dG_prependDigits_1 : decode cG_prependDigits 1 = .ok (.iconst 2, 1) := by decide +kernel
theorem dG_prependDigits_2 : decode cG_prependDigits 2 = .ok (.if_icmp .ge 4, 3) := by decide +kernel
theorem dG_prependDigits_5 : decode cG_prependDigits 5 = .ok (.return_, 1) := by decide +kernel
theorem dG_prependDigits_6 : decode cG_prependDigits 6 = .ok (.lload_n 1, 1) := by decide +kernel
theorem dG_prependDigits_7 : decode cG_prependDigits 7 = .ok (.lstore 5, 2) := by decide +kernel
theorem dG_prependDigits_9 : decode cG_prependDigits 9 = .ok (.iconst 0, 1) := by decide +kernel
theorem dG_prependDigits_10 : decode cG_prependDigits 10 = .ok (.istore 7, 2) := by decide +kernel
theorem dG_prependDigits_12 : decode cG_prependDigits 12 = .ok (.iload 7, 2) := by decide +kernel
theorem dG_prependDigits_14 : decode cG_prependDigits 14 = .ok (.bipush 28, 2) := by decide +kernel
theorem dG_prependDigits_16 : decode cG_prependDigits 16 = .ok (.if_icmp .ge 66, 3) := by decide +kernel
theorem dG_prependDigits_19 : decode cG_prependDigits 19 = .ok (.iload 7, 2) := by decide +kernel
theorem dG_prependDigits_21 : decode cG_prependDigits 21 = .ok (.iload 4, 2) := by decide +kernel
theorem dG_prependDigits_23 : decode cG_prependDigits 23 = .ok (.if_icmp .lt 10, 3) := by decide +kernel
theorem dG_prependDigits_26 : decode cG_prependDigits 26 = .ok (.lload 5, 2) := by decide +kernel
theorem dG_prependDigits_28 : decode cG_prependDigits 28 = .ok (.lconst 0, 1) := by decide +kernel
theorem dG_prependDigits_29 : decode cG_prependDigits 29 = .ok (.lcmp, 1) := by decide +kernel
theorem dG_prependDigits_30 : decode cG_prependDigits 30 = .ok (.ifCond .le 52, 3) := by decide +kernel
theorem dG_prependDigits_33 : decode cG_prependDigits 33 = .ok (.lload 5, 2) := by decide +kernel
theorem dG_prependDigits_35 : decode cG_prependDigits 35 = .ok (.iload_n 3, 1) := by decide +kernel
theorem dG_prependDigits_36 : decode cG_prependDigits 36 = .ok (.i2l, 1) := by decide +kernel
theorem dG_prependDigits_37 : decode cG_prependDigits 37 = .ok (.lrem, 1) := by decide +kernel
theorem dG_prependDigits_38 : decode cG_prependDigits 38 = .ok (.l2i, 1) := by decide +kernel
theorem dG_prependDigits_39 : decode cG_prependDigits 39 = .ok (.istore 8, 2) := by decide +kernel
theorem dG_prependDigits_41 : decode cG_prependDigits 41 = .ok (.aload_n 0, 1) := by decide +kernel
theorem dG_prependDigits_42 : decode cG_prependDigits 42 = .ok (.iload 8, 2) := by decide +kernel
theorem dG_prependDigits_44 : decode cG_prependDigits 44 = .ok (.bipush 10, 2) := by decide +kernel
theorem dG_prependDigits_46 : decode cG_prependDigits 46 = .ok (.if_icmp .ge 11, 3) := by decide +kernel
theorem dG_prependDigits_49 : decode cG_prependDigits 49 = .ok (.bipush 48, 2) := by decide +kernel
theorem dG_prependDigits_51 : decode cG_prependDigits 51 = .ok (.iload 8, 2) := by decide +kernel
theorem dG_prependDigits_53 : decode cG_prependDigits 53 = .ok (.iadd, 1) := by decide +kernel
theorem dG_prependDigits_54 : decode cG_prependDigits 54 = .ok (.goto 11, 3) := by decide +kernel
theorem dG_prependDigits_57 : decode cG_prependDigits 57 = .ok (.bipush 97, 2) := by decide +kernel
theorem dG_prependDigits_59 : decode cG_prependDigits 59 = .ok (.iload 8, 2) := by decide +kernel
theorem dG_prependDigits_61 : decode cG_prependDigits 61 = .ok (.iadd, 1) := by decide +kernel
theorem dG_prependDigits_62 : decode cG_prependDigits 62 = .ok (.bipush 10, 2) := by decide +kernel
theorem dG_prependDigits_64 : decode cG_prependDigits 64 = .ok (.isub, 1) := by decide +kernel
theorem dG_prependDigits_65 : decode cG_prependDigits 65 = .ok (.i2c, 1) := by decide +kernel
theorem dG_prependDigits_66 : decode cG_prependDigits 66 = .ok (.invokevirtual 49, 3) := by decide +kernel
theorem dG_prependDigits_69 : decode cG_prependDigits 69 = .ok (.lload 5, 2) := by decide +kernel
theorem dG_prependDigits_71 : decode cG_prependDigits 71 = .ok (.iload_n 3, 1) := by decide +kernel
theorem dG_prependDigits_72 : decode cG_prependDigits 72 = .ok (.i2l, 1) := by decide +kernel
theorem dG_prependDigits_73 : decode cG_prependDigits 73 = .ok (.ldiv, 1) := by decide +kernel
theorem dG_prependDigits_74 : decode cG_prependDigits 74 = .ok (.lstore 5, 2) := by decide +kernel
theorem dG_prependDigits_76 : decode cG_prependDigits 76 = .ok (.iinc 7 1, 3) := by decide +kernel
theorem dG_prependDigits_79 : decode cG_prependDigits 79 = .ok (.goto (-67), 3) := by decide +kernel
theorem dG_prependDigits_82 : decode cG_prependDigits 82 = .ok (.return_, 1) := by decide +kernel
abbrev cG_prepend : ByteArray := prog_5_method_5_code
abbrev yG_prepend : MethodName := ⟨"WholeDesk$Writing", "prepend", "(C)V"⟩
theorem qG_prepend : yG_prepend.cls ≠ "java/lang/invoke/MethodHandle" ∧ yG_prepend.cls ≠ "java/lang/invoke/VarHandle" ∧ (parseMethodDescriptor yG_prepend.desc).map (fun d => d.parameters.length) = some 1 := by decide +kernel
theorem dG_prepend_0 : decode cG_prepend 0 = .ok (.aload_n 0, 1) := by decide +kernel
theorem dG_prepend_1 : decode cG_prepend 1 = .ok (.getfield 15, 3) := by decide +kernel
theorem dG_prepend_4 : decode cG_prepend 4 = .ok (.ifCond .le 34, 3) := by decide +kernel
theorem dG_prepend_7 : decode cG_prepend 7 = .ok (.aload_n 0, 1) := by decide +kernel
theorem dG_prepend_8 : decode cG_prepend 8 = .ok (.getfield 15, 3) := by decide +kernel
theorem dG_prepend_11 : decode cG_prepend 11 = .ok (.sipush 2049, 3) := by decide +kernel
theorem dG_prepend_14 : decode cG_prepend 14 = .ok (.if_icmp .gt 24, 3) := by decide +kernel
theorem dG_prepend_17 : decode cG_prepend 17 = .ok (.aload_n 0, 1) := by decide +kernel
theorem dG_prepend_18 : decode cG_prepend 18 = .ok (.dup, 1) := by decide +kernel
theorem dG_prepend_19 : decode cG_prepend 19 = .ok (.getfield 15, 3) := by decide +kernel
theorem dG_prepend_22 : decode cG_prepend 22 = .ok (.iconst 1, 1) := by decide +kernel
theorem dG_prepend_23 : decode cG_prepend 23 = .ok (.isub, 1) := by decide +kernel
theorem dG_prepend_24 : decode cG_prepend 24 = .ok (.putfield 15, 3) := by decide +kernel
theorem dG_prepend_27 : decode cG_prepend 27 = .ok (.aload_n 0, 1) := by decide +kernel
theorem dG_prepend_28 : decode cG_prepend 28 = .ok (.getfield 11, 3) := by decide +kernel
theorem dG_prepend_31 : decode cG_prepend 31 = .ok (.aload_n 0, 1) := by decide +kernel
theorem dG_prepend_32 : decode cG_prepend 32 = .ok (.getfield 15, 3) := by decide +kernel
theorem dG_prepend_35 : decode cG_prepend 35 = .ok (.iload_n 1, 1) := by decide +kernel
theorem dG_prepend_36 : decode cG_prepend 36 = .ok (.i2b, 1) := by decide +kernel
theorem dG_prepend_37 : decode cG_prepend 37 = .ok (.bastore, 1) := by decide +kernel
theorem dG_prepend_38 : decode cG_prepend 38 = .ok (.return_, 1) := by decide +kernel
abbrev cG_eightFrom : ByteArray := prog_5_method_6_code
abbrev yG_eightFrom : MethodName := ⟨"WholeDesk$Writing", "eightFrom", "(I)J"⟩
theorem qG_eightFrom : yG_eightFrom.cls ≠ "java/lang/invoke/MethodHandle" ∧ yG_eightFrom.cls ≠ "java/lang/invoke/VarHandle" ∧ (parseMethodDescriptor yG_eightFrom.desc).map (fun d => d.parameters.length) = some 1 := by decide +kernel
theorem dG_eightFrom_0 : decode cG_eightFrom 0 = .ok (.lconst 0, 1) := by decide +kernel
theorem dG_eightFrom_1 : decode cG_eightFrom 1 = .ok (.lstore_n 2, 1) := by decide +kernel
theorem dG_eightFrom_2 : decode cG_eightFrom 2 = .ok (.bipush 7, 2) := by decide +kernel
theorem dG_eightFrom_4 : decode cG_eightFrom 4 = .ok (.istore 4, 2) := by decide +kernel
theorem dG_eightFrom_6 : decode cG_eightFrom 6 = .ok (.iload 4, 2) := by decide +kernel
theorem dG_eightFrom_8 : decode cG_eightFrom 8 = .ok (.ifCond .lt 26, 3) := by decide +kernel
theorem dG_eightFrom_11 : decode cG_eightFrom 11 = .ok (.lload_n 2, 1) := by decide +kernel
theorem dG_eightFrom_12 : decode cG_eightFrom 12 = .ok (.bipush 8, 2) := by decide +kernel
theorem dG_eightFrom_14 : decode cG_eightFrom 14 = .ok (.lshl, 1) := by decide +kernel
theorem dG_eightFrom_15 : decode cG_eightFrom 15 = .ok (.aload_n 0, 1) := by decide +kernel
theorem dG_eightFrom_16 : decode cG_eightFrom 16 = .ok (.iload_n 1, 1) := by decide +kernel
theorem dG_eightFrom_17 : decode cG_eightFrom 17 = .ok (.i2l, 1) := by decide +kernel
theorem dG_eightFrom_18 : decode cG_eightFrom 18 = .ok (.iload 4, 2) := by decide +kernel
theorem dG_eightFrom_20 : decode cG_eightFrom 20 = .ok (.i2l, 1) := by decide +kernel
theorem dG_eightFrom_21 : decode cG_eightFrom 21 = .ok (.ladd, 1) := by decide +kernel
theorem dG_eightFrom_22 : decode cG_eightFrom 22 = .ok (.invokevirtual 55, 3) := by decide +kernel
theorem dG_eightFrom_25 : decode cG_eightFrom 25 = .ok (.i2l, 1) := by decide +kernel
theorem dG_eightFrom_26 : decode cG_eightFrom 26 = .ok (.lor, 1) := by decide +kernel
theorem dG_eightFrom_27 : decode cG_eightFrom 27 = .ok (.lstore_n 2, 1) := by decide +kernel
theorem dG_eightFrom_28 : decode cG_eightFrom 28 = .ok (.iinc 4 (-1), 3) := by decide +kernel
theorem dG_eightFrom_31 : decode cG_eightFrom 31 = .ok (.goto (-25), 3) := by decide +kernel
theorem dG_eightFrom_34 : decode cG_eightFrom 34 = .ok (.lload_n 2, 1) := by decide +kernel
theorem dG_eightFrom_35 : decode cG_eightFrom 35 = .ok (.lreturn, 1) := by decide +kernel
abbrev cG_characterAt : ByteArray := prog_5_method_7_code
abbrev yG_characterAt : MethodName := ⟨"WholeDesk$Writing", "characterAt", "(J)I"⟩
theorem qG_characterAt : yG_characterAt.cls ≠ "java/lang/invoke/MethodHandle" ∧ yG_characterAt.cls ≠ "java/lang/invoke/VarHandle" ∧ (parseMethodDescriptor yG_characterAt.desc).map (fun d => d.parameters.length) = some 1 := by decide +kernel
theorem dG_characterAt_0 : decode cG_characterAt 0 = .ok (.lload_n 1, 1) := by decide +kernel
theorem dG_characterAt_1 : decode cG_characterAt 1 = .ok (.lconst 0, 1) := by decide +kernel
theorem dG_characterAt_2 : decode cG_characterAt 2 = .ok (.lcmp, 1) := by decide +kernel
theorem dG_characterAt_3 : decode cG_characterAt 3 = .ok (.ifCond .lt 32, 3) := by decide +kernel
theorem dG_characterAt_6 : decode cG_characterAt 6 = .ok (.lload_n 1, 1) := by decide +kernel
theorem dG_characterAt_7 : decode cG_characterAt 7 = .ok (.sipush 2049, 3) := by decide +kernel
theorem dG_characterAt_10 : decode cG_characterAt 10 = .ok (.aload_n 0, 1) := by decide +kernel
theorem dG_characterAt_11 : decode cG_characterAt 11 = .ok (.getfield 15, 3) := by decide +kernel
theorem dG_characterAt_14 : decode cG_characterAt 14 = .ok (.isub, 1) := by decide +kernel
theorem dG_characterAt_15 : decode cG_characterAt 15 = .ok (.i2l, 1) := by decide +kernel
theorem dG_characterAt_16 : decode cG_characterAt 16 = .ok (.lcmp, 1) := by decide +kernel
theorem dG_characterAt_17 : decode cG_characterAt 17 = .ok (.ifCond .ge 18, 3) := by decide +kernel
theorem dG_characterAt_20 : decode cG_characterAt 20 = .ok (.aload_n 0, 1) := by decide +kernel
theorem dG_characterAt_21 : decode cG_characterAt 21 = .ok (.getfield 11, 3) := by decide +kernel
theorem dG_characterAt_24 : decode cG_characterAt 24 = .ok (.aload_n 0, 1) := by decide +kernel
theorem dG_characterAt_25 : decode cG_characterAt 25 = .ok (.getfield 15, 3) := by decide +kernel
theorem dG_characterAt_28 : decode cG_characterAt 28 = .ok (.lload_n 1, 1) := by decide +kernel
theorem dG_characterAt_29 : decode cG_characterAt 29 = .ok (.l2i, 1) := by decide +kernel
theorem dG_characterAt_30 : decode cG_characterAt 30 = .ok (.iadd, 1) := by decide +kernel
theorem dG_characterAt_31 : decode cG_characterAt 31 = .ok (.baload, 1) := by decide +kernel
theorem dG_characterAt_32 : decode cG_characterAt 32 = .ok (.goto 4, 3) := by decide +kernel
theorem dG_characterAt_35 : decode cG_characterAt 35 = .ok (.iconst 0, 1) := by decide +kernel
theorem dG_characterAt_36 : decode cG_characterAt 36 = .ok (.ireturn, 1) := by decide +kernel
