abbrev cK_init : ByteArray := prog_3_method_1_code
abbrev yK_init : MethodName := ⟨"WholeDesk$Reckoner", "<init>", "()V"⟩
theorem qK_init : yK_init.cls ≠ "java/lang/invoke/MethodHandle" ∧ yK_init.cls ≠ "java/lang/invoke/VarHandle" ∧ (parseMethodDescriptor yK_init.desc).map (fun d => d.parameters.length) = some 0 := by decide +kernel
theorem dK_init_0 : decode cK_init 0 = .ok (.aload_n 0, 1) := by decide +kernel
theorem dK_init_1 : decode cK_init 1 = .ok (.invokespecial 3, 3) := by decide +kernel
theorem dK_init_4 : decode cK_init 4 = .ok (.aload_n 0, 1) := by decide +kernel
theorem dK_init_5 : decode cK_init 5 = .ok (.new 9, 3) := by decide +kernel
theorem dK_init_8 : decode cK_init 8 = .ok (.dup, 1) := by decide +kernel
theorem dK_init_9 : decode cK_init 9 = .ok (.invokespecial 11, 3) := by decide +kernel
theorem dK_init_12 : decode cK_init 12 = .ok (.putfield 12, 3) := by decide +kernel
theorem dK_init_15 : decode cK_init 15 = .ok (.aload_n 0, 1) := by decide +kernel
theorem dK_init_16 : decode cK_init 16 = .ok (.new 9, 3) := by decide +kernel
theorem dK_init_19 : decode cK_init 19 = .ok (.dup, 1) := by decide +kernel
theorem dK_init_20 : decode cK_init 20 = .ok (.invokespecial 11, 3) := by decide +kernel
theorem dK_init_23 : decode cK_init 23 = .ok (.putfield 18, 3) := by decide +kernel
theorem dK_init_26 : decode cK_init 26 = .ok (.aload_n 0, 1) := by decide +kernel
theorem dK_init_27 : decode cK_init 27 = .ok (.new 9, 3) := by decide +kernel
theorem dK_init_30 : decode cK_init 30 = .ok (.dup, 1) := by decide +kernel
theorem dK_init_31 : decode cK_init 31 = .ok (.invokespecial 11, 3) := by decide +kernel
theorem dK_init_34 : decode cK_init 34 = .ok (.putfield 21, 3) := by decide +kernel
theorem dK_init_37 : decode cK_init 37 = .ok (.aload_n 0, 1) := by decide +kernel
theorem dK_init_38 : decode cK_init 38 = .ok (.new 9, 3) := by decide +kernel
theorem dK_init_41 : decode cK_init 41 = .ok (.dup, 1) := by decide +kernel
theorem dK_init_42 : decode cK_init 42 = .ok (.invokespecial 11, 3) := by decide +kernel
theorem dK_init_45 : decode cK_init 45 = .ok (.putfield 24, 3) := by decide +kernel
theorem dK_init_48 : decode cK_init 48 = .ok (.aload_n 0, 1) := by decide +kernel
theorem dK_init_49 : decode cK_init 49 = .ok (.new 9, 3) := by decide +kernel
theorem dK_init_52 : decode cK_init 52 = .ok (.dup, 1) := by decide +kernel
theorem dK_init_53 : decode cK_init 53 = .ok (.invokespecial 11, 3) := by decide +kernel
theorem dK_init_56 : decode cK_init 56 = .ok (.putfield 27, 3) := by decide +kernel
theorem dK_init_59 : decode cK_init 59 = .ok (.aload_n 0, 1) := by decide +kernel
theorem dK_init_60 : decode cK_init 60 = .ok (.new 9, 3) := by decide +kernel
theorem dK_init_63 : decode cK_init 63 = .ok (.dup, 1) := by decide +kernel
theorem dK_init_64 : decode cK_init 64 = .ok (.invokespecial 11, 3) := by decide +kernel
theorem dK_init_67 : decode cK_init 67 = .ok (.putfield 30, 3) := by decide +kernel
theorem dK_init_70 : decode cK_init 70 = .ok (.aload_n 0, 1) := by decide +kernel
theorem dK_init_71 : decode cK_init 71 = .ok (.new 9, 3) := by decide +kernel
theorem dK_init_74 : decode cK_init 74 = .ok (.dup, 1) := by decide +kernel
theorem dK_init_75 : decode cK_init 75 = .ok (.invokespecial 11, 3) := by decide +kernel
theorem dK_init_78 : decode cK_init 78 = .ok (.putfield 33, 3) := by decide +kernel
theorem dK_init_81 : decode cK_init 81 = .ok (.aload_n 0, 1) := by decide +kernel
theorem dK_init_82 : decode cK_init 82 = .ok (.new 9, 3) := by decide +kernel
theorem dK_init_85 : decode cK_init 85 = .ok (.dup, 1) := by decide +kernel
theorem dK_init_86 : decode cK_init 86 = .ok (.invokespecial 11, 3) := by decide +kernel
theorem dK_init_89 : decode cK_init 89 = .ok (.putfield 36, 3) := by decide +kernel
theorem dK_init_92 : decode cK_init 92 = .ok (.aload_n 0, 1) := by decide +kernel
theorem dK_init_93 : decode cK_init 93 = .ok (.bipush 16, 2) := by decide +kernel
theorem dK_init_95 : decode cK_init 95 = .ok (.anewarray 9, 3) := by decide +kernel
theorem dK_init_98 : decode cK_init 98 = .ok (.putfield 39, 3) := by decide +kernel
theorem dK_init_101 : decode cK_init 101 = .ok (.iconst 0, 1) := by decide +kernel
theorem dK_init_102 : decode cK_init 102 = .ok (.istore_n 1, 1) := by decide +kernel
theorem dK_init_103 : decode cK_init 103 = .ok (.iload_n 1, 1) := by decide +kernel
theorem dK_init_104 : decode cK_init 104 = .ok (.bipush 16, 2) := by decide +kernel
theorem dK_init_106 : decode cK_init 106 = .ok (.if_icmp .ge 22, 3) := by decide +kernel
theorem dK_init_109 : decode cK_init 109 = .ok (.aload_n 0, 1) := by decide +kernel
theorem dK_init_110 : decode cK_init 110 = .ok (.getfield 39, 3) := by decide +kernel
theorem dK_init_113 : decode cK_init 113 = .ok (.iload_n 1, 1) := by decide +kernel
theorem dK_init_114 : decode cK_init 114 = .ok (.new 9, 3) := by decide +kernel
theorem dK_init_117 : decode cK_init 117 = .ok (.dup, 1) := by decide +kernel
theorem dK_init_118 : decode cK_init 118 = .ok (.invokespecial 11, 3) := by decide +kernel
theorem dK_init_121 : decode cK_init 121 = .ok (.aastore, 1) := by decide +kernel
theorem dK_init_122 : decode cK_init 122 = .ok (.iinc 1 1, 3) := by decide +kernel
theorem dK_init_125 : decode cK_init 125 = .ok (.goto (-22), 3) := by decide +kernel
theorem dK_init_128 : decode cK_init 128 = .ok (.return_, 1) := by decide +kernel
abbrev cK_sum : ByteArray := prog_3_method_2_code
abbrev yK_sum : MethodName := ⟨"WholeDesk$Reckoner", "sum", "(LWholeDesk$Whole;LWholeDesk$Whole;Z)LWholeDesk$Whole;"⟩
theorem qK_sum : yK_sum.cls ≠ "java/lang/invoke/MethodHandle" ∧ yK_sum.cls ≠ "java/lang/invoke/VarHandle" ∧ (parseMethodDescriptor yK_sum.desc).map (fun d => d.parameters.length) = some 3 := by decide +kernel
theorem dK_sum_0 : decode cK_sum 0 = .ok (.aload_n 2, 1) := by decide +kernel
theorem dK_sum_1 : decode cK_sum 1 = .ok (.getfield 43, 3) := by decide +kernel
theorem dK_sum_4 : decode cK_sum 4 = .ok (.iload_n 3, 1) := by decide +kernel
theorem dK_sum_5 : decode cK_sum 5 = .ok (.if_icmp .eq 7, 3) := by decide +kernel
theorem dK_sum_8 : decode cK_sum 8 = .ok (.iconst 1, 1) := by decide +kernel
theorem dK_sum_9 : decode cK_sum 9 = .ok (.goto 4, 3) := by decide +kernel
theorem dK_sum_12 : decode cK_sum 12 = .ok (.iconst 0, 1) := by decide +kernel
theorem dK_sum_13 : decode cK_sum 13 = .ok (.istore 4, 2) := by decide +kernel
theorem dK_sum_15 : decode cK_sum 15 = .ok (.aload_n 0, 1) := by decide +kernel
theorem dK_sum_16 : decode cK_sum 16 = .ok (.getfield 21, 3) := by decide +kernel
theorem dK_sum_19 : decode cK_sum 19 = .ok (.aload_n 1, 1) := by decide +kernel
theorem dK_sum_20 : decode cK_sum 20 = .ok (.invokevirtual 47, 3) := by decide +kernel
theorem dK_sum_23 : decode cK_sum 23 = .ok (.aload_n 1, 1) := by decide +kernel
theorem dK_sum_24 : decode cK_sum 24 = .ok (.getfield 43, 3) := by decide +kernel
theorem dK_sum_27 : decode cK_sum 27 = .ok (.iload 4, 2) := by decide +kernel
theorem dK_sum_29 : decode cK_sum 29 = .ok (.if_icmp .ne 37, 3) := by decide +kernel
theorem dK_sum_32 : decode cK_sum 32 = .ok (.aload_n 0, 1) := by decide +kernel
theorem dK_sum_33 : decode cK_sum 33 = .ok (.getfield 21, 3) := by decide +kernel
theorem dK_sum_36 : decode cK_sum 36 = .ok (.aload_n 1, 1) := by decide +kernel
theorem dK_sum_37 : decode cK_sum 37 = .ok (.getfield 51, 3) := by decide +kernel
theorem dK_sum_40 : decode cK_sum 40 = .ok (.aload_n 2, 1) := by decide +kernel
theorem dK_sum_41 : decode cK_sum 41 = .ok (.getfield 51, 3) := by decide +kernel
theorem dK_sum_44 : decode cK_sum 44 = .ok (.invokestatic 55, 3) := by decide +kernel
theorem dK_sum_47 : decode cK_sum 47 = .ok (.iconst 1, 1) := by decide +kernel
theorem dK_sum_48 : decode cK_sum 48 = .ok (.iadd, 1) := by decide +kernel
theorem dK_sum_49 : decode cK_sum 49 = .ok (.invokevirtual 61, 3) := by decide +kernel
theorem dK_sum_52 : decode cK_sum 52 = .ok (.aload_n 0, 1) := by decide +kernel
theorem dK_sum_53 : decode cK_sum 53 = .ok (.getfield 21, 3) := by decide +kernel
theorem dK_sum_56 : decode cK_sum 56 = .ok (.aload_n 2, 1) := by decide +kernel
theorem dK_sum_57 : decode cK_sum 57 = .ok (.lconst 1, 1) := by decide +kernel
theorem dK_sum_58 : decode cK_sum 58 = .ok (.iconst 0, 1) := by decide +kernel
theorem dK_sum_59 : decode cK_sum 59 = .ok (.invokevirtual 65, 3) := by decide +kernel
theorem dK_sum_62 : decode cK_sum 62 = .ok (.pop2, 1) := by decide +kernel
theorem dK_sum_63 : decode cK_sum 63 = .ok (.goto 44, 3) := by decide +kernel
theorem dK_sum_66 : decode cK_sum 66 = .ok (.aload_n 1, 1) := by decide +kernel
theorem dK_sum_67 : decode cK_sum 67 = .ok (.aload_n 2, 1) := by decide +kernel
theorem dK_sum_68 : decode cK_sum 68 = .ok (.invokevirtual 69, 3) := by decide +kernel
theorem dK_sum_71 : decode cK_sum 71 = .ok (.ifCond .lt 19, 3) := by decide +kernel
theorem dK_sum_74 : decode cK_sum 74 = .ok (.aload_n 0, 1) := by decide +kernel
theorem dK_sum_75 : decode cK_sum 75 = .ok (.getfield 21, 3) := by decide +kernel
theorem dK_sum_78 : decode cK_sum 78 = .ok (.aload_n 2, 1) := by decide +kernel
theorem dK_sum_79 : decode cK_sum 79 = .ok (.ldc2_w 73, 3) := by decide +kernel
theorem dK_sum_82 : decode cK_sum 82 = .ok (.iconst 0, 1) := by decide +kernel
theorem dK_sum_83 : decode cK_sum 83 = .ok (.invokevirtual 65, 3) := by decide +kernel
theorem dK_sum_86 : decode cK_sum 86 = .ok (.pop2, 1) := by decide +kernel
theorem dK_sum_87 : decode cK_sum 87 = .ok (.goto 20, 3) := by decide +kernel
theorem dK_sum_90 : decode cK_sum 90 = .ok (.aload_n 0, 1) := by decide +kernel
theorem dK_sum_91 : decode cK_sum 91 = .ok (.getfield 21, 3) := by decide +kernel
theorem dK_sum_94 : decode cK_sum 94 = .ok (.aload_n 2, 1) := by decide +kernel
theorem dK_sum_95 : decode cK_sum 95 = .ok (.invokevirtual 75, 3) := by decide +kernel
theorem dK_sum_98 : decode cK_sum 98 = .ok (.aload_n 0, 1) := by decide +kernel
theorem dK_sum_99 : decode cK_sum 99 = .ok (.getfield 21, 3) := by decide +kernel
theorem dK_sum_102 : decode cK_sum 102 = .ok (.iload 4, 2) := by decide +kernel
theorem dK_sum_104 : decode cK_sum 104 = .ok (.putfield 43, 3) := by decide +kernel
theorem dK_sum_107 : decode cK_sum 107 = .ok (.aload_n 0, 1) := by decide +kernel
theorem dK_sum_108 : decode cK_sum 108 = .ok (.getfield 21, 3) := by decide +kernel
theorem dK_sum_111 : decode cK_sum 111 = .ok (.invokevirtual 78, 3) := by decide +kernel
theorem dK_sum_114 : decode cK_sum 114 = .ok (.aload_n 0, 1) := by decide +kernel
theorem dK_sum_115 : decode cK_sum 115 = .ok (.getfield 21, 3) := by decide +kernel
theorem dK_sum_118 : decode cK_sum 118 = .ok (.areturn, 1) := by decide +kernel
abbrev cK_product : ByteArray := prog_3_method_3_code
abbrev yK_product : MethodName := ⟨"WholeDesk$Reckoner", "product", "(LWholeDesk$Whole;LWholeDesk$Whole;)LWholeDesk$Whole;"⟩
theorem qK_product : yK_product.cls ≠ "java/lang/invoke/MethodHandle" ∧ yK_product.cls ≠ "java/lang/invoke/VarHandle" ∧ (parseMethodDescriptor yK_product.desc).map (fun d => d.parameters.length) = some 2 := by decide +kernel
theorem dK_product_0 : decode cK_product 0 = .ok (.aload_n 0, 1) := by decide +kernel
theorem dK_product_1 : decode cK_product 1 = .ok (.getfield 21, 3) := by decide +kernel
theorem dK_product_4 : decode cK_product 4 = .ok (.aload_n 1, 1) := by decide +kernel
theorem dK_product_5 : decode cK_product 5 = .ok (.aload_n 2, 1) := by decide +kernel
theorem dK_product_6 : decode cK_product 6 = .ok (.invokevirtual 81, 3) := by decide +kernel
theorem dK_product_9 : decode cK_product 9 = .ok (.aload_n 0, 1) := by decide +kernel
theorem dK_product_10 : decode cK_product 10 = .ok (.getfield 21, 3) := by decide +kernel
theorem dK_product_13 : decode cK_product 13 = .ok (.areturn, 1) := by decide +kernel
abbrev cK_separate : ByteArray := prog_3_method_4_code
abbrev yK_separate : MethodName := ⟨"WholeDesk$Reckoner", "separate", "(LWholeDesk$Whole;LWholeDesk$Whole;)V"⟩
theorem qK_separate : yK_separate.cls ≠ "java/lang/invoke/MethodHandle" ∧ yK_separate.cls ≠ "java/lang/invoke/VarHandle" ∧ (parseMethodDescriptor yK_separate.desc).map (fun d => d.parameters.length) = some 2 := by decide +kernel
theorem dK_separate_0 : decode cK_separate 0 = .ok (.aload_n 0, 1) := by decide +kernel
theorem dK_separate_1 : decode cK_separate 1 = .ok (.getfield 18, 3) := by decide +kernel
theorem dK_separate_4 : decode cK_separate 4 = .ok (.aload_n 1, 1) := by decide +kernel
theorem dK_separate_5 : decode cK_separate 5 = .ok (.invokevirtual 47, 3) := by decide +kernel
theorem dK_separate_8 : decode cK_separate 8 = .ok (.aload_n 0, 1) := by decide +kernel
theorem dK_separate_9 : decode cK_separate 9 = .ok (.getfield 18, 3) := by decide +kernel
theorem dK_separate_12 : decode cK_separate 12 = .ok (.aload_n 2, 1) := by decide +kernel
theorem dK_separate_13 : decode cK_separate 13 = .ok (.aload_n 0, 1) := by decide +kernel
theorem dK_separate_14 : decode cK_separate 14 = .ok (.getfield 12, 3) := by decide +kernel
theorem dK_separate_17 : decode cK_separate 17 = .ok (.invokevirtual 85, 3) := by decide +kernel
theorem dK_separate_20 : decode cK_separate 20 = .ok (.aload_n 0, 1) := by decide +kernel
theorem dK_separate_21 : decode cK_separate 21 = .ok (.getfield 12, 3) := by decide +kernel
theorem dK_separate_24 : decode cK_separate 24 = .ok (.aload_n 1, 1) := by decide +kernel
theorem dK_separate_25 : decode cK_separate 25 = .ok (.getfield 43, 3) := by decide +kernel
theorem dK_separate_28 : decode cK_separate 28 = .ok (.aload_n 2, 1) := by decide +kernel
theorem dK_separate_29 : decode cK_separate 29 = .ok (.getfield 43, 3) := by decide +kernel
theorem dK_separate_32 : decode cK_separate 32 = .ok (.if_icmp .eq 7, 3) := by decide +kernel
theorem dK_separate_35 : decode cK_separate 35 = .ok (.iconst 1, 1) := by decide +kernel
theorem dK_separate_36 : decode cK_separate 36 = .ok (.goto 4, 3) := by decide +kernel
theorem dK_separate_39 : decode cK_separate 39 = .ok (.iconst 0, 1) := by decide +kernel
theorem dK_separate_40 : decode cK_separate 40 = .ok (.putfield 43, 3) := by decide +kernel
theorem dK_separate_43 : decode cK_separate 43 = .ok (.aload_n 0, 1) := by decide +kernel
theorem dK_separate_44 : decode cK_separate 44 = .ok (.getfield 12, 3) := by decide +kernel
theorem dK_separate_47 : decode cK_separate 47 = .ok (.invokevirtual 78, 3) := by decide +kernel
theorem dK_separate_50 : decode cK_separate 50 = .ok (.return_, 1) := by decide +kernel
abbrev cK_residue : ByteArray := prog_3_method_5_code
abbrev yK_residue : MethodName := ⟨"WholeDesk$Reckoner", "residue", "(LWholeDesk$Whole;LWholeDesk$Whole;)LWholeDesk$Whole;"⟩
theorem qK_residue : yK_residue.cls ≠ "java/lang/invoke/MethodHandle" ∧ yK_residue.cls ≠ "java/lang/invoke/VarHandle" ∧ (parseMethodDescriptor yK_residue.desc).map (fun d => d.parameters.length) = some 2 := by decide +kernel
theorem dK_residue_0 : decode cK_residue 0 = .ok (.aload_n 0, 1) := by decide +kernel
theorem dK_residue_1 : decode cK_residue 1 = .ok (.getfield 18, 3) := by decide +kernel
theorem dK_residue_4 : decode cK_residue 4 = .ok (.aload_n 1, 1) := by decide +kernel
theorem dK_residue_5 : decode cK_residue 5 = .ok (.invokevirtual 47, 3) := by decide +kernel
theorem dK_residue_8 : decode cK_residue 8 = .ok (.aload_n 0, 1) := by decide +kernel
theorem dK_residue_9 : decode cK_residue 9 = .ok (.getfield 18, 3) := by decide +kernel
theorem dK_residue_12 : decode cK_residue 12 = .ok (.aload_n 2, 1) := by decide +kernel
theorem dK_residue_13 : decode cK_residue 13 = .ok (.aload_n 0, 1) := by decide +kernel
theorem dK_residue_14 : decode cK_residue 14 = .ok (.getfield 12, 3) := by decide +kernel
theorem dK_residue_17 : decode cK_residue 17 = .ok (.invokevirtual 85, 3) := by decide +kernel
theorem dK_residue_20 : decode cK_residue 20 = .ok (.aload_n 0, 1) := by decide +kernel
theorem dK_residue_21 : decode cK_residue 21 = .ok (.getfield 18, 3) := by decide +kernel
theorem dK_residue_24 : decode cK_residue 24 = .ok (.getfield 43, 3) := by decide +kernel
theorem dK_residue_27 : decode cK_residue 27 = .ok (.ifCond .eq 11, 3) := by decide +kernel
theorem dK_residue_30 : decode cK_residue 30 = .ok (.aload_n 0, 1) := by decide +kernel
theorem dK_residue_31 : decode cK_residue 31 = .ok (.getfield 18, 3) := by decide +kernel
theorem dK_residue_34 : decode cK_residue 34 = .ok (.aload_n 2, 1) := by decide +kernel
theorem dK_residue_35 : decode cK_residue 35 = .ok (.invokevirtual 75, 3) := by decide +kernel
theorem dK_residue_38 : decode cK_residue 38 = .ok (.aload_n 0, 1) := by decide +kernel
theorem dK_residue_39 : decode cK_residue 39 = .ok (.getfield 18, 3) := by decide +kernel
theorem dK_residue_42 : decode cK_residue 42 = .ok (.areturn, 1) := by decide +kernel
abbrev cK_raised : ByteArray := prog_3_method_6_code
abbrev yK_raised : MethodName := ⟨"WholeDesk$Reckoner", "raised", "(LWholeDesk$Whole;I)LWholeDesk$Whole;"⟩
theorem qK_raised : yK_raised.cls ≠ "java/lang/invoke/MethodHandle" ∧ yK_raised.cls ≠ "java/lang/invoke/VarHandle" ∧ (parseMethodDescriptor yK_raised.desc).map (fun d => d.parameters.length) = some 2 := by decide +kernel
theorem dK_raised_0 : decode cK_raised 0 = .ok (.aload_n 0, 1) := by decide +kernel
theorem dK_raised_1 : decode cK_raised 1 = .ok (.getfield 21, 3) := by decide +kernel
theorem dK_raised_4 : decode cK_raised 4 = .ok (.lconst 1, 1) := by decide +kernel
theorem dK_raised_5 : decode cK_raised 5 = .ok (.invokevirtual 88, 3) := by decide +kernel
theorem dK_raised_8 : decode cK_raised 8 = .ok (.bipush 30, 2) := by decide +kernel
theorem dK_raised_10 : decode cK_raised 10 = .ok (.istore_n 3, 1) := by decide +kernel
theorem dK_raised_11 : decode cK_raised 11 = .ok (.iload_n 3, 1) := by decide +kernel
theorem dK_raised_12 : decode cK_raised 12 = .ok (.ifCond .lt 30, 3) := by decide +kernel
theorem dK_raised_15 : decode cK_raised 15 = .ok (.aload_n 0, 1) := by decide +kernel
theorem dK_raised_16 : decode cK_raised 16 = .ok (.aload_n 0, 1) := by decide +kernel
theorem dK_raised_17 : decode cK_raised 17 = .ok (.getfield 21, 3) := by decide +kernel
theorem dK_raised_20 : decode cK_raised 20 = .ok (.invokevirtual 92, 3) := by decide +kernel
theorem dK_raised_23 : decode cK_raised 23 = .ok (.iload_n 2, 1) := by decide +kernel
theorem dK_raised_24 : decode cK_raised 24 = .ok (.iload_n 3, 1) := by decide +kernel
theorem dK_raised_25 : decode cK_raised 25 = .ok (.ishr, 1) := by decide +kernel
theorem dK_raised_26 : decode cK_raised 26 = .ok (.iconst 1, 1) := by decide +kernel
theorem dK_raised_27 : decode cK_raised 27 = .ok (.iand, 1) := by decide +kernel
theorem dK_raised_28 : decode cK_raised 28 = .ok (.ifCond .eq 8, 3) := by decide +kernel
theorem dK_raised_31 : decode cK_raised 31 = .ok (.aload_n 0, 1) := by decide +kernel
theorem dK_raised_32 : decode cK_raised 32 = .ok (.aload_n 1, 1) := by decide +kernel
theorem dK_raised_33 : decode cK_raised 33 = .ok (.invokevirtual 92, 3) := by decide +kernel
theorem dK_raised_36 : decode cK_raised 36 = .ok (.iinc 3 (-1), 3) := by decide +kernel
theorem dK_raised_39 : decode cK_raised 39 = .ok (.goto (-28), 3) := by decide +kernel
theorem dK_raised_42 : decode cK_raised 42 = .ok (.aload_n 0, 1) := by decide +kernel
theorem dK_raised_43 : decode cK_raised 43 = .ok (.getfield 21, 3) := by decide +kernel
theorem dK_raised_46 : decode cK_raised 46 = .ok (.areturn, 1) := by decide +kernel
abbrev cK_times : ByteArray := prog_3_method_7_code
abbrev yK_times : MethodName := ⟨"WholeDesk$Reckoner", "times", "(LWholeDesk$Whole;)V"⟩
theorem qK_times : yK_times.cls ≠ "java/lang/invoke/MethodHandle" ∧ yK_times.cls ≠ "java/lang/invoke/VarHandle" ∧ (parseMethodDescriptor yK_times.desc).map (fun d => d.parameters.length) = some 1 := by decide +kernel
theorem dK_times_0 : decode cK_times 0 = .ok (.aload_n 0, 1) := by decide +kernel
theorem dK_times_1 : decode cK_times 1 = .ok (.getfield 24, 3) := by decide +kernel
theorem dK_times_4 : decode cK_times 4 = .ok (.aload_n 0, 1) := by decide +kernel
theorem dK_times_5 : decode cK_times 5 = .ok (.getfield 21, 3) := by decide +kernel
theorem dK_times_8 : decode cK_times 8 = .ok (.aload_n 1, 1) := by decide +kernel
theorem dK_times_9 : decode cK_times 9 = .ok (.invokevirtual 81, 3) := by decide +kernel
theorem dK_times_12 : decode cK_times 12 = .ok (.aload_n 0, 1) := by decide +kernel
theorem dK_times_13 : decode cK_times 13 = .ok (.getfield 24, 3) := by decide +kernel
theorem dK_times_16 : decode cK_times 16 = .ok (.astore_n 2, 1) := by decide +kernel
theorem dK_times_17 : decode cK_times 17 = .ok (.aload_n 0, 1) := by decide +kernel
theorem dK_times_18 : decode cK_times 18 = .ok (.aload_n 0, 1) := by decide +kernel
theorem dK_times_19 : decode cK_times 19 = .ok (.getfield 21, 3) := by decide +kernel
theorem dK_times_22 : decode cK_times 22 = .ok (.putfield 24, 3) := by decide +kernel
theorem dK_times_25 : decode cK_times 25 = .ok (.aload_n 0, 1) := by decide +kernel
theorem dK_times_26 : decode cK_times 26 = .ok (.aload_n 2, 1) := by decide +kernel
theorem dK_times_27 : decode cK_times 27 = .ok (.putfield 21, 3) := by decide +kernel
theorem dK_times_30 : decode cK_times 30 = .ok (.return_, 1) := by decide +kernel
abbrev cK_rooted : ByteArray := prog_3_method_8_code
abbrev yK_rooted : MethodName := ⟨"WholeDesk$Reckoner", "rooted", "(LWholeDesk$Whole;I)LWholeDesk$Whole;"⟩
theorem qK_rooted : yK_rooted.cls ≠ "java/lang/invoke/MethodHandle" ∧ yK_rooted.cls ≠ "java/lang/invoke/VarHandle" ∧ (parseMethodDescriptor yK_rooted.desc).map (fun d => d.parameters.length) = some 2 := by decide +kernel
theorem dK_rooted_0 : decode cK_rooted 0 = .ok (.aload_n 0, 1) := by decide +kernel
theorem dK_rooted_1 : decode cK_rooted 1 = .ok (.getfield 27, 3) := by decide +kernel
theorem dK_rooted_4 : decode cK_rooted 4 = .ok (.astore_n 3, 1) := by decide +kernel
theorem dK_rooted_5 : decode cK_rooted 5 = .ok (.aload_n 0, 1) := by decide +kernel
theorem dK_rooted_6 : decode cK_rooted 6 = .ok (.getfield 30, 3) := by decide +kernel
theorem dK_rooted_9 : decode cK_rooted 9 = .ok (.astore 4, 2) := by decide +kernel
theorem dK_rooted_11 : decode cK_rooted 11 = .ok (.iload_n 2, 1) := by decide +kernel
theorem dK_rooted_12 : decode cK_rooted 12 = .ok (.iconst 1, 1) := by decide +kernel
theorem dK_rooted_13 : decode cK_rooted 13 = .ok (.if_icmp .lt 10, 3) := by decide +kernel
theorem dK_rooted_16 : decode cK_rooted 16 = .ok (.aload_n 1, 1) := by decide +kernel
theorem dK_rooted_17 : decode cK_rooted 17 = .ok (.getfield 51, 3) := by decide +kernel
theorem dK_rooted_20 : decode cK_rooted 20 = .ok (.ifCond .ne 10, 3) := by decide +kernel
theorem dK_rooted_23 : decode cK_rooted 23 = .ok (.aload_n 3, 1) := by decide +kernel
theorem dK_rooted_24 : decode cK_rooted 24 = .ok (.lconst 0, 1) := by decide +kernel
theorem dK_rooted_25 : decode cK_rooted 25 = .ok (.invokevirtual 88, 3) := by decide +kernel
theorem dK_rooted_28 : decode cK_rooted 28 = .ok (.aload_n 3, 1) := by decide +kernel
theorem dK_rooted_29 : decode cK_rooted 29 = .ok (.areturn, 1) := by decide +kernel
theorem dK_rooted_30 : decode cK_rooted 30 = .ok (.aload_n 3, 1) := by decide +kernel
theorem dK_rooted_31 : decode cK_rooted 31 = .ok (.aload_n 1, 1) := by decide +kernel
theorem dK_rooted_32 : decode cK_rooted 32 = .ok (.invokevirtual 95, 3) := by decide +kernel
theorem dK_rooted_35 : decode cK_rooted 35 = .ok (.iload_n 2, 1) := by decide +kernel
theorem dK_rooted_36 : decode cK_rooted 36 = .ok (.iadd, 1) := by decide +kernel
theorem dK_rooted_37 : decode cK_rooted 37 = .ok (.iconst 1, 1) := by decide +kernel
theorem dK_rooted_38 : decode cK_rooted 38 = .ok (.isub, 1) := by decide +kernel
theorem dK_rooted_39 : decode cK_rooted 39 = .ok (.iload_n 2, 1) := by decide +kernel
theorem dK_rooted_40 : decode cK_rooted 40 = .ok (.idiv, 1) := by decide +kernel
theorem dK_rooted_41 : decode cK_rooted 41 = .ok (.invokevirtual 99, 3) := by decide +kernel
theorem dK_rooted_44 : decode cK_rooted 44 = .ok (.iconst 0, 1) := by decide +kernel
theorem dK_rooted_45 : decode cK_rooted 45 = .ok (.istore 5, 2) := by decide +kernel
theorem dK_rooted_47 : decode cK_rooted 47 = .ok (.iload 5, 2) := by decide +kernel
theorem dK_rooted_49 : decode cK_rooted 49 = .ok (.sipush 4096, 3) := by decide +kernel
theorem dK_rooted_52 : decode cK_rooted 52 = .ok (.if_icmp .ge 40, 3) := by decide +kernel
theorem dK_rooted_55 : decode cK_rooted 55 = .ok (.aload_n 0, 1) := by decide +kernel
theorem dK_rooted_56 : decode cK_rooted 56 = .ok (.aload_n 1, 1) := by decide +kernel
theorem dK_rooted_57 : decode cK_rooted 57 = .ok (.iload_n 2, 1) := by decide +kernel
theorem dK_rooted_58 : decode cK_rooted 58 = .ok (.aload_n 3, 1) := by decide +kernel
theorem dK_rooted_59 : decode cK_rooted 59 = .ok (.aload 4, 2) := by decide +kernel
theorem dK_rooted_61 : decode cK_rooted 61 = .ok (.invokevirtual 102, 3) := by decide +kernel
theorem dK_rooted_64 : decode cK_rooted 64 = .ok (.aload 4, 2) := by decide +kernel
theorem dK_rooted_66 : decode cK_rooted 66 = .ok (.aload_n 3, 1) := by decide +kernel
theorem dK_rooted_67 : decode cK_rooted 67 = .ok (.invokevirtual 69, 3) := by decide +kernel
theorem dK_rooted_70 : decode cK_rooted 70 = .ok (.ifCond .lt 6, 3) := by decide +kernel
theorem dK_rooted_73 : decode cK_rooted 73 = .ok (.goto 19, 3) := by decide +kernel
theorem dK_rooted_76 : decode cK_rooted 76 = .ok (.aload_n 3, 1) := by decide +kernel
theorem dK_rooted_77 : decode cK_rooted 77 = .ok (.astore 6, 2) := by decide +kernel
theorem dK_rooted_79 : decode cK_rooted 79 = .ok (.aload 4, 2) := by decide +kernel
theorem dK_rooted_81 : decode cK_rooted 81 = .ok (.astore_n 3, 1) := by decide +kernel
theorem dK_rooted_82 : decode cK_rooted 82 = .ok (.aload 6, 2) := by decide +kernel
theorem dK_rooted_84 : decode cK_rooted 84 = .ok (.astore 4, 2) := by decide +kernel
theorem dK_rooted_86 : decode cK_rooted 86 = .ok (.iinc 5 1, 3) := by decide +kernel
theorem dK_rooted_89 : decode cK_rooted 89 = .ok (.goto (-42), 3) := by decide +kernel
theorem dK_rooted_92 : decode cK_rooted 92 = .ok (.aload_n 3, 1) := by decide +kernel
theorem dK_rooted_93 : decode cK_rooted 93 = .ok (.areturn, 1) := by decide +kernel
abbrev cK_improve : ByteArray := prog_3_method_9_code
abbrev yK_improve : MethodName := ⟨"WholeDesk$Reckoner", "improve", "(LWholeDesk$Whole;ILWholeDesk$Whole;LWholeDesk$Whole;)V"⟩
theorem qK_improve : yK_improve.cls ≠ "java/lang/invoke/MethodHandle" ∧ yK_improve.cls ≠ "java/lang/invoke/VarHandle" ∧ (parseMethodDescriptor yK_improve.desc).map (fun d => d.parameters.length) = some 4 := by decide +kernel
theorem dK_improve_0 : decode cK_improve 0 = .ok (.aload_n 0, 1) := by decide +kernel
theorem dK_improve_1 : decode cK_improve 1 = .ok (.getfield 18, 3) := by decide +kernel
theorem dK_improve_4 : decode cK_improve 4 = .ok (.aload_n 1, 1) := by decide +kernel
theorem dK_improve_5 : decode cK_improve 5 = .ok (.invokevirtual 47, 3) := by decide +kernel
theorem dK_improve_8 : decode cK_improve 8 = .ok (.aload_n 0, 1) := by decide +kernel
theorem dK_improve_9 : decode cK_improve 9 = .ok (.getfield 18, 3) := by decide +kernel
theorem dK_improve_12 : decode cK_improve 12 = .ok (.aload_n 0, 1) := by decide +kernel
theorem dK_improve_13 : decode cK_improve 13 = .ok (.aload_n 3, 1) := by decide +kernel
theorem dK_improve_14 : decode cK_improve 14 = .ok (.iload_n 2, 1) := by decide +kernel
theorem dK_improve_15 : decode cK_improve 15 = .ok (.iconst 1, 1) := by decide +kernel
theorem dK_improve_16 : decode cK_improve 16 = .ok (.isub, 1) := by decide +kernel
theorem dK_improve_17 : decode cK_improve 17 = .ok (.invokevirtual 106, 3) := by decide +kernel
theorem dK_improve_20 : decode cK_improve 20 = .ok (.aload 4, 2) := by decide +kernel
theorem dK_improve_22 : decode cK_improve 22 = .ok (.invokevirtual 85, 3) := by decide +kernel
theorem dK_improve_25 : decode cK_improve 25 = .ok (.aload 4, 2) := by decide +kernel
theorem dK_improve_27 : decode cK_improve 27 = .ok (.aload 4, 2) := by decide +kernel
theorem dK_improve_29 : decode cK_improve 29 = .ok (.getfield 51, 3) := by decide +kernel
theorem dK_improve_32 : decode cK_improve 32 = .ok (.aload_n 3, 1) := by decide +kernel
theorem dK_improve_33 : decode cK_improve 33 = .ok (.getfield 51, 3) := by decide +kernel
theorem dK_improve_36 : decode cK_improve 36 = .ok (.invokestatic 55, 3) := by decide +kernel
theorem dK_improve_39 : decode cK_improve 39 = .ok (.iconst 1, 1) := by decide +kernel
theorem dK_improve_40 : decode cK_improve 40 = .ok (.iadd, 1) := by decide +kernel
theorem dK_improve_41 : decode cK_improve 41 = .ok (.invokevirtual 61, 3) := by decide +kernel
theorem dK_improve_44 : decode cK_improve 44 = .ok (.aload 4, 2) := by decide +kernel
theorem dK_improve_46 : decode cK_improve 46 = .ok (.aload_n 3, 1) := by decide +kernel
theorem dK_improve_47 : decode cK_improve 47 = .ok (.iload_n 2, 1) := by decide +kernel
theorem dK_improve_48 : decode cK_improve 48 = .ok (.iconst 1, 1) := by decide +kernel
theorem dK_improve_49 : decode cK_improve 49 = .ok (.isub, 1) := by decide +kernel
theorem dK_improve_50 : decode cK_improve 50 = .ok (.i2l, 1) := by decide +kernel
theorem dK_improve_51 : decode cK_improve 51 = .ok (.iconst 0, 1) := by decide +kernel
theorem dK_improve_52 : decode cK_improve 52 = .ok (.invokevirtual 65, 3) := by decide +kernel
theorem dK_improve_55 : decode cK_improve 55 = .ok (.pop2, 1) := by decide +kernel
theorem dK_improve_56 : decode cK_improve 56 = .ok (.aload 4, 2) := by decide +kernel
theorem dK_improve_58 : decode cK_improve 58 = .ok (.iload_n 2, 1) := by decide +kernel
theorem dK_improve_59 : decode cK_improve 59 = .ok (.i2l, 1) := by decide +kernel
theorem dK_improve_60 : decode cK_improve 60 = .ok (.invokevirtual 110, 3) := by decide +kernel
theorem dK_improve_63 : decode cK_improve 63 = .ok (.pop2, 1) := by decide +kernel
theorem dK_improve_64 : decode cK_improve 64 = .ok (.return_, 1) := by decide +kernel
abbrev cK_shared : ByteArray := prog_3_method_10_code
abbrev yK_shared : MethodName := ⟨"WholeDesk$Reckoner", "shared", "(LWholeDesk$Whole;LWholeDesk$Whole;)LWholeDesk$Whole;"⟩
theorem qK_shared : yK_shared.cls ≠ "java/lang/invoke/MethodHandle" ∧ yK_shared.cls ≠ "java/lang/invoke/VarHandle" ∧ (parseMethodDescriptor yK_shared.desc).map (fun d => d.parameters.length) = some 2 := by decide +kernel
theorem dK_shared_0 : decode cK_shared 0 = .ok (.aload_n 0, 1) := by decide +kernel
theorem dK_shared_1 : decode cK_shared 1 = .ok (.getfield 27, 3) := by decide +kernel
theorem dK_shared_4 : decode cK_shared 4 = .ok (.astore_n 3, 1) := by decide +kernel
theorem dK_shared_5 : decode cK_shared 5 = .ok (.aload_n 0, 1) := by decide +kernel
theorem dK_shared_6 : decode cK_shared 6 = .ok (.getfield 30, 3) := by decide +kernel
theorem dK_shared_9 : decode cK_shared 9 = .ok (.astore 4, 2) := by decide +kernel
theorem dK_shared_11 : decode cK_shared 11 = .ok (.aload_n 3, 1) := by decide +kernel
theorem dK_shared_12 : decode cK_shared 12 = .ok (.aload_n 1, 1) := by decide +kernel
theorem dK_shared_13 : decode cK_shared 13 = .ok (.invokevirtual 47, 3) := by decide +kernel
theorem dK_shared_16 : decode cK_shared 16 = .ok (.aload 4, 2) := by decide +kernel
theorem dK_shared_18 : decode cK_shared 18 = .ok (.aload_n 2, 1) := by decide +kernel
theorem dK_shared_19 : decode cK_shared 19 = .ok (.invokevirtual 47, 3) := by decide +kernel
theorem dK_shared_22 : decode cK_shared 22 = .ok (.iconst 0, 1) := by decide +kernel
theorem dK_shared_23 : decode cK_shared 23 = .ok (.istore 5, 2) := by decide +kernel
theorem dK_shared_25 : decode cK_shared 25 = .ok (.iload 5, 2) := by decide +kernel
theorem dK_shared_27 : decode cK_shared 27 = .ok (.sipush 4096, 3) := by decide +kernel
theorem dK_shared_30 : decode cK_shared 30 = .ok (.if_icmp .ge 37, 3) := by decide +kernel
theorem dK_shared_33 : decode cK_shared 33 = .ok (.aload 4, 2) := by decide +kernel
theorem dK_shared_35 : decode cK_shared 35 = .ok (.getfield 51, 3) := by decide +kernel
theorem dK_shared_38 : decode cK_shared 38 = .ok (.ifCond .le 29, 3) := by decide +kernel
theorem dK_shared_41 : decode cK_shared 41 = .ok (.aload_n 3, 1) := by decide +kernel
theorem dK_shared_42 : decode cK_shared 42 = .ok (.aload 4, 2) := by decide +kernel
theorem dK_shared_44 : decode cK_shared 44 = .ok (.aload_n 0, 1) := by decide +kernel
theorem dK_shared_45 : decode cK_shared 45 = .ok (.getfield 12, 3) := by decide +kernel
theorem dK_shared_48 : decode cK_shared 48 = .ok (.invokevirtual 85, 3) := by decide +kernel
theorem dK_shared_51 : decode cK_shared 51 = .ok (.aload_n 3, 1) := by decide +kernel
theorem dK_shared_52 : decode cK_shared 52 = .ok (.astore 6, 2) := by decide +kernel
theorem dK_shared_54 : decode cK_shared 54 = .ok (.aload 4, 2) := by decide +kernel
theorem dK_shared_56 : decode cK_shared 56 = .ok (.astore_n 3, 1) := by decide +kernel
theorem dK_shared_57 : decode cK_shared 57 = .ok (.aload 6, 2) := by decide +kernel
theorem dK_shared_59 : decode cK_shared 59 = .ok (.astore 4, 2) := by decide +kernel
theorem dK_shared_61 : decode cK_shared 61 = .ok (.iinc 5 1, 3) := by decide +kernel
theorem dK_shared_64 : decode cK_shared 64 = .ok (.goto (-39), 3) := by decide +kernel
theorem dK_shared_67 : decode cK_shared 67 = .ok (.aload_n 3, 1) := by decide +kernel
theorem dK_shared_68 : decode cK_shared 68 = .ok (.iconst 0, 1) := by decide +kernel
theorem dK_shared_69 : decode cK_shared 69 = .ok (.putfield 43, 3) := by decide +kernel
theorem dK_shared_72 : decode cK_shared 72 = .ok (.aload_n 3, 1) := by decide +kernel
theorem dK_shared_73 : decode cK_shared 73 = .ok (.areturn, 1) := by decide +kernel
abbrev cK_inverted : ByteArray := prog_3_method_11_code
abbrev yK_inverted : MethodName := ⟨"WholeDesk$Reckoner", "inverted", "(LWholeDesk$Whole;LWholeDesk$Whole;)LWholeDesk$Whole;"⟩
theorem qK_inverted : yK_inverted.cls ≠ "java/lang/invoke/MethodHandle" ∧ yK_inverted.cls ≠ "java/lang/invoke/VarHandle" ∧ (parseMethodDescriptor yK_inverted.desc).map (fun d => d.parameters.length) = some 2 := by decide +kernel
theorem dK_inverted_0 : decode cK_inverted 0 = .ok (.aload_n 0, 1) := by decide +kernel
theorem dK_inverted_1 : decode cK_inverted 1 = .ok (.getfield 27, 3) := by decide +kernel
theorem dK_inverted_4 : decode cK_inverted 4 = .ok (.astore_n 3, 1) := by decide +kernel
theorem dK_inverted_5 : decode cK_inverted 5 = .ok (.aload_n 0, 1) := by decide +kernel
theorem dK_inverted_6 : decode cK_inverted 6 = .ok (.getfield 30, 3) := by decide +kernel
theorem dK_inverted_9 : decode cK_inverted 9 = .ok (.astore 4, 2) := by decide +kernel
theorem dK_inverted_11 : decode cK_inverted 11 = .ok (.aload_n 0, 1) := by decide +kernel
theorem dK_inverted_12 : decode cK_inverted 12 = .ok (.getfield 33, 3) := by decide +kernel
theorem dK_inverted_15 : decode cK_inverted 15 = .ok (.astore 5, 2) := by decide +kernel
theorem dK_inverted_17 : decode cK_inverted 17 = .ok (.aload_n 0, 1) := by decide +kernel
theorem dK_inverted_18 : decode cK_inverted 18 = .ok (.getfield 36, 3) := by decide +kernel
theorem dK_inverted_21 : decode cK_inverted 21 = .ok (.astore 6, 2) := by decide +kernel
theorem dK_inverted_23 : decode cK_inverted 23 = .ok (.aload_n 3, 1) := by decide +kernel
theorem dK_inverted_24 : decode cK_inverted 24 = .ok (.aload_n 2, 1) := by decide +kernel
theorem dK_inverted_25 : decode cK_inverted 25 = .ok (.invokevirtual 47, 3) := by decide +kernel
theorem dK_inverted_28 : decode cK_inverted 28 = .ok (.aload 4, 2) := by decide +kernel
theorem dK_inverted_30 : decode cK_inverted 30 = .ok (.aload_n 0, 1) := by decide +kernel
theorem dK_inverted_31 : decode cK_inverted 31 = .ok (.aload_n 1, 1) := by decide +kernel
theorem dK_inverted_32 : decode cK_inverted 32 = .ok (.aload_n 2, 1) := by decide +kernel
theorem dK_inverted_33 : decode cK_inverted 33 = .ok (.invokevirtual 114, 3) := by decide +kernel
theorem dK_inverted_36 : decode cK_inverted 36 = .ok (.invokevirtual 47, 3) := by decide +kernel
theorem dK_inverted_39 : decode cK_inverted 39 = .ok (.aload 5, 2) := by decide +kernel
theorem dK_inverted_41 : decode cK_inverted 41 = .ok (.lconst 0, 1) := by decide +kernel
theorem dK_inverted_42 : decode cK_inverted 42 = .ok (.invokevirtual 88, 3) := by decide +kernel
theorem dK_inverted_45 : decode cK_inverted 45 = .ok (.aload 6, 2) := by decide +kernel
theorem dK_inverted_47 : decode cK_inverted 47 = .ok (.lconst 1, 1) := by decide +kernel
theorem dK_inverted_48 : decode cK_inverted 48 = .ok (.invokevirtual 88, 3) := by decide +kernel
theorem dK_inverted_51 : decode cK_inverted 51 = .ok (.iconst 1, 1) := by decide +kernel
theorem dK_inverted_52 : decode cK_inverted 52 = .ok (.istore 7, 2) := by decide +kernel
theorem dK_inverted_54 : decode cK_inverted 54 = .ok (.iconst 0, 1) := by decide +kernel
theorem dK_inverted_55 : decode cK_inverted 55 = .ok (.istore 8, 2) := by decide +kernel
theorem dK_inverted_57 : decode cK_inverted 57 = .ok (.iload 8, 2) := by decide +kernel
theorem dK_inverted_59 : decode cK_inverted 59 = .ok (.sipush 4096, 3) := by decide +kernel
theorem dK_inverted_62 : decode cK_inverted 62 = .ok (.if_icmp .ge 72, 3) := by decide +kernel
theorem dK_inverted_65 : decode cK_inverted 65 = .ok (.aload 4, 2) := by decide +kernel
theorem dK_inverted_67 : decode cK_inverted 67 = .ok (.getfield 51, 3) := by decide +kernel
theorem dK_inverted_70 : decode cK_inverted 70 = .ok (.ifCond .le 64, 3) := by decide +kernel
theorem dK_inverted_73 : decode cK_inverted 73 = .ok (.aload_n 3, 1) := by decide +kernel
theorem dK_inverted_74 : decode cK_inverted 74 = .ok (.aload 4, 2) := by decide +kernel
theorem dK_inverted_76 : decode cK_inverted 76 = .ok (.aload_n 0, 1) := by decide +kernel
theorem dK_inverted_77 : decode cK_inverted 77 = .ok (.getfield 12, 3) := by decide +kernel
theorem dK_inverted_80 : decode cK_inverted 80 = .ok (.invokevirtual 85, 3) := by decide +kernel
theorem dK_inverted_83 : decode cK_inverted 83 = .ok (.aload 5, 2) := by decide +kernel
theorem dK_inverted_85 : decode cK_inverted 85 = .ok (.aload_n 0, 1) := by decide +kernel
theorem dK_inverted_86 : decode cK_inverted 86 = .ok (.getfield 12, 3) := by decide +kernel
theorem dK_inverted_89 : decode cK_inverted 89 = .ok (.aload 6, 2) := by decide +kernel
theorem dK_inverted_91 : decode cK_inverted 91 = .ok (.invokevirtual 118, 3) := by decide +kernel
theorem dK_inverted_94 : decode cK_inverted 94 = .ok (.aload_n 3, 1) := by decide +kernel
theorem dK_inverted_95 : decode cK_inverted 95 = .ok (.astore 9, 2) := by decide +kernel
theorem dK_inverted_97 : decode cK_inverted 97 = .ok (.aload 4, 2) := by decide +kernel
theorem dK_inverted_99 : decode cK_inverted 99 = .ok (.astore_n 3, 1) := by decide +kernel
theorem dK_inverted_100 : decode cK_inverted 100 = .ok (.aload 9, 2) := by decide +kernel
theorem dK_inverted_102 : decode cK_inverted 102 = .ok (.astore 4, 2) := by decide +kernel
theorem dK_inverted_104 : decode cK_inverted 104 = .ok (.aload 5, 2) := by decide +kernel
theorem dK_inverted_106 : decode cK_inverted 106 = .ok (.astore 10, 2) := by decide +kernel
theorem dK_inverted_108 : decode cK_inverted 108 = .ok (.aload 6, 2) := by decide +kernel
theorem dK_inverted_110 : decode cK_inverted 110 = .ok (.astore 5, 2) := by decide +kernel
theorem dK_inverted_112 : decode cK_inverted 112 = .ok (.aload 10, 2) := by decide +kernel
theorem dK_inverted_114 : decode cK_inverted 114 = .ok (.astore 6, 2) := by decide +kernel
theorem dK_inverted_116 : decode cK_inverted 116 = .ok (.iload 7, 2) := by decide +kernel
theorem dK_inverted_118 : decode cK_inverted 118 = .ok (.ifCond .ne 7, 3) := by decide +kernel
theorem dK_inverted_121 : decode cK_inverted 121 = .ok (.iconst 1, 1) := by decide +kernel
theorem dK_inverted_122 : decode cK_inverted 122 = .ok (.goto 4, 3) := by decide +kernel
theorem dK_inverted_125 : decode cK_inverted 125 = .ok (.iconst 0, 1) := by decide +kernel
theorem dK_inverted_126 : decode cK_inverted 126 = .ok (.istore 7, 2) := by decide +kernel
theorem dK_inverted_128 : decode cK_inverted 128 = .ok (.iinc 8 1, 3) := by decide +kernel
theorem dK_inverted_131 : decode cK_inverted 131 = .ok (.goto (-74), 3) := by decide +kernel
theorem dK_inverted_134 : decode cK_inverted 134 = .ok (.aload_n 3, 1) := by decide +kernel
theorem dK_inverted_135 : decode cK_inverted 135 = .ok (.invokevirtual 121, 3) := by decide +kernel
theorem dK_inverted_138 : decode cK_inverted 138 = .ok (.ifCond .ne 13, 3) := by decide +kernel
theorem dK_inverted_141 : decode cK_inverted 141 = .ok (.new 125, 3) := by decide +kernel
theorem dK_inverted_144 : decode cK_inverted 144 = .ok (.dup, 1) := by decide +kernel
theorem dK_inverted_145 : decode cK_inverted 145 = .ok (.ldc 127, 2) := by decide +kernel
theorem dK_inverted_147 : decode cK_inverted 147 = .ok (.invokespecial 129, 3) := by decide +kernel
theorem dK_inverted_150 : decode cK_inverted 150 = .ok (.athrow, 1) := by decide +kernel
theorem dK_inverted_151 : decode cK_inverted 151 = .ok (.iload 7, 2) := by decide +kernel
theorem dK_inverted_153 : decode cK_inverted 153 = .ok (.ifCond .eq 17, 3) := by decide +kernel
theorem dK_inverted_156 : decode cK_inverted 156 = .ok (.aload 5, 2) := by decide +kernel
theorem dK_inverted_158 : decode cK_inverted 158 = .ok (.getfield 51, 3) := by decide +kernel
theorem dK_inverted_161 : decode cK_inverted 161 = .ok (.ifCond .le 9, 3) := by decide +kernel
theorem dK_inverted_164 : decode cK_inverted 164 = .ok (.aload 5, 2) := by decide +kernel
theorem dK_inverted_166 : decode cK_inverted 166 = .ok (.aload_n 2, 1) := by decide +kernel
theorem dK_inverted_167 : decode cK_inverted 167 = .ok (.invokevirtual 75, 3) := by decide +kernel
theorem dK_inverted_170 : decode cK_inverted 170 = .ok (.aload 5, 2) := by decide +kernel
theorem dK_inverted_172 : decode cK_inverted 172 = .ok (.areturn, 1) := by decide +kernel
abbrev cK_raisedModulo : ByteArray := prog_3_method_12_code
abbrev yK_raisedModulo : MethodName := ⟨"WholeDesk$Reckoner", "raisedModulo", "(LWholeDesk$Whole;LWholeDesk$Whole;LWholeDesk$Whole;)LWholeDesk$Whole;"⟩
theorem qK_raisedModulo : yK_raisedModulo.cls ≠ "java/lang/invoke/MethodHandle" ∧ yK_raisedModulo.cls ≠ "java/lang/invoke/VarHandle" ∧ (parseMethodDescriptor yK_raisedModulo.desc).map (fun d => d.parameters.length) = some 3 := by decide +kernel
theorem dK_raisedModulo_0 : decode cK_raisedModulo 0 = .ok (.aload_n 0, 1) := by decide +kernel
theorem dK_raisedModulo_1 : decode cK_raisedModulo 1 = .ok (.aload_n 2, 1) := by decide +kernel
theorem dK_raisedModulo_2 : decode cK_raisedModulo 2 = .ok (.getfield 43, 3) := by decide +kernel
theorem dK_raisedModulo_5 : decode cK_raisedModulo 5 = .ok (.ifCond .eq 12, 3) := by decide +kernel
theorem dK_raisedModulo_8 : decode cK_raisedModulo 8 = .ok (.aload_n 0, 1) := by decide +kernel
theorem dK_raisedModulo_9 : decode cK_raisedModulo 9 = .ok (.aload_n 1, 1) := by decide +kernel
theorem dK_raisedModulo_10 : decode cK_raisedModulo 10 = .ok (.aload_n 3, 1) := by decide +kernel
theorem dK_raisedModulo_11 : decode cK_raisedModulo 11 = .ok (.invokevirtual 132, 3) := by decide +kernel
theorem dK_raisedModulo_14 : decode cK_raisedModulo 14 = .ok (.goto 9, 3) := by decide +kernel
theorem dK_raisedModulo_17 : decode cK_raisedModulo 17 = .ok (.aload_n 0, 1) := by decide +kernel
theorem dK_raisedModulo_18 : decode cK_raisedModulo 18 = .ok (.aload_n 1, 1) := by decide +kernel
theorem dK_raisedModulo_19 : decode cK_raisedModulo 19 = .ok (.aload_n 3, 1) := by decide +kernel
theorem dK_raisedModulo_20 : decode cK_raisedModulo 20 = .ok (.invokevirtual 114, 3) := by decide +kernel
theorem dK_raisedModulo_23 : decode cK_raisedModulo 23 = .ok (.aload_n 3, 1) := by decide +kernel
theorem dK_raisedModulo_24 : decode cK_raisedModulo 24 = .ok (.invokevirtual 135, 3) := by decide +kernel
theorem dK_raisedModulo_27 : decode cK_raisedModulo 27 = .ok (.aload_n 0, 1) := by decide +kernel
theorem dK_raisedModulo_28 : decode cK_raisedModulo 28 = .ok (.getfield 21, 3) := by decide +kernel
theorem dK_raisedModulo_31 : decode cK_raisedModulo 31 = .ok (.aload_n 0, 1) := by decide +kernel
theorem dK_raisedModulo_32 : decode cK_raisedModulo 32 = .ok (.getfield 39, 3) := by decide +kernel
theorem dK_raisedModulo_35 : decode cK_raisedModulo 35 = .ok (.iconst 0, 1) := by decide +kernel
theorem dK_raisedModulo_36 : decode cK_raisedModulo 36 = .ok (.aaload, 1) := by decide +kernel
theorem dK_raisedModulo_37 : decode cK_raisedModulo 37 = .ok (.invokevirtual 47, 3) := by decide +kernel
theorem dK_raisedModulo_40 : decode cK_raisedModulo 40 = .ok (.aload_n 2, 1) := by decide +kernel
theorem dK_raisedModulo_41 : decode cK_raisedModulo 41 = .ok (.getfield 51, 3) := by decide +kernel
theorem dK_raisedModulo_44 : decode cK_raisedModulo 44 = .ok (.iconst 1, 1) := by decide +kernel
theorem dK_raisedModulo_45 : decode cK_raisedModulo 45 = .ok (.isub, 1) := by decide +kernel
theorem dK_raisedModulo_46 : decode cK_raisedModulo 46 = .ok (.istore 4, 2) := by decide +kernel
theorem dK_raisedModulo_48 : decode cK_raisedModulo 48 = .ok (.iload 4, 2) := by decide +kernel
theorem dK_raisedModulo_50 : decode cK_raisedModulo 50 = .ok (.ifCond .lt 80, 3) := by decide +kernel
theorem dK_raisedModulo_53 : decode cK_raisedModulo 53 = .ok (.bipush 24, 2) := by decide +kernel
theorem dK_raisedModulo_55 : decode cK_raisedModulo 55 = .ok (.istore 5, 2) := by decide +kernel
theorem dK_raisedModulo_57 : decode cK_raisedModulo 57 = .ok (.iload 5, 2) := by decide +kernel
theorem dK_raisedModulo_59 : decode cK_raisedModulo 59 = .ok (.ifCond .lt 65, 3) := by decide +kernel
theorem dK_raisedModulo_62 : decode cK_raisedModulo 62 = .ok (.iconst 0, 1) := by decide +kernel
theorem dK_raisedModulo_63 : decode cK_raisedModulo 63 = .ok (.istore 6, 2) := by decide +kernel
theorem dK_raisedModulo_65 : decode cK_raisedModulo 65 = .ok (.iload 6, 2) := by decide +kernel
theorem dK_raisedModulo_67 : decode cK_raisedModulo 67 = .ok (.iconst 4, 1) := by decide +kernel
theorem dK_raisedModulo_68 : decode cK_raisedModulo 68 = .ok (.if_icmp .ge 18, 3) := by decide +kernel
theorem dK_raisedModulo_71 : decode cK_raisedModulo 71 = .ok (.aload_n 0, 1) := by decide +kernel
theorem dK_raisedModulo_72 : decode cK_raisedModulo 72 = .ok (.aload_n 0, 1) := by decide +kernel
theorem dK_raisedModulo_73 : decode cK_raisedModulo 73 = .ok (.getfield 21, 3) := by decide +kernel
theorem dK_raisedModulo_76 : decode cK_raisedModulo 76 = .ok (.aload_n 3, 1) := by decide +kernel
theorem dK_raisedModulo_77 : decode cK_raisedModulo 77 = .ok (.invokevirtual 138, 3) := by decide +kernel
theorem dK_raisedModulo_80 : decode cK_raisedModulo 80 = .ok (.iinc 6 1, 3) := by decide +kernel
theorem dK_raisedModulo_83 : decode cK_raisedModulo 83 = .ok (.goto (-18), 3) := by decide +kernel
theorem dK_raisedModulo_86 : decode cK_raisedModulo 86 = .ok (.aload_n 2, 1) := by decide +kernel
theorem dK_raisedModulo_87 : decode cK_raisedModulo 87 = .ok (.iload 4, 2) := by decide +kernel
theorem dK_raisedModulo_89 : decode cK_raisedModulo 89 = .ok (.invokevirtual 141, 3) := by decide +kernel
theorem dK_raisedModulo_92 : decode cK_raisedModulo 92 = .ok (.iload 5, 2) := by decide +kernel
theorem dK_raisedModulo_94 : decode cK_raisedModulo 94 = .ok (.lushr, 1) := by decide +kernel
theorem dK_raisedModulo_95 : decode cK_raisedModulo 95 = .ok (.l2i, 1) := by decide +kernel
theorem dK_raisedModulo_96 : decode cK_raisedModulo 96 = .ok (.bipush 15, 2) := by decide +kernel
theorem dK_raisedModulo_98 : decode cK_raisedModulo 98 = .ok (.iand, 1) := by decide +kernel
theorem dK_raisedModulo_99 : decode cK_raisedModulo 99 = .ok (.istore 6, 2) := by decide +kernel
theorem dK_raisedModulo_101 : decode cK_raisedModulo 101 = .ok (.iload 6, 2) := by decide +kernel
theorem dK_raisedModulo_103 : decode cK_raisedModulo 103 = .ok (.ifCond .eq 15, 3) := by decide +kernel
theorem dK_raisedModulo_106 : decode cK_raisedModulo 106 = .ok (.aload_n 0, 1) := by decide +kernel
theorem dK_raisedModulo_107 : decode cK_raisedModulo 107 = .ok (.aload_n 0, 1) := by decide +kernel
theorem dK_raisedModulo_108 : decode cK_raisedModulo 108 = .ok (.getfield 39, 3) := by decide +kernel
theorem dK_raisedModulo_111 : decode cK_raisedModulo 111 = .ok (.iload 6, 2) := by decide +kernel
theorem dK_raisedModulo_113 : decode cK_raisedModulo 113 = .ok (.aaload, 1) := by decide +kernel
theorem dK_raisedModulo_114 : decode cK_raisedModulo 114 = .ok (.aload_n 3, 1) := by decide +kernel
theorem dK_raisedModulo_115 : decode cK_raisedModulo 115 = .ok (.invokevirtual 138, 3) := by decide +kernel
theorem dK_raisedModulo_118 : decode cK_raisedModulo 118 = .ok (.iinc 5 (-4), 3) := by decide +kernel
theorem dK_raisedModulo_121 : decode cK_raisedModulo 121 = .ok (.goto (-64), 3) := by decide +kernel
theorem dK_raisedModulo_124 : decode cK_raisedModulo 124 = .ok (.iinc 4 (-1), 3) := by decide +kernel
theorem dK_raisedModulo_127 : decode cK_raisedModulo 127 = .ok (.goto (-79), 3) := by decide +kernel
theorem dK_raisedModulo_130 : decode cK_raisedModulo 130 = .ok (.aload_n 0, 1) := by decide +kernel
theorem dK_raisedModulo_131 : decode cK_raisedModulo 131 = .ok (.getfield 21, 3) := by decide +kernel
theorem dK_raisedModulo_134 : decode cK_raisedModulo 134 = .ok (.areturn, 1) := by decide +kernel
abbrev cK_fillPowers : ByteArray := prog_3_method_13_code
abbrev yK_fillPowers : MethodName := ⟨"WholeDesk$Reckoner", "fillPowers", "(LWholeDesk$Whole;LWholeDesk$Whole;)V"⟩
theorem qK_fillPowers : yK_fillPowers.cls ≠ "java/lang/invoke/MethodHandle" ∧ yK_fillPowers.cls ≠ "java/lang/invoke/VarHandle" ∧ (parseMethodDescriptor yK_fillPowers.desc).map (fun d => d.parameters.length) = some 2 := by decide +kernel
theorem dK_fillPowers_0 : decode cK_fillPowers 0 = .ok (.aload_n 0, 1) := by decide +kernel
theorem dK_fillPowers_1 : decode cK_fillPowers 1 = .ok (.getfield 27, 3) := by decide +kernel
theorem dK_fillPowers_4 : decode cK_fillPowers 4 = .ok (.aload_n 1, 1) := by decide +kernel
theorem dK_fillPowers_5 : decode cK_fillPowers 5 = .ok (.invokevirtual 47, 3) := by decide +kernel
theorem dK_fillPowers_8 : decode cK_fillPowers 8 = .ok (.aload_n 0, 1) := by decide +kernel
theorem dK_fillPowers_9 : decode cK_fillPowers 9 = .ok (.getfield 21, 3) := by decide +kernel
theorem dK_fillPowers_12 : decode cK_fillPowers 12 = .ok (.lconst 1, 1) := by decide +kernel
theorem dK_fillPowers_13 : decode cK_fillPowers 13 = .ok (.invokevirtual 88, 3) := by decide +kernel
theorem dK_fillPowers_16 : decode cK_fillPowers 16 = .ok (.aload_n 0, 1) := by decide +kernel
theorem dK_fillPowers_17 : decode cK_fillPowers 17 = .ok (.getfield 21, 3) := by decide +kernel
theorem dK_fillPowers_20 : decode cK_fillPowers 20 = .ok (.aload_n 2, 1) := by decide +kernel
theorem dK_fillPowers_21 : decode cK_fillPowers 21 = .ok (.aload_n 0, 1) := by decide +kernel
theorem dK_fillPowers_22 : decode cK_fillPowers 22 = .ok (.getfield 12, 3) := by decide +kernel
theorem dK_fillPowers_25 : decode cK_fillPowers 25 = .ok (.invokevirtual 85, 3) := by decide +kernel
theorem dK_fillPowers_28 : decode cK_fillPowers 28 = .ok (.aload_n 0, 1) := by decide +kernel
theorem dK_fillPowers_29 : decode cK_fillPowers 29 = .ok (.getfield 39, 3) := by decide +kernel
theorem dK_fillPowers_32 : decode cK_fillPowers 32 = .ok (.iconst 0, 1) := by decide +kernel
theorem dK_fillPowers_33 : decode cK_fillPowers 33 = .ok (.aaload, 1) := by decide +kernel
theorem dK_fillPowers_34 : decode cK_fillPowers 34 = .ok (.aload_n 0, 1) := by decide +kernel
theorem dK_fillPowers_35 : decode cK_fillPowers 35 = .ok (.getfield 21, 3) := by decide +kernel
theorem dK_fillPowers_38 : decode cK_fillPowers 38 = .ok (.invokevirtual 47, 3) := by decide +kernel
theorem dK_fillPowers_41 : decode cK_fillPowers 41 = .ok (.iconst 1, 1) := by decide +kernel
theorem dK_fillPowers_42 : decode cK_fillPowers 42 = .ok (.istore_n 3, 1) := by decide +kernel
theorem dK_fillPowers_43 : decode cK_fillPowers 43 = .ok (.iload_n 3, 1) := by decide +kernel
theorem dK_fillPowers_44 : decode cK_fillPowers 44 = .ok (.bipush 16, 2) := by decide +kernel
theorem dK_fillPowers_46 : decode cK_fillPowers 46 = .ok (.if_icmp .ge 31, 3) := by decide +kernel
theorem dK_fillPowers_49 : decode cK_fillPowers 49 = .ok (.aload_n 0, 1) := by decide +kernel
theorem dK_fillPowers_50 : decode cK_fillPowers 50 = .ok (.aload_n 0, 1) := by decide +kernel
theorem dK_fillPowers_51 : decode cK_fillPowers 51 = .ok (.getfield 27, 3) := by decide +kernel
theorem dK_fillPowers_54 : decode cK_fillPowers 54 = .ok (.aload_n 2, 1) := by decide +kernel
theorem dK_fillPowers_55 : decode cK_fillPowers 55 = .ok (.invokevirtual 138, 3) := by decide +kernel
theorem dK_fillPowers_58 : decode cK_fillPowers 58 = .ok (.aload_n 0, 1) := by decide +kernel
theorem dK_fillPowers_59 : decode cK_fillPowers 59 = .ok (.getfield 39, 3) := by decide +kernel
theorem dK_fillPowers_62 : decode cK_fillPowers 62 = .ok (.iload_n 3, 1) := by decide +kernel
theorem dK_fillPowers_63 : decode cK_fillPowers 63 = .ok (.aaload, 1) := by decide +kernel
theorem dK_fillPowers_64 : decode cK_fillPowers 64 = .ok (.aload_n 0, 1) := by decide +kernel
theorem dK_fillPowers_65 : decode cK_fillPowers 65 = .ok (.getfield 21, 3) := by decide +kernel
theorem dK_fillPowers_68 : decode cK_fillPowers 68 = .ok (.invokevirtual 47, 3) := by decide +kernel
theorem dK_fillPowers_71 : decode cK_fillPowers 71 = .ok (.iinc 3 1, 3) := by decide +kernel
theorem dK_fillPowers_74 : decode cK_fillPowers 74 = .ok (.goto (-31), 3) := by decide +kernel
theorem dK_fillPowers_77 : decode cK_fillPowers 77 = .ok (.return_, 1) := by decide +kernel
abbrev cK_timesModulo : ByteArray := prog_3_method_14_code
abbrev yK_timesModulo : MethodName := ⟨"WholeDesk$Reckoner", "timesModulo", "(LWholeDesk$Whole;LWholeDesk$Whole;)V"⟩
theorem qK_timesModulo : yK_timesModulo.cls ≠ "java/lang/invoke/MethodHandle" ∧ yK_timesModulo.cls ≠ "java/lang/invoke/VarHandle" ∧ (parseMethodDescriptor yK_timesModulo.desc).map (fun d => d.parameters.length) = some 2 := by decide +kernel
theorem dK_timesModulo_0 : decode cK_timesModulo 0 = .ok (.aload_n 0, 1) := by decide +kernel
theorem dK_timesModulo_1 : decode cK_timesModulo 1 = .ok (.aload_n 1, 1) := by decide +kernel
theorem dK_timesModulo_2 : decode cK_timesModulo 2 = .ok (.invokevirtual 92, 3) := by decide +kernel
theorem dK_timesModulo_5 : decode cK_timesModulo 5 = .ok (.aload_n 0, 1) := by decide +kernel
theorem dK_timesModulo_6 : decode cK_timesModulo 6 = .ok (.getfield 21, 3) := by decide +kernel
theorem dK_timesModulo_9 : decode cK_timesModulo 9 = .ok (.aload_n 2, 1) := by decide +kernel
theorem dK_timesModulo_10 : decode cK_timesModulo 10 = .ok (.aload_n 0, 1) := by decide +kernel
theorem dK_timesModulo_11 : decode cK_timesModulo 11 = .ok (.getfield 12, 3) := by decide +kernel
theorem dK_timesModulo_14 : decode cK_timesModulo 14 = .ok (.invokevirtual 85, 3) := by decide +kernel
theorem dK_timesModulo_17 : decode cK_timesModulo 17 = .ok (.return_, 1) := by decide +kernel
abbrev cK_combined : ByteArray := prog_3_method_15_code
abbrev yK_combined : MethodName := ⟨"WholeDesk$Reckoner", "combined", "(LWholeDesk$Whole;LWholeDesk$Whole;I)LWholeDesk$Whole;"⟩
theorem qK_combined : yK_combined.cls ≠ "java/lang/invoke/MethodHandle" ∧ yK_combined.cls ≠ "java/lang/invoke/VarHandle" ∧ (parseMethodDescriptor yK_combined.desc).map (fun d => d.parameters.length) = some 3 := by decide +kernel
theorem dK_combined_0 : decode cK_combined 0 = .ok (.aload_n 1, 1) := by decide +kernel
theorem dK_combined_1 : decode cK_combined 1 = .ok (.getfield 51, 3) := by decide +kernel
theorem dK_combined_4 : decode cK_combined 4 = .ok (.aload_n 2, 1) := by decide +kernel
theorem dK_combined_5 : decode cK_combined 5 = .ok (.getfield 51, 3) := by decide +kernel
theorem dK_combined_8 : decode cK_combined 8 = .ok (.invokestatic 55, 3) := by decide +kernel
theorem dK_combined_11 : decode cK_combined 11 = .ok (.istore 4, 2) := by decide +kernel
theorem dK_combined_13 : decode cK_combined 13 = .ok (.aload_n 1, 1) := by decide +kernel
theorem dK_combined_14 : decode cK_combined 14 = .ok (.iload 4, 2) := by decide +kernel
theorem dK_combined_16 : decode cK_combined 16 = .ok (.iconst 1, 1) := by decide +kernel
theorem dK_combined_17 : decode cK_combined 17 = .ok (.iadd, 1) := by decide +kernel
theorem dK_combined_18 : decode cK_combined 18 = .ok (.aload_n 0, 1) := by decide +kernel
theorem dK_combined_19 : decode cK_combined 19 = .ok (.getfield 21, 3) := by decide +kernel
theorem dK_combined_22 : decode cK_combined 22 = .ok (.invokestatic 145, 3) := by decide +kernel
theorem dK_combined_25 : decode cK_combined 25 = .ok (.aload_n 2, 1) := by decide +kernel
theorem dK_combined_26 : decode cK_combined 26 = .ok (.iload 4, 2) := by decide +kernel
theorem dK_combined_28 : decode cK_combined 28 = .ok (.iconst 1, 1) := by decide +kernel
theorem dK_combined_29 : decode cK_combined 29 = .ok (.iadd, 1) := by decide +kernel
theorem dK_combined_30 : decode cK_combined 30 = .ok (.aload_n 0, 1) := by decide +kernel
theorem dK_combined_31 : decode cK_combined 31 = .ok (.getfield 24, 3) := by decide +kernel
theorem dK_combined_34 : decode cK_combined 34 = .ok (.invokestatic 145, 3) := by decide +kernel
theorem dK_combined_37 : decode cK_combined 37 = .ok (.iconst 0, 1) := by decide +kernel
theorem dK_combined_38 : decode cK_combined 38 = .ok (.istore 5, 2) := by decide +kernel
theorem dK_combined_40 : decode cK_combined 40 = .ok (.iload 5, 2) := by decide +kernel
theorem dK_combined_42 : decode cK_combined 42 = .ok (.aload_n 0, 1) := by decide +kernel
theorem dK_combined_43 : decode cK_combined 43 = .ok (.getfield 21, 3) := by decide +kernel
theorem dK_combined_46 : decode cK_combined 46 = .ok (.getfield 51, 3) := by decide +kernel
theorem dK_combined_49 : decode cK_combined 49 = .ok (.if_icmp .ge 42, 3) := by decide +kernel
theorem dK_combined_52 : decode cK_combined 52 = .ok (.aload_n 0, 1) := by decide +kernel
theorem dK_combined_53 : decode cK_combined 53 = .ok (.getfield 21, 3) := by decide +kernel
theorem dK_combined_56 : decode cK_combined 56 = .ok (.getfield 149, 3) := by decide +kernel
theorem dK_combined_59 : decode cK_combined 59 = .ok (.iload 5, 2) := by decide +kernel
theorem dK_combined_61 : decode cK_combined 61 = .ok (.aload_n 0, 1) := by decide +kernel
theorem dK_combined_62 : decode cK_combined 62 = .ok (.getfield 21, 3) := by decide +kernel
theorem dK_combined_65 : decode cK_combined 65 = .ok (.getfield 149, 3) := by decide +kernel
theorem dK_combined_68 : decode cK_combined 68 = .ok (.iload 5, 2) := by decide +kernel
theorem dK_combined_70 : decode cK_combined 70 = .ok (.laload, 1) := by decide +kernel
theorem dK_combined_71 : decode cK_combined 71 = .ok (.aload_n 0, 1) := by decide +kernel
theorem dK_combined_72 : decode cK_combined 72 = .ok (.getfield 24, 3) := by decide +kernel
theorem dK_combined_75 : decode cK_combined 75 = .ok (.iload 5, 2) := by decide +kernel
theorem dK_combined_77 : decode cK_combined 77 = .ok (.invokevirtual 141, 3) := by decide +kernel
theorem dK_combined_80 : decode cK_combined 80 = .ok (.iload_n 3, 1) := by decide +kernel
theorem dK_combined_81 : decode cK_combined 81 = .ok (.invokestatic 153, 3) := by decide +kernel
theorem dK_combined_84 : decode cK_combined 84 = .ok (.lastore, 1) := by decide +kernel
theorem dK_combined_85 : decode cK_combined 85 = .ok (.iinc 5 1, 3) := by decide +kernel
theorem dK_combined_88 : decode cK_combined 88 = .ok (.goto (-48), 3) := by decide +kernel
theorem dK_combined_91 : decode cK_combined 91 = .ok (.aload_n 0, 1) := by decide +kernel
theorem dK_combined_92 : decode cK_combined 92 = .ok (.getfield 21, 3) := by decide +kernel
theorem dK_combined_95 : decode cK_combined 95 = .ok (.aload_n 0, 1) := by decide +kernel
theorem dK_combined_96 : decode cK_combined 96 = .ok (.getfield 21, 3) := by decide +kernel
theorem dK_combined_99 : decode cK_combined 99 = .ok (.iload 4, 2) := by decide +kernel
theorem dK_combined_101 : decode cK_combined 101 = .ok (.invokevirtual 141, 3) := by decide +kernel
theorem dK_combined_104 : decode cK_combined 104 = .ok (.lconst 0, 1) := by decide +kernel
theorem dK_combined_105 : decode cK_combined 105 = .ok (.lcmp, 1) := by decide +kernel
theorem dK_combined_106 : decode cK_combined 106 = .ok (.ifCond .eq 7, 3) := by decide +kernel
theorem dK_combined_109 : decode cK_combined 109 = .ok (.iconst 1, 1) := by decide +kernel
theorem dK_combined_110 : decode cK_combined 110 = .ok (.goto 4, 3) := by decide +kernel
theorem dK_combined_113 : decode cK_combined 113 = .ok (.iconst 0, 1) := by decide +kernel
theorem dK_combined_114 : decode cK_combined 114 = .ok (.putfield 43, 3) := by decide +kernel
theorem dK_combined_117 : decode cK_combined 117 = .ok (.aload_n 0, 1) := by decide +kernel
theorem dK_combined_118 : decode cK_combined 118 = .ok (.getfield 21, 3) := by decide +kernel
theorem dK_combined_121 : decode cK_combined 121 = .ok (.getfield 43, 3) := by decide +kernel
theorem dK_combined_124 : decode cK_combined 124 = .ok (.ifCond .eq 10, 3) := by decide +kernel
theorem dK_combined_127 : decode cK_combined 127 = .ok (.aload_n 0, 1) := by decide +kernel
theorem dK_combined_128 : decode cK_combined 128 = .ok (.getfield 21, 3) := by decide +kernel
theorem dK_combined_131 : decode cK_combined 131 = .ok (.invokevirtual 157, 3) := by decide +kernel
theorem dK_combined_134 : decode cK_combined 134 = .ok (.aload_n 0, 1) := by decide +kernel
theorem dK_combined_135 : decode cK_combined 135 = .ok (.getfield 21, 3) := by decide +kernel
theorem dK_combined_138 : decode cK_combined 138 = .ok (.invokevirtual 78, 3) := by decide +kernel
theorem dK_combined_141 : decode cK_combined 141 = .ok (.aload_n 0, 1) := by decide +kernel
theorem dK_combined_142 : decode cK_combined 142 = .ok (.getfield 21, 3) := by decide +kernel
theorem dK_combined_145 : decode cK_combined 145 = .ok (.areturn, 1) := by decide +kernel
abbrev cK_spread : ByteArray := prog_3_method_16_code
abbrev yK_spread : MethodName := ⟨"WholeDesk$Reckoner", "spread", "(LWholeDesk$Whole;ILWholeDesk$Whole;)V"⟩
theorem qK_spread : yK_spread.cls ≠ "java/lang/invoke/MethodHandle" ∧ yK_spread.cls ≠ "java/lang/invoke/VarHandle" ∧ (parseMethodDescriptor yK_spread.desc).map (fun d => d.parameters.length) = some 3 := by decide +kernel
theorem dK_spread_0 : decode cK_spread 0 = .ok (.aload_n 2, 1) := by decide +kernel
theorem dK_spread_1 : decode cK_spread 1 = .ok (.aload_n 0, 1) := by decide +kernel
theorem dK_spread_2 : decode cK_spread 2 = .ok (.invokevirtual 47, 3) := by decide +kernel
theorem dK_spread_5 : decode cK_spread 5 = .ok (.aload_n 2, 1) := by decide +kernel
theorem dK_spread_6 : decode cK_spread 6 = .ok (.iload_n 1, 1) := by decide +kernel
theorem dK_spread_7 : decode cK_spread 7 = .ok (.invokevirtual 61, 3) := by decide +kernel
theorem dK_spread_10 : decode cK_spread 10 = .ok (.aload_n 0, 1) := by decide +kernel
theorem dK_spread_11 : decode cK_spread 11 = .ok (.getfield 43, 3) := by decide +kernel
theorem dK_spread_14 : decode cK_spread 14 = .ok (.ifCond .eq 7, 3) := by decide +kernel
theorem dK_spread_17 : decode cK_spread 17 = .ok (.aload_n 2, 1) := by decide +kernel
theorem dK_spread_18 : decode cK_spread 18 = .ok (.invokevirtual 157, 3) := by decide +kernel
theorem dK_spread_21 : decode cK_spread 21 = .ok (.return_, 1) := by decide +kernel
abbrev cK_joined : ByteArray := prog_3_method_17_code
abbrev yK_joined : MethodName := ⟨"WholeDesk$Reckoner", "joined", "(JJI)J"⟩
theorem qK_joined : yK_joined.cls ≠ "java/lang/invoke/MethodHandle" ∧ yK_joined.cls ≠ "java/lang/invoke/VarHandle" ∧ (parseMethodDescriptor yK_joined.desc).map (fun d => d.parameters.length) = some 3 := by decide +kernel
theorem dK_joined_0 : decode cK_joined 0 = .ok (.iload 4, 2) := by decide +kernel
theorem dK_joined_2 : decode cK_joined 2 = .ok (.tableswitch 38 0 2 #[26, 30, 34], 26) := by decide +kernel
theorem dK_joined_28 : decode cK_joined 28 = .ok (.lload_n 0, 1) := by decide +kernel
theorem dK_joined_29 : decode cK_joined 29 = .ok (.lload_n 2, 1) := by decide +kernel
theorem dK_joined_30 : decode cK_joined 30 = .ok (.land, 1) := by decide +kernel
theorem dK_joined_31 : decode cK_joined 31 = .ok (.lreturn, 1) := by decide +kernel
theorem dK_joined_32 : decode cK_joined 32 = .ok (.lload_n 0, 1) := by decide +kernel
theorem dK_joined_33 : decode cK_joined 33 = .ok (.lload_n 2, 1) := by decide +kernel
theorem dK_joined_34 : decode cK_joined 34 = .ok (.lor, 1) := by decide +kernel
theorem dK_joined_35 : decode cK_joined 35 = .ok (.lreturn, 1) := by decide +kernel
theorem dK_joined_36 : decode cK_joined 36 = .ok (.lload_n 0, 1) := by decide +kernel
theorem dK_joined_37 : decode cK_joined 37 = .ok (.lload_n 2, 1) := by decide +kernel
theorem dK_joined_38 : decode cK_joined 38 = .ok (.lxor, 1) := by decide +kernel
theorem dK_joined_39 : decode cK_joined 39 = .ok (.lreturn, 1) := by decide +kernel
theorem dK_joined_40 : decode cK_joined 40 = .ok (.lload_n 0, 1) := by decide +kernel
theorem dK_joined_41 : decode cK_joined 41 = .ok (.lload_n 2, 1) := by decide +kernel
theorem dK_joined_42 : decode cK_joined 42 = .ok (.ldc2_w 73, 3) := by decide +kernel
theorem dK_joined_45 : decode cK_joined 45 = .ok (.lxor, 1) := by decide +kernel
theorem dK_joined_46 : decode cK_joined 46 = .ok (.land, 1) := by decide +kernel
theorem dK_joined_47 : decode cK_joined 47 = .ok (.lreturn, 1) := by decide +kernel
abbrev cK_shiftedUp : ByteArray := prog_3_method_18_code
abbrev yK_shiftedUp : MethodName := ⟨"WholeDesk$Reckoner", "shiftedUp", "(LWholeDesk$Whole;I)LWholeDesk$Whole;"⟩
theorem qK_shiftedUp : yK_shiftedUp.cls ≠ "java/lang/invoke/MethodHandle" ∧ yK_shiftedUp.cls ≠ "java/lang/invoke/VarHandle" ∧ (parseMethodDescriptor yK_shiftedUp.desc).map (fun d => d.parameters.length) = some 2 := by decide +kernel
theorem dK_shiftedUp_0 : decode cK_shiftedUp 0 = .ok (.aload_n 0, 1) := by decide +kernel
theorem dK_shiftedUp_1 : decode cK_shiftedUp 1 = .ok (.getfield 21, 3) := by decide +kernel
theorem dK_shiftedUp_4 : decode cK_shiftedUp 4 = .ok (.lconst 0, 1) := by decide +kernel
theorem dK_shiftedUp_5 : decode cK_shiftedUp 5 = .ok (.invokevirtual 88, 3) := by decide +kernel
theorem dK_shiftedUp_8 : decode cK_shiftedUp 8 = .ok (.aload_n 1, 1) := by decide +kernel
theorem dK_shiftedUp_9 : decode cK_shiftedUp 9 = .ok (.getfield 51, 3) := by decide +kernel
theorem dK_shiftedUp_12 : decode cK_shiftedUp 12 = .ok (.ifCond .eq 7, 3) := by decide +kernel
theorem dK_shiftedUp_15 : decode cK_shiftedUp 15 = .ok (.iload_n 2, 1) := by decide +kernel
theorem dK_shiftedUp_16 : decode cK_shiftedUp 16 = .ok (.ifCond .ge 8, 3) := by decide +kernel
theorem dK_shiftedUp_19 : decode cK_shiftedUp 19 = .ok (.aload_n 0, 1) := by decide +kernel
theorem dK_shiftedUp_20 : decode cK_shiftedUp 20 = .ok (.getfield 21, 3) := by decide +kernel
theorem dK_shiftedUp_23 : decode cK_shiftedUp 23 = .ok (.areturn, 1) := by decide +kernel
theorem dK_shiftedUp_24 : decode cK_shiftedUp 24 = .ok (.iload_n 2, 1) := by decide +kernel
theorem dK_shiftedUp_25 : decode cK_shiftedUp 25 = .ok (.bipush 28, 2) := by decide +kernel
theorem dK_shiftedUp_27 : decode cK_shiftedUp 27 = .ok (.idiv, 1) := by decide +kernel
theorem dK_shiftedUp_28 : decode cK_shiftedUp 28 = .ok (.istore_n 3, 1) := by decide +kernel
theorem dK_shiftedUp_29 : decode cK_shiftedUp 29 = .ok (.aload_n 0, 1) := by decide +kernel
theorem dK_shiftedUp_30 : decode cK_shiftedUp 30 = .ok (.getfield 21, 3) := by decide +kernel
theorem dK_shiftedUp_33 : decode cK_shiftedUp 33 = .ok (.iload_n 3, 1) := by decide +kernel
theorem dK_shiftedUp_34 : decode cK_shiftedUp 34 = .ok (.aload_n 1, 1) := by decide +kernel
theorem dK_shiftedUp_35 : decode cK_shiftedUp 35 = .ok (.getfield 51, 3) := by decide +kernel
theorem dK_shiftedUp_38 : decode cK_shiftedUp 38 = .ok (.iadd, 1) := by decide +kernel
theorem dK_shiftedUp_39 : decode cK_shiftedUp 39 = .ok (.iconst 1, 1) := by decide +kernel
theorem dK_shiftedUp_40 : decode cK_shiftedUp 40 = .ok (.iadd, 1) := by decide +kernel
theorem dK_shiftedUp_41 : decode cK_shiftedUp 41 = .ok (.invokevirtual 61, 3) := by decide +kernel
theorem dK_shiftedUp_44 : decode cK_shiftedUp 44 = .ok (.iload_n 3, 1) := by decide +kernel
theorem dK_shiftedUp_45 : decode cK_shiftedUp 45 = .ok (.istore 4, 2) := by decide +kernel
theorem dK_shiftedUp_47 : decode cK_shiftedUp 47 = .ok (.iload 4, 2) := by decide +kernel
theorem dK_shiftedUp_49 : decode cK_shiftedUp 49 = .ok (.aload_n 0, 1) := by decide +kernel
theorem dK_shiftedUp_50 : decode cK_shiftedUp 50 = .ok (.getfield 21, 3) := by decide +kernel
theorem dK_shiftedUp_53 : decode cK_shiftedUp 53 = .ok (.getfield 51, 3) := by decide +kernel
theorem dK_shiftedUp_56 : decode cK_shiftedUp 56 = .ok (.if_icmp .ge 31, 3) := by decide +kernel
theorem dK_shiftedUp_59 : decode cK_shiftedUp 59 = .ok (.aload_n 0, 1) := by decide +kernel
theorem dK_shiftedUp_60 : decode cK_shiftedUp 60 = .ok (.getfield 21, 3) := by decide +kernel
theorem dK_shiftedUp_63 : decode cK_shiftedUp 63 = .ok (.getfield 149, 3) := by decide +kernel
theorem dK_shiftedUp_66 : decode cK_shiftedUp 66 = .ok (.iload 4, 2) := by decide +kernel
theorem dK_shiftedUp_68 : decode cK_shiftedUp 68 = .ok (.aload_n 1, 1) := by decide +kernel
theorem dK_shiftedUp_69 : decode cK_shiftedUp 69 = .ok (.iload 4, 2) := by decide +kernel
theorem dK_shiftedUp_71 : decode cK_shiftedUp 71 = .ok (.iload_n 3, 1) := by decide +kernel
theorem dK_shiftedUp_72 : decode cK_shiftedUp 72 = .ok (.isub, 1) := by decide +kernel
theorem dK_shiftedUp_73 : decode cK_shiftedUp 73 = .ok (.iload_n 2, 1) := by decide +kernel
theorem dK_shiftedUp_74 : decode cK_shiftedUp 74 = .ok (.bipush 28, 2) := by decide +kernel
theorem dK_shiftedUp_76 : decode cK_shiftedUp 76 = .ok (.irem, 1) := by decide +kernel
theorem dK_shiftedUp_77 : decode cK_shiftedUp 77 = .ok (.invokevirtual 160, 3) := by decide +kernel
theorem dK_shiftedUp_80 : decode cK_shiftedUp 80 = .ok (.lastore, 1) := by decide +kernel
theorem dK_shiftedUp_81 : decode cK_shiftedUp 81 = .ok (.iinc 4 1, 3) := by decide +kernel
theorem dK_shiftedUp_84 : decode cK_shiftedUp 84 = .ok (.goto (-37), 3) := by decide +kernel
theorem dK_shiftedUp_87 : decode cK_shiftedUp 87 = .ok (.aload_n 0, 1) := by decide +kernel
theorem dK_shiftedUp_88 : decode cK_shiftedUp 88 = .ok (.getfield 21, 3) := by decide +kernel
theorem dK_shiftedUp_91 : decode cK_shiftedUp 91 = .ok (.aload_n 1, 1) := by decide +kernel
theorem dK_shiftedUp_92 : decode cK_shiftedUp 92 = .ok (.getfield 43, 3) := by decide +kernel
theorem dK_shiftedUp_95 : decode cK_shiftedUp 95 = .ok (.putfield 43, 3) := by decide +kernel
theorem dK_shiftedUp_98 : decode cK_shiftedUp 98 = .ok (.aload_n 0, 1) := by decide +kernel
theorem dK_shiftedUp_99 : decode cK_shiftedUp 99 = .ok (.getfield 21, 3) := by decide +kernel
theorem dK_shiftedUp_102 : decode cK_shiftedUp 102 = .ok (.invokevirtual 78, 3) := by decide +kernel
theorem dK_shiftedUp_105 : decode cK_shiftedUp 105 = .ok (.aload_n 0, 1) := by decide +kernel
theorem dK_shiftedUp_106 : decode cK_shiftedUp 106 = .ok (.getfield 21, 3) := by decide +kernel
theorem dK_shiftedUp_109 : decode cK_shiftedUp 109 = .ok (.areturn, 1) := by decide +kernel
abbrev cK_shiftedDown : ByteArray := prog_3_method_19_code
abbrev yK_shiftedDown : MethodName := ⟨"WholeDesk$Reckoner", "shiftedDown", "(LWholeDesk$Whole;J)LWholeDesk$Whole;"⟩
theorem qK_shiftedDown : yK_shiftedDown.cls ≠ "java/lang/invoke/MethodHandle" ∧ yK_shiftedDown.cls ≠ "java/lang/invoke/VarHandle" ∧ (parseMethodDescriptor yK_shiftedDown.desc).map (fun d => d.parameters.length) = some 2 := by decide +kernel
theorem dK_shiftedDown_0 : decode cK_shiftedDown 0 = .ok (.aload_n 0, 1) := by decide +kernel
theorem dK_shiftedDown_1 : decode cK_shiftedDown 1 = .ok (.getfield 21, 3) := by decide +kernel
theorem dK_shiftedDown_4 : decode cK_shiftedDown 4 = .ok (.lconst 0, 1) := by decide +kernel
theorem dK_shiftedDown_5 : decode cK_shiftedDown 5 = .ok (.invokevirtual 88, 3) := by decide +kernel
theorem dK_shiftedDown_8 : decode cK_shiftedDown 8 = .ok (.lload_n 2, 1) := by decide +kernel
theorem dK_shiftedDown_9 : decode cK_shiftedDown 9 = .ok (.ldc2_w 164, 3) := by decide +kernel
theorem dK_shiftedDown_12 : decode cK_shiftedDown 12 = .ok (.invokestatic 166, 3) := by decide +kernel
theorem dK_shiftedDown_15 : decode cK_shiftedDown 15 = .ok (.l2i, 1) := by decide +kernel
theorem dK_shiftedDown_16 : decode cK_shiftedDown 16 = .ok (.istore 4, 2) := by decide +kernel
theorem dK_shiftedDown_18 : decode cK_shiftedDown 18 = .ok (.iload 4, 2) := by decide +kernel
theorem dK_shiftedDown_20 : decode cK_shiftedDown 20 = .ok (.bipush 28, 2) := by decide +kernel
theorem dK_shiftedDown_22 : decode cK_shiftedDown 22 = .ok (.idiv, 1) := by decide +kernel
theorem dK_shiftedDown_23 : decode cK_shiftedDown 23 = .ok (.istore 5, 2) := by decide +kernel
theorem dK_shiftedDown_25 : decode cK_shiftedDown 25 = .ok (.aload_n 0, 1) := by decide +kernel
theorem dK_shiftedDown_26 : decode cK_shiftedDown 26 = .ok (.getfield 21, 3) := by decide +kernel
theorem dK_shiftedDown_29 : decode cK_shiftedDown 29 = .ok (.aload_n 1, 1) := by decide +kernel
theorem dK_shiftedDown_30 : decode cK_shiftedDown 30 = .ok (.getfield 51, 3) := by decide +kernel
theorem dK_shiftedDown_33 : decode cK_shiftedDown 33 = .ok (.iload 5, 2) := by decide +kernel
theorem dK_shiftedDown_35 : decode cK_shiftedDown 35 = .ok (.isub, 1) := by decide +kernel
theorem dK_shiftedDown_36 : decode cK_shiftedDown 36 = .ok (.invokevirtual 61, 3) := by decide +kernel
theorem dK_shiftedDown_39 : decode cK_shiftedDown 39 = .ok (.iconst 0, 1) := by decide +kernel
theorem dK_shiftedDown_40 : decode cK_shiftedDown 40 = .ok (.istore 6, 2) := by decide +kernel
theorem dK_shiftedDown_42 : decode cK_shiftedDown 42 = .ok (.iload 6, 2) := by decide +kernel
theorem dK_shiftedDown_44 : decode cK_shiftedDown 44 = .ok (.aload_n 0, 1) := by decide +kernel
theorem dK_shiftedDown_45 : decode cK_shiftedDown 45 = .ok (.getfield 21, 3) := by decide +kernel
theorem dK_shiftedDown_48 : decode cK_shiftedDown 48 = .ok (.getfield 51, 3) := by decide +kernel
theorem dK_shiftedDown_51 : decode cK_shiftedDown 51 = .ok (.if_icmp .ge 38, 3) := by decide +kernel
theorem dK_shiftedDown_54 : decode cK_shiftedDown 54 = .ok (.aload_n 0, 1) := by decide +kernel
theorem dK_shiftedDown_55 : decode cK_shiftedDown 55 = .ok (.getfield 21, 3) := by decide +kernel
theorem dK_shiftedDown_58 : decode cK_shiftedDown 58 = .ok (.getfield 149, 3) := by decide +kernel
theorem dK_shiftedDown_61 : decode cK_shiftedDown 61 = .ok (.iload 6, 2) := by decide +kernel
theorem dK_shiftedDown_63 : decode cK_shiftedDown 63 = .ok (.aload_n 1, 1) := by decide +kernel
theorem dK_shiftedDown_64 : decode cK_shiftedDown 64 = .ok (.iload 6, 2) := by decide +kernel
theorem dK_shiftedDown_66 : decode cK_shiftedDown 66 = .ok (.iload 5, 2) := by decide +kernel
theorem dK_shiftedDown_68 : decode cK_shiftedDown 68 = .ok (.iadd, 1) := by decide +kernel
theorem dK_shiftedDown_69 : decode cK_shiftedDown 69 = .ok (.iconst 1, 1) := by decide +kernel
theorem dK_shiftedDown_70 : decode cK_shiftedDown 70 = .ok (.iadd, 1) := by decide +kernel
theorem dK_shiftedDown_71 : decode cK_shiftedDown 71 = .ok (.bipush 28, 2) := by decide +kernel
theorem dK_shiftedDown_73 : decode cK_shiftedDown 73 = .ok (.iload 4, 2) := by decide +kernel
theorem dK_shiftedDown_75 : decode cK_shiftedDown 75 = .ok (.bipush 28, 2) := by decide +kernel
theorem dK_shiftedDown_77 : decode cK_shiftedDown 77 = .ok (.irem, 1) := by decide +kernel
theorem dK_shiftedDown_78 : decode cK_shiftedDown 78 = .ok (.isub, 1) := by decide +kernel
theorem dK_shiftedDown_79 : decode cK_shiftedDown 79 = .ok (.invokevirtual 160, 3) := by decide +kernel
theorem dK_shiftedDown_82 : decode cK_shiftedDown 82 = .ok (.lastore, 1) := by decide +kernel
theorem dK_shiftedDown_83 : decode cK_shiftedDown 83 = .ok (.iinc 6 1, 3) := by decide +kernel
theorem dK_shiftedDown_86 : decode cK_shiftedDown 86 = .ok (.goto (-44), 3) := by decide +kernel
theorem dK_shiftedDown_89 : decode cK_shiftedDown 89 = .ok (.aload_n 1, 1) := by decide +kernel
theorem dK_shiftedDown_90 : decode cK_shiftedDown 90 = .ok (.getfield 43, 3) := by decide +kernel
theorem dK_shiftedDown_93 : decode cK_shiftedDown 93 = .ok (.ifCond .eq 21, 3) := by decide +kernel
theorem dK_shiftedDown_96 : decode cK_shiftedDown 96 = .ok (.aload_n 1, 1) := by decide +kernel
theorem dK_shiftedDown_97 : decode cK_shiftedDown 97 = .ok (.invokevirtual 170, 3) := by decide +kernel
theorem dK_shiftedDown_100 : decode cK_shiftedDown 100 = .ok (.iload 4, 2) := by decide +kernel
theorem dK_shiftedDown_102 : decode cK_shiftedDown 102 = .ok (.if_icmp .ge 12, 3) := by decide +kernel
theorem dK_shiftedDown_105 : decode cK_shiftedDown 105 = .ok (.aload_n 0, 1) := by decide +kernel
theorem dK_shiftedDown_106 : decode cK_shiftedDown 106 = .ok (.getfield 21, 3) := by decide +kernel
theorem dK_shiftedDown_109 : decode cK_shiftedDown 109 = .ok (.lconst 1, 1) := by decide +kernel
theorem dK_shiftedDown_110 : decode cK_shiftedDown 110 = .ok (.lconst 1, 1) := by decide +kernel
theorem dK_shiftedDown_111 : decode cK_shiftedDown 111 = .ok (.invokevirtual 173, 3) := by decide +kernel
theorem dK_shiftedDown_114 : decode cK_shiftedDown 114 = .ok (.aload_n 0, 1) := by decide +kernel
theorem dK_shiftedDown_115 : decode cK_shiftedDown 115 = .ok (.getfield 21, 3) := by decide +kernel
theorem dK_shiftedDown_118 : decode cK_shiftedDown 118 = .ok (.aload_n 1, 1) := by decide +kernel
theorem dK_shiftedDown_119 : decode cK_shiftedDown 119 = .ok (.getfield 43, 3) := by decide +kernel
theorem dK_shiftedDown_122 : decode cK_shiftedDown 122 = .ok (.putfield 43, 3) := by decide +kernel
theorem dK_shiftedDown_125 : decode cK_shiftedDown 125 = .ok (.aload_n 0, 1) := by decide +kernel
theorem dK_shiftedDown_126 : decode cK_shiftedDown 126 = .ok (.getfield 21, 3) := by decide +kernel
theorem dK_shiftedDown_129 : decode cK_shiftedDown 129 = .ok (.invokevirtual 78, 3) := by decide +kernel
theorem dK_shiftedDown_132 : decode cK_shiftedDown 132 = .ok (.aload_n 0, 1) := by decide +kernel
theorem dK_shiftedDown_133 : decode cK_shiftedDown 133 = .ok (.getfield 21, 3) := by decide +kernel
theorem dK_shiftedDown_136 : decode cK_shiftedDown 136 = .ok (.areturn, 1) := by decide +kernel
