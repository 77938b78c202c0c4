abbrev cD_init : ByteArray := prog_2_method_1_code
abbrev yD_init : MethodName := ⟨"WholeDesk$Draft", "<init>", "()V"⟩
theorem qD_init : yD_init.cls ≠ "java/lang/invoke/MethodHandle" ∧ yD_init.cls ≠ "java/lang/invoke/VarHandle" ∧ (parseMethodDescriptor yD_init.desc).map (fun d => d.parameters.length) = some 0 := by decide +kernel
theorem dD_init_0 : decode cD_init 0 = .ok (.aload_n 0, 1) := by decide +kernel
theorem dD_init_1 : decode cD_init 1 = .ok (.invokespecial 5, 3) := by decide +kernel
theorem dD_init_4 : decode cD_init 4 = .ok (.aload_n 0, 1) := by decide +kernel
theorem dD_init_5 : decode cD_init 5 = .ok (.sipush 2100, 3) := by decide +kernel
theorem dD_init_8 : decode cD_init 8 = .ok (.newarray .byte, 2) := by decide +kernel
theorem dD_init_10 : decode cD_init 10 = .ok (.putfield 11, 3) := by decide +kernel
theorem dD_init_13 : decode cD_init 13 = .ok (.aload_n 0, 1) := by decide +kernel
theorem dD_init_14 : decode cD_init 14 = .ok (.new 1, 3) := by decide +kernel
theorem dD_init_17 : decode cD_init 17 = .ok (.dup, 1) := by decide +kernel
theorem dD_init_18 : decode cD_init 18 = .ok (.invokespecial 17, 3) := by decide +kernel
theorem dD_init_21 : decode cD_init 21 = .ok (.putfield 18, 3) := by decide +kernel
theorem dD_init_24 : decode cD_init 24 = .ok (.return_, 1) := by decide +kernel
abbrev cD_append : ByteArray := prog_2_method_2_code
abbrev yD_append : MethodName := ⟨"WholeDesk$Draft", "append", "(IJ)Z"⟩
theorem qD_append : yD_append.cls ≠ "java/lang/invoke/MethodHandle" ∧ yD_append.cls ≠ "java/lang/invoke/VarHandle" ∧ (parseMethodDescriptor yD_append.desc).map (fun d => d.parameters.length) = some 2 := by decide +kernel
theorem dD_append_0 : decode cD_append 0 = .ok (.aload_n 0, 1) := by decide +kernel
theorem dD_append_1 : decode cD_append 1 = .ok (.getfield 22, 3) := by decide +kernel
theorem dD_append_4 : decode cD_append 4 = .ok (.iload_n 1, 1) := by decide +kernel
theorem dD_append_5 : decode cD_append 5 = .ok (.iadd, 1) := by decide +kernel
theorem dD_append_6 : decode cD_append 6 = .ok (.sipush 2100, 3) := by decide +kernel
theorem dD_append_9 : decode cD_append 9 = .ok (.if_icmp .le 5, 3) := by decide +kernel
theorem dD_append_12 : decode cD_append 12 = .ok (.iconst 0, 1) := by decide +kernel
theorem dD_append_13 : decode cD_append 13 = .ok (.ireturn, 1) := by decide +kernel
theorem dD_append_14 : decode cD_append 14 = .ok (.iconst 0, 1) := by decide +kernel
theorem dD_append_15 : decode cD_append 15 = .ok (.istore 4, 2) := by decide +kernel
theorem dD_append_17 : decode cD_append 17 = .ok (.iload 4, 2) := by decide +kernel
theorem dD_append_19 : decode cD_append 19 = .ok (.iload_n 1, 1) := by decide +kernel
theorem dD_append_20 : decode cD_append 20 = .ok (.if_icmp .ge 30, 3) := by decide +kernel
theorem dD_append_23 : decode cD_append 23 = .ok (.aload_n 0, 1) := by decide +kernel
theorem dD_append_24 : decode cD_append 24 = .ok (.getfield 11, 3) := by decide +kernel
theorem dD_append_27 : decode cD_append 27 = .ok (.aload_n 0, 1) := by decide +kernel
theorem dD_append_28 : decode cD_append 28 = .ok (.getfield 22, 3) := by decide +kernel
theorem dD_append_31 : decode cD_append 31 = .ok (.iload 4, 2) := by decide +kernel
theorem dD_append_33 : decode cD_append 33 = .ok (.iadd, 1) := by decide +kernel
theorem dD_append_34 : decode cD_append 34 = .ok (.lload_n 2, 1) := by decide +kernel
theorem dD_append_35 : decode cD_append 35 = .ok (.bipush 8, 2) := by decide +kernel
theorem dD_append_37 : decode cD_append 37 = .ok (.iload 4, 2) := by decide +kernel
theorem dD_append_39 : decode cD_append 39 = .ok (.imul, 1) := by decide +kernel
theorem dD_append_40 : decode cD_append 40 = .ok (.lushr, 1) := by decide +kernel
theorem dD_append_41 : decode cD_append 41 = .ok (.l2i, 1) := by decide +kernel
theorem dD_append_42 : decode cD_append 42 = .ok (.i2b, 1) := by decide +kernel
theorem dD_append_43 : decode cD_append 43 = .ok (.bastore, 1) := by decide +kernel
theorem dD_append_44 : decode cD_append 44 = .ok (.iinc 4 1, 3) := by decide +kernel
theorem dD_append_47 : decode cD_append 47 = .ok (.goto (-30), 3) := by decide +kernel
theorem dD_append_50 : decode cD_append 50 = .ok (.aload_n 0, 1) := by decide +kernel
theorem dD_append_51 : decode cD_append 51 = .ok (.dup, 1) := by decide +kernel
theorem dD_append_52 : decode cD_append 52 = .ok (.getfield 22, 3) := by decide +kernel
theorem dD_append_55 : decode cD_append 55 = .ok (.iload_n 1, 1) := by decide +kernel
theorem dD_append_56 : decode cD_append 56 = .ok (.iadd, 1) := by decide +kernel
theorem dD_append_57 : decode cD_append 57 = .ok (.putfield 22, 3) := by decide +kernel
theorem dD_append_60 : decode cD_append 60 = .ok (.iconst 1, 1) := by decide +kernel
theorem dD_append_61 : decode cD_append 61 = .ok (.ireturn, 1) := by decide +kernel
abbrev cD_startsWith : ByteArray := prog_2_method_3_code
abbrev yD_startsWith : MethodName := ⟨"WholeDesk$Draft", "startsWith", "(C)Z"⟩
theorem qD_startsWith : yD_startsWith.cls ≠ "java/lang/invoke/MethodHandle" ∧ yD_startsWith.cls ≠ "java/lang/invoke/VarHandle" ∧ (parseMethodDescriptor yD_startsWith.desc).map (fun d => d.parameters.length) = some 1 := by decide +kernel
theorem dD_startsWith_0 : decode cD_startsWith 0 = .ok (.aload_n 0, 1) := by decide +kernel
theorem dD_startsWith_1 : decode cD_startsWith 1 = .ok (.getfield 22, 3) := by decide +kernel
theorem dD_startsWith_4 : decode cD_startsWith 4 = .ok (.ifCond .le 17, 3) := by decide +kernel
theorem dD_startsWith_7 : decode cD_startsWith 7 = .ok (.aload_n 0, 1) := by decide +kernel
theorem dD_startsWith_8 : decode cD_startsWith 8 = .ok (.getfield 11, 3) := by decide +kernel
theorem dD_startsWith_11 : decode cD_startsWith 11 = .ok (.iconst 0, 1) := by decide +kernel
theorem dD_startsWith_12 : decode cD_startsWith 12 = .ok (.baload, 1) := by decide +kernel
theorem dD_startsWith_13 : decode cD_startsWith 13 = .ok (.iload_n 1, 1) := by decide +kernel
theorem dD_startsWith_14 : decode cD_startsWith 14 = .ok (.if_icmp .ne 7, 3) := by decide +kernel
theorem dD_startsWith_17 : decode cD_startsWith 17 = .ok (.iconst 1, 1) := by decide +kernel
theorem dD_startsWith_18 : decode cD_startsWith 18 = .ok (.goto 4, 3) := by decide +kernel
theorem dD_startsWith_21 : decode cD_startsWith 21 = .ok (.iconst 0, 1) := by decide +kernel
theorem dD_startsWith_22 : decode cD_startsWith 22 = .ok (.ireturn, 1) := by decide +kernel
abbrev cD_start : ByteArray := prog_2_method_4_code
abbrev yD_start : MethodName := ⟨"WholeDesk$Draft", "start", "()I"⟩
theorem qD_start : yD_start.cls ≠ "java/lang/invoke/MethodHandle" ∧ yD_start.cls ≠ "java/lang/invoke/VarHandle" ∧ (parseMethodDescriptor yD_start.desc).map (fun d => d.parameters.length) = some 0 := by decide +kernel
theorem dD_start_0 : decode cD_start 0 = .ok (.aload_n 0, 1) := by decide +kernel
theorem dD_start_1 : decode cD_start 1 = .ok (.bipush 43, 2) := by decide +kernel
theorem dD_start_3 : decode cD_start 3 = .ok (.invokevirtual 26, 3) := by decide +kernel
theorem dD_start_6 : decode cD_start 6 = .ok (.ifCond .ne 12, 3) := by decide +kernel
theorem dD_start_9 : decode cD_start 9 = .ok (.aload_n 0, 1) := by decide +kernel
theorem dD_start_10 : decode cD_start 10 = .ok (.bipush 45, 2) := by decide +kernel
theorem dD_start_12 : decode cD_start 12 = .ok (.invokevirtual 26, 3) := by decide +kernel
theorem dD_start_15 : decode cD_start 15 = .ok (.ifCond .eq 7, 3) := by decide +kernel
theorem dD_start_18 : decode cD_start 18 = .ok (.iconst 1, 1) := by decide +kernel
theorem dD_start_19 : decode cD_start 19 = .ok (.goto 4, 3) := by decide +kernel
theorem dD_start_22 : decode cD_start 22 = .ok (.iconst 0, 1) := by decide +kernel
theorem dD_start_23 : decode cD_start 23 = .ok (.ireturn, 1) := by decide +kernel
abbrev cD_isNumber : ByteArray := prog_2_method_5_code
abbrev yD_isNumber : MethodName := ⟨"WholeDesk$Draft", "isNumber", "(I)Z"⟩
theorem qD_isNumber : yD_isNumber.cls ≠ "java/lang/invoke/MethodHandle" ∧ yD_isNumber.cls ≠ "java/lang/invoke/VarHandle" ∧ (parseMethodDescriptor yD_isNumber.desc).map (fun d => d.parameters.length) = some 1 := by decide +kernel
theorem dD_isNumber_0 : decode cD_isNumber 0 = .ok (.aload_n 0, 1) := by decide +kernel
theorem dD_isNumber_1 : decode cD_isNumber 1 = .ok (.invokevirtual 30, 3) := by decide +kernel
theorem dD_isNumber_4 : decode cD_isNumber 4 = .ok (.istore_n 2, 1) := by decide +kernel
theorem dD_isNumber_5 : decode cD_isNumber 5 = .ok (.iload_n 2, 1) := by decide +kernel
theorem dD_isNumber_6 : decode cD_isNumber 6 = .ok (.aload_n 0, 1) := by decide +kernel
theorem dD_isNumber_7 : decode cD_isNumber 7 = .ok (.getfield 22, 3) := by decide +kernel
theorem dD_isNumber_10 : decode cD_isNumber 10 = .ok (.if_icmp .ge 24, 3) := by decide +kernel
theorem dD_isNumber_13 : decode cD_isNumber 13 = .ok (.aload_n 0, 1) := by decide +kernel
theorem dD_isNumber_14 : decode cD_isNumber 14 = .ok (.getfield 11, 3) := by decide +kernel
theorem dD_isNumber_17 : decode cD_isNumber 17 = .ok (.iload_n 2, 1) := by decide +kernel
theorem dD_isNumber_18 : decode cD_isNumber 18 = .ok (.baload, 1) := by decide +kernel
theorem dD_isNumber_19 : decode cD_isNumber 19 = .ok (.invokestatic 34, 3) := by decide +kernel
theorem dD_isNumber_22 : decode cD_isNumber 22 = .ok (.iload_n 1, 1) := by decide +kernel
theorem dD_isNumber_23 : decode cD_isNumber 23 = .ok (.if_icmp .lt 5, 3) := by decide +kernel
theorem dD_isNumber_26 : decode cD_isNumber 26 = .ok (.iconst 0, 1) := by decide +kernel
theorem dD_isNumber_27 : decode cD_isNumber 27 = .ok (.ireturn, 1) := by decide +kernel
theorem dD_isNumber_28 : decode cD_isNumber 28 = .ok (.iinc 2 1, 3) := by decide +kernel
theorem dD_isNumber_31 : decode cD_isNumber 31 = .ok (.goto (-26), 3) := by decide +kernel
theorem dD_isNumber_34 : decode cD_isNumber 34 = .ok (.aload_n 0, 1) := by decide +kernel
theorem dD_isNumber_35 : decode cD_isNumber 35 = .ok (.getfield 22, 3) := by decide +kernel
theorem dD_isNumber_38 : decode cD_isNumber 38 = .ok (.aload_n 0, 1) := by decide +kernel
theorem dD_isNumber_39 : decode cD_isNumber 39 = .ok (.invokevirtual 30, 3) := by decide +kernel
theorem dD_isNumber_42 : decode cD_isNumber 42 = .ok (.if_icmp .le 7, 3) := by decide +kernel
theorem dD_isNumber_45 : decode cD_isNumber 45 = .ok (.iconst 1, 1) := by decide +kernel
theorem dD_isNumber_46 : decode cD_isNumber 46 = .ok (.goto 4, 3) := by decide +kernel
theorem dD_isNumber_49 : decode cD_isNumber 49 = .ok (.iconst 0, 1) := by decide +kernel
theorem dD_isNumber_50 : decode cD_isNumber 50 = .ok (.ireturn, 1) := by decide +kernel
abbrev cD_digitOf : ByteArray := prog_2_method_6_code
abbrev yD_digitOf : MethodName := ⟨"WholeDesk$Draft", "digitOf", "(B)I"⟩
theorem qD_digitOf : yD_digitOf.cls ≠ "java/lang/invoke/MethodHandle" ∧ yD_digitOf.cls ≠ "java/lang/invoke/VarHandle" ∧ (parseMethodDescriptor yD_digitOf.desc).map (fun d => d.parameters.length) = some 1 := by decide +kernel
theorem dD_digitOf_0 : decode cD_digitOf 0 = .ok (.iload_n 0, 1) := by decide +kernel
theorem dD_digitOf_1 : decode cD_digitOf 1 = .ok (.bipush 48, 2) := by decide +kernel
theorem dD_digitOf_3 : decode cD_digitOf 3 = .ok (.if_icmp .lt 14, 3) := by decide +kernel
theorem dD_digitOf_6 : decode cD_digitOf 6 = .ok (.iload_n 0, 1) := by decide +kernel
theorem dD_digitOf_7 : decode cD_digitOf 7 = .ok (.bipush 57, 2) := by decide +kernel
theorem dD_digitOf_9 : decode cD_digitOf 9 = .ok (.if_icmp .gt 8, 3) := by decide +kernel
theorem dD_digitOf_12 : decode cD_digitOf 12 = .ok (.iload_n 0, 1) := by decide +kernel
theorem dD_digitOf_13 : decode cD_digitOf 13 = .ok (.bipush 48, 2) := by decide +kernel
theorem dD_digitOf_15 : decode cD_digitOf 15 = .ok (.isub, 1) := by decide +kernel
theorem dD_digitOf_16 : decode cD_digitOf 16 = .ok (.ireturn, 1) := by decide +kernel
theorem dD_digitOf_17 : decode cD_digitOf 17 = .ok (.iload_n 0, 1) := by decide +kernel
theorem dD_digitOf_18 : decode cD_digitOf 18 = .ok (.bipush 97, 2) := by decide +kernel
theorem dD_digitOf_20 : decode cD_digitOf 20 = .ok (.if_icmp .lt 17, 3) := by decide +kernel
theorem dD_digitOf_23 : decode cD_digitOf 23 = .ok (.iload_n 0, 1) := by decide +kernel
theorem dD_digitOf_24 : decode cD_digitOf 24 = .ok (.bipush 122, 2) := by decide +kernel
theorem dD_digitOf_26 : decode cD_digitOf 26 = .ok (.if_icmp .gt 11, 3) := by decide +kernel
theorem dD_digitOf_29 : decode cD_digitOf 29 = .ok (.iload_n 0, 1) := by decide +kernel
theorem dD_digitOf_30 : decode cD_digitOf 30 = .ok (.bipush 97, 2) := by decide +kernel
theorem dD_digitOf_32 : decode cD_digitOf 32 = .ok (.isub, 1) := by decide +kernel
theorem dD_digitOf_33 : decode cD_digitOf 33 = .ok (.bipush 10, 2) := by decide +kernel
theorem dD_digitOf_35 : decode cD_digitOf 35 = .ok (.iadd, 1) := by decide +kernel
theorem dD_digitOf_36 : decode cD_digitOf 36 = .ok (.ireturn, 1) := by decide +kernel
theorem dD_digitOf_37 : decode cD_digitOf 37 = .ok (.iload_n 0, 1) := by decide +kernel
theorem dD_digitOf_38 : decode cD_digitOf 38 = .ok (.bipush 65, 2) := by decide +kernel
theorem dD_digitOf_40 : decode cD_digitOf 40 = .ok (.if_icmp .lt 17, 3) := by decide +kernel
theorem dD_digitOf_43 : decode cD_digitOf 43 = .ok (.iload_n 0, 1) := by decide +kernel
theorem dD_digitOf_44 : decode cD_digitOf 44 = .ok (.bipush 90, 2) := by decide +kernel
theorem dD_digitOf_46 : decode cD_digitOf 46 = .ok (.if_icmp .gt 11, 3) := by decide +kernel
theorem dD_digitOf_49 : decode cD_digitOf 49 = .ok (.iload_n 0, 1) := by decide +kernel
theorem dD_digitOf_50 : decode cD_digitOf 50 = .ok (.bipush 65, 2) := by decide +kernel
theorem dD_digitOf_52 : decode cD_digitOf 52 = .ok (.isub, 1) := by decide +kernel
theorem dD_digitOf_53 : decode cD_digitOf 53 = .ok (.bipush 10, 2) := by decide +kernel
theorem dD_digitOf_55 : decode cD_digitOf 55 = .ok (.iadd, 1) := by decide +kernel
theorem dD_digitOf_56 : decode cD_digitOf 56 = .ok (.ireturn, 1) := by decide +kernel
theorem dD_digitOf_57 : decode cD_digitOf 57 = .ok (.bipush 99, 2) := by decide +kernel
theorem dD_digitOf_59 : decode cD_digitOf 59 = .ok (.ireturn, 1) := by decide +kernel
abbrev cD_parsed : ByteArray := prog_2_method_7_code
abbrev yD_parsed : MethodName := ⟨"WholeDesk$Draft", "parsed", "(I)LWholeDesk$Whole;"⟩
theorem qD_parsed : yD_parsed.cls ≠ "java/lang/invoke/MethodHandle" ∧ yD_parsed.cls ≠ "java/lang/invoke/VarHandle" ∧ (parseMethodDescriptor yD_parsed.desc).map (fun d => d.parameters.length) = some 1 := by decide +kernel
theorem dD_parsed_0 : decode cD_parsed 0 = .ok (.aload_n 0, 1) := by decide +kernel
theorem dD_parsed_1 : decode cD_parsed 1 = .ok (.getfield 18, 3) := by decide +kernel
theorem dD_parsed_4 : decode cD_parsed 4 = .ok (.lconst 0, 1) := by decide +kernel
theorem dD_parsed_5 : decode cD_parsed 5 = .ok (.invokevirtual 38, 3) := by decide +kernel
theorem dD_parsed_8 : decode cD_parsed 8 = .ok (.lconst 0, 1) := by decide +kernel
theorem dD_parsed_9 : decode cD_parsed 9 = .ok (.lstore_n 2, 1) := by decide +kernel
theorem dD_parsed_10 : decode cD_parsed 10 = .ok (.lconst 1, 1) := by decide +kernel
theorem dD_parsed_11 : decode cD_parsed 11 = .ok (.lstore 4, 2) := by decide +kernel
theorem dD_parsed_13 : decode cD_parsed 13 = .ok (.aload_n 0, 1) := by decide +kernel
theorem dD_parsed_14 : decode cD_parsed 14 = .ok (.invokevirtual 30, 3) := by decide +kernel
theorem dD_parsed_17 : decode cD_parsed 17 = .ok (.istore 6, 2) := by decide +kernel
theorem dD_parsed_19 : decode cD_parsed 19 = .ok (.iload 6, 2) := by decide +kernel
theorem dD_parsed_21 : decode cD_parsed 21 = .ok (.aload_n 0, 1) := by decide +kernel
theorem dD_parsed_22 : decode cD_parsed 22 = .ok (.getfield 22, 3) := by decide +kernel
theorem dD_parsed_25 : decode cD_parsed 25 = .ok (.if_icmp .ge 72, 3) := by decide +kernel
theorem dD_parsed_28 : decode cD_parsed 28 = .ok (.aload_n 0, 1) := by decide +kernel
theorem dD_parsed_29 : decode cD_parsed 29 = .ok (.getfield 18, 3) := by decide +kernel
theorem dD_parsed_32 : decode cD_parsed 32 = .ok (.getfield 42, 3) := by decide +kernel
theorem dD_parsed_35 : decode cD_parsed 35 = .ok (.bipush 74, 2) := by decide +kernel
theorem dD_parsed_37 : decode cD_parsed 37 = .ok (.if_icmp .gt 60, 3) := by decide +kernel
theorem dD_parsed_40 : decode cD_parsed 40 = .ok (.lload_n 2, 1) := by decide +kernel
theorem dD_parsed_41 : decode cD_parsed 41 = .ok (.iload_n 1, 1) := by decide +kernel
theorem dD_parsed_42 : decode cD_parsed 42 = .ok (.i2l, 1) := by decide +kernel
theorem dD_parsed_43 : decode cD_parsed 43 = .ok (.lmul, 1) := by decide +kernel
theorem dD_parsed_44 : decode cD_parsed 44 = .ok (.aload_n 0, 1) := by decide +kernel
theorem dD_parsed_45 : decode cD_parsed 45 = .ok (.getfield 11, 3) := by decide +kernel
theorem dD_parsed_48 : decode cD_parsed 48 = .ok (.iload 6, 2) := by decide +kernel
theorem dD_parsed_50 : decode cD_parsed 50 = .ok (.baload, 1) := by decide +kernel
theorem dD_parsed_51 : decode cD_parsed 51 = .ok (.invokestatic 34, 3) := by decide +kernel
theorem dD_parsed_54 : decode cD_parsed 54 = .ok (.i2l, 1) := by decide +kernel
theorem dD_parsed_55 : decode cD_parsed 55 = .ok (.ladd, 1) := by decide +kernel
theorem dD_parsed_56 : decode cD_parsed 56 = .ok (.lstore_n 2, 1) := by decide +kernel
theorem dD_parsed_57 : decode cD_parsed 57 = .ok (.lload 4, 2) := by decide +kernel
theorem dD_parsed_59 : decode cD_parsed 59 = .ok (.iload_n 1, 1) := by decide +kernel
theorem dD_parsed_60 : decode cD_parsed 60 = .ok (.i2l, 1) := by decide +kernel
theorem dD_parsed_61 : decode cD_parsed 61 = .ok (.lmul, 1) := by decide +kernel
theorem dD_parsed_62 : decode cD_parsed 62 = .ok (.lstore 4, 2) := by decide +kernel
theorem dD_parsed_64 : decode cD_parsed 64 = .ok (.lload 4, 2) := by decide +kernel
theorem dD_parsed_66 : decode cD_parsed 66 = .ok (.iload_n 1, 1) := by decide +kernel
theorem dD_parsed_67 : decode cD_parsed 67 = .ok (.i2l, 1) := by decide +kernel
theorem dD_parsed_68 : decode cD_parsed 68 = .ok (.lmul, 1) := by decide +kernel
theorem dD_parsed_69 : decode cD_parsed 69 = .ok (.ldc2_w 43, 3) := by decide +kernel
theorem dD_parsed_72 : decode cD_parsed 72 = .ok (.lcmp, 1) := by decide +kernel
theorem dD_parsed_73 : decode cD_parsed 73 = .ok (.ifCond .le 18, 3) := by decide +kernel
theorem dD_parsed_76 : decode cD_parsed 76 = .ok (.aload_n 0, 1) := by decide +kernel
theorem dD_parsed_77 : decode cD_parsed 77 = .ok (.getfield 18, 3) := by decide +kernel
theorem dD_parsed_80 : decode cD_parsed 80 = .ok (.lload 4, 2) := by decide +kernel
theorem dD_parsed_82 : decode cD_parsed 82 = .ok (.lload_n 2, 1) := by decide +kernel
theorem dD_parsed_83 : decode cD_parsed 83 = .ok (.invokevirtual 45, 3) := by decide +kernel
theorem dD_parsed_86 : decode cD_parsed 86 = .ok (.lconst 0, 1) := by decide +kernel
theorem dD_parsed_87 : decode cD_parsed 87 = .ok (.lstore_n 2, 1) := by decide +kernel
theorem dD_parsed_88 : decode cD_parsed 88 = .ok (.lconst 1, 1) := by decide +kernel
theorem dD_parsed_89 : decode cD_parsed 89 = .ok (.lstore 4, 2) := by decide +kernel
theorem dD_parsed_91 : decode cD_parsed 91 = .ok (.iinc 6 1, 3) := by decide +kernel
theorem dD_parsed_94 : decode cD_parsed 94 = .ok (.goto (-75), 3) := by decide +kernel
theorem dD_parsed_97 : decode cD_parsed 97 = .ok (.aload_n 0, 1) := by decide +kernel
theorem dD_parsed_98 : decode cD_parsed 98 = .ok (.getfield 18, 3) := by decide +kernel
theorem dD_parsed_101 : decode cD_parsed 101 = .ok (.lload 4, 2) := by decide +kernel
theorem dD_parsed_103 : decode cD_parsed 103 = .ok (.lload_n 2, 1) := by decide +kernel
theorem dD_parsed_104 : decode cD_parsed 104 = .ok (.invokevirtual 45, 3) := by decide +kernel
theorem dD_parsed_107 : decode cD_parsed 107 = .ok (.aload_n 0, 1) := by decide +kernel
theorem dD_parsed_108 : decode cD_parsed 108 = .ok (.getfield 18, 3) := by decide +kernel
theorem dD_parsed_111 : decode cD_parsed 111 = .ok (.aload_n 0, 1) := by decide +kernel
theorem dD_parsed_112 : decode cD_parsed 112 = .ok (.bipush 45, 2) := by decide +kernel
theorem dD_parsed_114 : decode cD_parsed 114 = .ok (.invokevirtual 26, 3) := by decide +kernel
theorem dD_parsed_117 : decode cD_parsed 117 = .ok (.ifCond .eq 17, 3) := by decide +kernel
theorem dD_parsed_120 : decode cD_parsed 120 = .ok (.aload_n 0, 1) := by decide +kernel
theorem dD_parsed_121 : decode cD_parsed 121 = .ok (.getfield 18, 3) := by decide +kernel
theorem dD_parsed_124 : decode cD_parsed 124 = .ok (.getfield 42, 3) := by decide +kernel
theorem dD_parsed_127 : decode cD_parsed 127 = .ok (.ifCond .le 7, 3) := by decide +kernel
theorem dD_parsed_130 : decode cD_parsed 130 = .ok (.iconst 1, 1) := by decide +kernel
theorem dD_parsed_131 : decode cD_parsed 131 = .ok (.goto 4, 3) := by decide +kernel
theorem dD_parsed_134 : decode cD_parsed 134 = .ok (.iconst 0, 1) := by decide +kernel
theorem dD_parsed_135 : decode cD_parsed 135 = .ok (.putfield 49, 3) := by decide +kernel
theorem dD_parsed_138 : decode cD_parsed 138 = .ok (.aload_n 0, 1) := by decide +kernel
theorem dD_parsed_139 : decode cD_parsed 139 = .ok (.getfield 18, 3) := by decide +kernel
theorem dD_parsed_142 : decode cD_parsed 142 = .ok (.areturn, 1) := by decide +kernel
