abbrev cW_init : ByteArray := prog_4_method_1_code
abbrev yW_init : MethodName := ⟨"WholeDesk$Whole", "<init>", "()V"⟩
theorem qW_init : yW_init.cls ≠ "java/lang/invoke/MethodHandle" ∧ yW_init.cls ≠ "java/lang/invoke/VarHandle" ∧ (parseMethodDescriptor yW_init.desc).map (fun d => d.parameters.length) = some 0 := by decide +kernel
theorem dW_init_0 : decode cW_init 0 = .ok (.aload_n 0, 1) := by decide +kernel
theorem dW_init_1 : decode cW_init 1 = .ok (.invokespecial 5, 3) := by decide +kernel
theorem dW_init_4 : decode cW_init 4 = .ok (.aload_n 0, 1) := by decide +kernel
theorem dW_init_5 : decode cW_init 5 = .ok (.sipush 152, 3) := by decide +kernel
theorem dW_init_8 : decode cW_init 8 = .ok (.newarray .long, 2) := by decide +kernel
theorem dW_init_10 : decode cW_init 10 = .ok (.putfield 11, 3) := by decide +kernel
theorem dW_init_13 : decode cW_init 13 = .ok (.return_, 1) := by decide +kernel
abbrev cW_become : ByteArray := prog_4_method_2_code
abbrev yW_become : MethodName := ⟨"WholeDesk$Whole", "become", "(J)V"⟩
theorem qW_become : yW_become.cls ≠ "java/lang/invoke/MethodHandle" ∧ yW_become.cls ≠ "java/lang/invoke/VarHandle" ∧ (parseMethodDescriptor yW_become.desc).map (fun d => d.parameters.length) = some 1 := by decide +kernel
theorem dW_become_0 : decode cW_become 0 = .ok (.lload_n 1, 1) := by decide +kernel
theorem dW_become_1 : decode cW_become 1 = .ok (.lconst 0, 1) := by decide +kernel
theorem dW_become_2 : decode cW_become 2 = .ok (.lcmp, 1) := by decide +kernel
theorem dW_become_3 : decode cW_become 3 = .ok (.ifCond .ge 8, 3) := by decide +kernel
theorem dW_become_6 : decode cW_become 6 = .ok (.lload_n 1, 1) := by decide +kernel
theorem dW_become_7 : decode cW_become 7 = .ok (.lneg, 1) := by decide +kernel
theorem dW_become_8 : decode cW_become 8 = .ok (.goto 4, 3) := by decide +kernel
theorem dW_become_11 : decode cW_become 11 = .ok (.lload_n 1, 1) := by decide +kernel
theorem dW_become_12 : decode cW_become 12 = .ok (.lstore_n 3, 1) := by decide +kernel
theorem dW_become_13 : decode cW_become 13 = .ok (.aload_n 0, 1) := by decide +kernel
theorem dW_become_14 : decode cW_become 14 = .ok (.getfield 11, 3) := by decide +kernel
theorem dW_become_17 : decode cW_become 17 = .ok (.iconst 0, 1) := by decide +kernel
theorem dW_become_18 : decode cW_become 18 = .ok (.lload_n 3, 1) := by decide +kernel
theorem dW_become_19 : decode cW_become 19 = .ok (.ldc2_w 15, 3) := by decide +kernel
theorem dW_become_22 : decode cW_become 22 = .ok (.land, 1) := by decide +kernel
theorem dW_become_23 : decode cW_become 23 = .ok (.lastore, 1) := by decide +kernel
theorem dW_become_24 : decode cW_become 24 = .ok (.aload_n 0, 1) := by decide +kernel
theorem dW_become_25 : decode cW_become 25 = .ok (.getfield 11, 3) := by decide +kernel
theorem dW_become_28 : decode cW_become 28 = .ok (.iconst 1, 1) := by decide +kernel
theorem dW_become_29 : decode cW_become 29 = .ok (.lload_n 3, 1) := by decide +kernel
theorem dW_become_30 : decode cW_become 30 = .ok (.bipush 28, 2) := by decide +kernel
theorem dW_become_32 : decode cW_become 32 = .ok (.lushr, 1) := by decide +kernel
theorem dW_become_33 : decode cW_become 33 = .ok (.ldc2_w 15, 3) := by decide +kernel
theorem dW_become_36 : decode cW_become 36 = .ok (.land, 1) := by decide +kernel
theorem dW_become_37 : decode cW_become 37 = .ok (.lastore, 1) := by decide +kernel
theorem dW_become_38 : decode cW_become 38 = .ok (.aload_n 0, 1) := by decide +kernel
theorem dW_become_39 : decode cW_become 39 = .ok (.getfield 11, 3) := by decide +kernel
theorem dW_become_42 : decode cW_become 42 = .ok (.iconst 2, 1) := by decide +kernel
theorem dW_become_43 : decode cW_become 43 = .ok (.lload_n 3, 1) := by decide +kernel
theorem dW_become_44 : decode cW_become 44 = .ok (.bipush 56, 2) := by decide +kernel
theorem dW_become_46 : decode cW_become 46 = .ok (.lushr, 1) := by decide +kernel
theorem dW_become_47 : decode cW_become 47 = .ok (.lastore, 1) := by decide +kernel
theorem dW_become_48 : decode cW_become 48 = .ok (.aload_n 0, 1) := by decide +kernel
theorem dW_become_49 : decode cW_become 49 = .ok (.iconst 3, 1) := by decide +kernel
theorem dW_become_50 : decode cW_become 50 = .ok (.putfield 17, 3) := by decide +kernel
theorem dW_become_53 : decode cW_become 53 = .ok (.aload_n 0, 1) := by decide +kernel
theorem dW_become_54 : decode cW_become 54 = .ok (.lload_n 1, 1) := by decide +kernel
theorem dW_become_55 : decode cW_become 55 = .ok (.lconst 0, 1) := by decide +kernel
theorem dW_become_56 : decode cW_become 56 = .ok (.lcmp, 1) := by decide +kernel
theorem dW_become_57 : decode cW_become 57 = .ok (.ifCond .ge 7, 3) := by decide +kernel
theorem dW_become_60 : decode cW_become 60 = .ok (.iconst 1, 1) := by decide +kernel
theorem dW_become_61 : decode cW_become 61 = .ok (.goto 4, 3) := by decide +kernel
theorem dW_become_64 : decode cW_become 64 = .ok (.iconst 0, 1) := by decide +kernel
theorem dW_become_65 : decode cW_become 65 = .ok (.putfield 21, 3) := by decide +kernel
theorem dW_become_68 : decode cW_become 68 = .ok (.aload_n 0, 1) := by decide +kernel
theorem dW_become_69 : decode cW_become 69 = .ok (.invokevirtual 25, 3) := by decide +kernel
theorem dW_become_72 : decode cW_become 72 = .ok (.return_, 1) := by decide +kernel
abbrev cW_becomePowerOfTwo : ByteArray := prog_4_method_3_code
abbrev yW_becomePowerOfTwo : MethodName := ⟨"WholeDesk$Whole", "becomePowerOfTwo", "(I)V"⟩
theorem qW_becomePowerOfTwo : yW_becomePowerOfTwo.cls ≠ "java/lang/invoke/MethodHandle" ∧ yW_becomePowerOfTwo.cls ≠ "java/lang/invoke/VarHandle" ∧ (parseMethodDescriptor yW_becomePowerOfTwo.desc).map (fun d => d.parameters.length) = some 1 := by decide +kernel
theorem dW_becomePowerOfTwo_0 : decode cW_becomePowerOfTwo 0 = .ok (.aload_n 0, 1) := by decide +kernel
theorem dW_becomePowerOfTwo_1 : decode cW_becomePowerOfTwo 1 = .ok (.iconst 0, 1) := by decide +kernel
theorem dW_becomePowerOfTwo_2 : decode cW_becomePowerOfTwo 2 = .ok (.putfield 17, 3) := by decide +kernel
theorem dW_becomePowerOfTwo_5 : decode cW_becomePowerOfTwo 5 = .ok (.aload_n 0, 1) := by decide +kernel
theorem dW_becomePowerOfTwo_6 : decode cW_becomePowerOfTwo 6 = .ok (.iconst 0, 1) := by decide +kernel
theorem dW_becomePowerOfTwo_7 : decode cW_becomePowerOfTwo 7 = .ok (.putfield 21, 3) := by decide +kernel
theorem dW_becomePowerOfTwo_10 : decode cW_becomePowerOfTwo 10 = .ok (.iload_n 1, 1) := by decide +kernel
theorem dW_becomePowerOfTwo_11 : decode cW_becomePowerOfTwo 11 = .ok (.bipush 28, 2) := by decide +kernel
theorem dW_becomePowerOfTwo_13 : decode cW_becomePowerOfTwo 13 = .ok (.idiv, 1) := by decide +kernel
theorem dW_becomePowerOfTwo_14 : decode cW_becomePowerOfTwo 14 = .ok (.istore_n 2, 1) := by decide +kernel
theorem dW_becomePowerOfTwo_15 : decode cW_becomePowerOfTwo 15 = .ok (.aload_n 0, 1) := by decide +kernel
theorem dW_becomePowerOfTwo_16 : decode cW_becomePowerOfTwo 16 = .ok (.iload_n 2, 1) := by decide +kernel
theorem dW_becomePowerOfTwo_17 : decode cW_becomePowerOfTwo 17 = .ok (.iconst 1, 1) := by decide +kernel
theorem dW_becomePowerOfTwo_18 : decode cW_becomePowerOfTwo 18 = .ok (.iadd, 1) := by decide +kernel
theorem dW_becomePowerOfTwo_19 : decode cW_becomePowerOfTwo 19 = .ok (.invokevirtual 28, 3) := by decide +kernel
theorem dW_becomePowerOfTwo_22 : decode cW_becomePowerOfTwo 22 = .ok (.iload_n 2, 1) := by decide +kernel
theorem dW_becomePowerOfTwo_23 : decode cW_becomePowerOfTwo 23 = .ok (.ifCond .lt 23, 3) := by decide +kernel
theorem dW_becomePowerOfTwo_26 : decode cW_becomePowerOfTwo 26 = .ok (.iload_n 2, 1) := by decide +kernel
theorem dW_becomePowerOfTwo_27 : decode cW_becomePowerOfTwo 27 = .ok (.aload_n 0, 1) := by decide +kernel
theorem dW_becomePowerOfTwo_28 : decode cW_becomePowerOfTwo 28 = .ok (.getfield 17, 3) := by decide +kernel
theorem dW_becomePowerOfTwo_31 : decode cW_becomePowerOfTwo 31 = .ok (.if_icmp .ge 15, 3) := by decide +kernel
theorem dW_becomePowerOfTwo_34 : decode cW_becomePowerOfTwo 34 = .ok (.aload_n 0, 1) := by decide +kernel
theorem dW_becomePowerOfTwo_35 : decode cW_becomePowerOfTwo 35 = .ok (.getfield 11, 3) := by decide +kernel
theorem dW_becomePowerOfTwo_38 : decode cW_becomePowerOfTwo 38 = .ok (.iload_n 2, 1) := by decide +kernel
theorem dW_becomePowerOfTwo_39 : decode cW_becomePowerOfTwo 39 = .ok (.lconst 1, 1) := by decide +kernel
theorem dW_becomePowerOfTwo_40 : decode cW_becomePowerOfTwo 40 = .ok (.iload_n 1, 1) := by decide +kernel
theorem dW_becomePowerOfTwo_41 : decode cW_becomePowerOfTwo 41 = .ok (.bipush 28, 2) := by decide +kernel
theorem dW_becomePowerOfTwo_43 : decode cW_becomePowerOfTwo 43 = .ok (.irem, 1) := by decide +kernel
theorem dW_becomePowerOfTwo_44 : decode cW_becomePowerOfTwo 44 = .ok (.lshl, 1) := by decide +kernel
theorem dW_becomePowerOfTwo_45 : decode cW_becomePowerOfTwo 45 = .ok (.lastore, 1) := by decide +kernel
theorem dW_becomePowerOfTwo_46 : decode cW_becomePowerOfTwo 46 = .ok (.return_, 1) := by decide +kernel
abbrev cW_copy : ByteArray := prog_4_method_4_code
abbrev yW_copy : MethodName := ⟨"WholeDesk$Whole", "copy", "(LWholeDesk$Whole;)V"⟩
theorem qW_copy : yW_copy.cls ≠ "java/lang/invoke/MethodHandle" ∧ yW_copy.cls ≠ "java/lang/invoke/VarHandle" ∧ (parseMethodDescriptor yW_copy.desc).map (fun d => d.parameters.length) = some 1 := by decide +kernel
theorem dW_copy_0 : decode cW_copy 0 = .ok (.aload_n 1, 1) := by decide +kernel
theorem dW_copy_1 : decode cW_copy 1 = .ok (.getfield 17, 3) := by decide +kernel
theorem dW_copy_4 : decode cW_copy 4 = .ok (.sipush 152, 3) := by decide +kernel
theorem dW_copy_7 : decode cW_copy 7 = .ok (.invokestatic 32, 3) := by decide +kernel
theorem dW_copy_10 : decode cW_copy 10 = .ok (.istore_n 2, 1) := by decide +kernel
theorem dW_copy_11 : decode cW_copy 11 = .ok (.aload_n 1, 1) := by decide +kernel
theorem dW_copy_12 : decode cW_copy 12 = .ok (.getfield 11, 3) := by decide +kernel
theorem dW_copy_15 : decode cW_copy 15 = .ok (.iconst 0, 1) := by decide +kernel
theorem dW_copy_16 : decode cW_copy 16 = .ok (.aload_n 0, 1) := by decide +kernel
theorem dW_copy_17 : decode cW_copy 17 = .ok (.getfield 11, 3) := by decide +kernel
theorem dW_copy_20 : decode cW_copy 20 = .ok (.iconst 0, 1) := by decide +kernel
theorem dW_copy_21 : decode cW_copy 21 = .ok (.iload_n 2, 1) := by decide +kernel
theorem dW_copy_22 : decode cW_copy 22 = .ok (.invokestatic 38, 3) := by decide +kernel
theorem dW_copy_25 : decode cW_copy 25 = .ok (.aload_n 0, 1) := by decide +kernel
theorem dW_copy_26 : decode cW_copy 26 = .ok (.iload_n 2, 1) := by decide +kernel
theorem dW_copy_27 : decode cW_copy 27 = .ok (.putfield 17, 3) := by decide +kernel
theorem dW_copy_30 : decode cW_copy 30 = .ok (.aload_n 0, 1) := by decide +kernel
theorem dW_copy_31 : decode cW_copy 31 = .ok (.aload_n 1, 1) := by decide +kernel
theorem dW_copy_32 : decode cW_copy 32 = .ok (.getfield 21, 3) := by decide +kernel
theorem dW_copy_35 : decode cW_copy 35 = .ok (.putfield 21, 3) := by decide +kernel
theorem dW_copy_38 : decode cW_copy 38 = .ok (.return_, 1) := by decide +kernel
abbrev cW_stretch : ByteArray := prog_4_method_5_code
abbrev yW_stretch : MethodName := ⟨"WholeDesk$Whole", "stretch", "(I)V"⟩
theorem qW_stretch : yW_stretch.cls ≠ "java/lang/invoke/MethodHandle" ∧ yW_stretch.cls ≠ "java/lang/invoke/VarHandle" ∧ (parseMethodDescriptor yW_stretch.desc).map (fun d => d.parameters.length) = some 1 := by decide +kernel
theorem dW_stretch_0 : decode cW_stretch 0 = .ok (.iload_n 1, 1) := by decide +kernel
theorem dW_stretch_1 : decode cW_stretch 1 = .ok (.sipush 152, 3) := by decide +kernel
theorem dW_stretch_4 : decode cW_stretch 4 = .ok (.invokestatic 32, 3) := by decide +kernel
theorem dW_stretch_7 : decode cW_stretch 7 = .ok (.istore_n 2, 1) := by decide +kernel
theorem dW_stretch_8 : decode cW_stretch 8 = .ok (.aload_n 0, 1) := by decide +kernel
theorem dW_stretch_9 : decode cW_stretch 9 = .ok (.getfield 17, 3) := by decide +kernel
theorem dW_stretch_12 : decode cW_stretch 12 = .ok (.istore_n 3, 1) := by decide +kernel
theorem dW_stretch_13 : decode cW_stretch 13 = .ok (.iload_n 3, 1) := by decide +kernel
theorem dW_stretch_14 : decode cW_stretch 14 = .ok (.iload_n 2, 1) := by decide +kernel
theorem dW_stretch_15 : decode cW_stretch 15 = .ok (.if_icmp .ge 16, 3) := by decide +kernel
theorem dW_stretch_18 : decode cW_stretch 18 = .ok (.aload_n 0, 1) := by decide +kernel
theorem dW_stretch_19 : decode cW_stretch 19 = .ok (.getfield 11, 3) := by decide +kernel
theorem dW_stretch_22 : decode cW_stretch 22 = .ok (.iload_n 3, 1) := by decide +kernel
theorem dW_stretch_23 : decode cW_stretch 23 = .ok (.lconst 0, 1) := by decide +kernel
theorem dW_stretch_24 : decode cW_stretch 24 = .ok (.lastore, 1) := by decide +kernel
theorem dW_stretch_25 : decode cW_stretch 25 = .ok (.iinc 3 1, 3) := by decide +kernel
theorem dW_stretch_28 : decode cW_stretch 28 = .ok (.goto (-15), 3) := by decide +kernel
theorem dW_stretch_31 : decode cW_stretch 31 = .ok (.aload_n 0, 1) := by decide +kernel
theorem dW_stretch_32 : decode cW_stretch 32 = .ok (.aload_n 0, 1) := by decide +kernel
theorem dW_stretch_33 : decode cW_stretch 33 = .ok (.getfield 17, 3) := by decide +kernel
theorem dW_stretch_36 : decode cW_stretch 36 = .ok (.iload_n 2, 1) := by decide +kernel
theorem dW_stretch_37 : decode cW_stretch 37 = .ok (.invokestatic 44, 3) := by decide +kernel
theorem dW_stretch_40 : decode cW_stretch 40 = .ok (.putfield 17, 3) := by decide +kernel
theorem dW_stretch_43 : decode cW_stretch 43 = .ok (.return_, 1) := by decide +kernel
abbrev cW_trim : ByteArray := prog_4_method_6_code
abbrev yW_trim : MethodName := ⟨"WholeDesk$Whole", "trim", "()V"⟩
theorem qW_trim : yW_trim.cls ≠ "java/lang/invoke/MethodHandle" ∧ yW_trim.cls ≠ "java/lang/invoke/VarHandle" ∧ (parseMethodDescriptor yW_trim.desc).map (fun d => d.parameters.length) = some 0 := by decide +kernel
theorem dW_trim_0 : decode cW_trim 0 = .ok (.aload_n 0, 1) := by decide +kernel
theorem dW_trim_1 : decode cW_trim 1 = .ok (.getfield 17, 3) := by decide +kernel
theorem dW_trim_4 : decode cW_trim 4 = .ok (.ifCond .le 32, 3) := by decide +kernel
theorem dW_trim_7 : decode cW_trim 7 = .ok (.aload_n 0, 1) := by decide +kernel
theorem dW_trim_8 : decode cW_trim 8 = .ok (.getfield 11, 3) := by decide +kernel
theorem dW_trim_11 : decode cW_trim 11 = .ok (.aload_n 0, 1) := by decide +kernel
theorem dW_trim_12 : decode cW_trim 12 = .ok (.getfield 17, 3) := by decide +kernel
theorem dW_trim_15 : decode cW_trim 15 = .ok (.iconst 1, 1) := by decide +kernel
theorem dW_trim_16 : decode cW_trim 16 = .ok (.isub, 1) := by decide +kernel
theorem dW_trim_17 : decode cW_trim 17 = .ok (.laload, 1) := by decide +kernel
theorem dW_trim_18 : decode cW_trim 18 = .ok (.lconst 0, 1) := by decide +kernel
theorem dW_trim_19 : decode cW_trim 19 = .ok (.lcmp, 1) := by decide +kernel
theorem dW_trim_20 : decode cW_trim 20 = .ok (.ifCond .ne 16, 3) := by decide +kernel
theorem dW_trim_23 : decode cW_trim 23 = .ok (.aload_n 0, 1) := by decide +kernel
theorem dW_trim_24 : decode cW_trim 24 = .ok (.dup, 1) := by decide +kernel
theorem dW_trim_25 : decode cW_trim 25 = .ok (.getfield 17, 3) := by decide +kernel
theorem dW_trim_28 : decode cW_trim 28 = .ok (.iconst 1, 1) := by decide +kernel
theorem dW_trim_29 : decode cW_trim 29 = .ok (.isub, 1) := by decide +kernel
theorem dW_trim_30 : decode cW_trim 30 = .ok (.putfield 17, 3) := by decide +kernel
theorem dW_trim_33 : decode cW_trim 33 = .ok (.goto (-33), 3) := by decide +kernel
theorem dW_trim_36 : decode cW_trim 36 = .ok (.aload_n 0, 1) := by decide +kernel
theorem dW_trim_37 : decode cW_trim 37 = .ok (.aload_n 0, 1) := by decide +kernel
theorem dW_trim_38 : decode cW_trim 38 = .ok (.getfield 21, 3) := by decide +kernel
theorem dW_trim_41 : decode cW_trim 41 = .ok (.ifCond .eq 14, 3) := by decide +kernel
theorem dW_trim_44 : decode cW_trim 44 = .ok (.aload_n 0, 1) := by decide +kernel
theorem dW_trim_45 : decode cW_trim 45 = .ok (.getfield 17, 3) := by decide +kernel
theorem dW_trim_48 : decode cW_trim 48 = .ok (.ifCond .le 7, 3) := by decide +kernel
theorem dW_trim_51 : decode cW_trim 51 = .ok (.iconst 1, 1) := by decide +kernel
theorem dW_trim_52 : decode cW_trim 52 = .ok (.goto 4, 3) := by decide +kernel
theorem dW_trim_55 : decode cW_trim 55 = .ok (.iconst 0, 1) := by decide +kernel
theorem dW_trim_56 : decode cW_trim 56 = .ok (.putfield 21, 3) := by decide +kernel
theorem dW_trim_59 : decode cW_trim 59 = .ok (.return_, 1) := by decide +kernel
abbrev cW_limb : ByteArray := prog_4_method_7_code
abbrev yW_limb : MethodName := ⟨"WholeDesk$Whole", "limb", "(I)J"⟩
theorem qW_limb : yW_limb.cls ≠ "java/lang/invoke/MethodHandle" ∧ yW_limb.cls ≠ "java/lang/invoke/VarHandle" ∧ (parseMethodDescriptor yW_limb.desc).map (fun d => d.parameters.length) = some 1 := by decide +kernel
theorem dW_limb_0 : decode cW_limb 0 = .ok (.iload_n 1, 1) := by decide +kernel
theorem dW_limb_1 : decode cW_limb 1 = .ok (.ifCond .lt 20, 3) := by decide +kernel
theorem dW_limb_4 : decode cW_limb 4 = .ok (.iload_n 1, 1) := by decide +kernel
theorem dW_limb_5 : decode cW_limb 5 = .ok (.aload_n 0, 1) := by decide +kernel
theorem dW_limb_6 : decode cW_limb 6 = .ok (.getfield 17, 3) := by decide +kernel
theorem dW_limb_9 : decode cW_limb 9 = .ok (.if_icmp .ge 12, 3) := by decide +kernel
theorem dW_limb_12 : decode cW_limb 12 = .ok (.aload_n 0, 1) := by decide +kernel
theorem dW_limb_13 : decode cW_limb 13 = .ok (.getfield 11, 3) := by decide +kernel
theorem dW_limb_16 : decode cW_limb 16 = .ok (.iload_n 1, 1) := by decide +kernel
theorem dW_limb_17 : decode cW_limb 17 = .ok (.laload, 1) := by decide +kernel
theorem dW_limb_18 : decode cW_limb 18 = .ok (.goto 4, 3) := by decide +kernel
theorem dW_limb_21 : decode cW_limb 21 = .ok (.lconst 0, 1) := by decide +kernel
theorem dW_limb_22 : decode cW_limb 22 = .ok (.lreturn, 1) := by decide +kernel
abbrev cW_limbShifted : ByteArray := prog_4_method_8_code
abbrev yW_limbShifted : MethodName := ⟨"WholeDesk$Whole", "limbShifted", "(II)J"⟩
theorem qW_limbShifted : yW_limbShifted.cls ≠ "java/lang/invoke/MethodHandle" ∧ yW_limbShifted.cls ≠ "java/lang/invoke/VarHandle" ∧ (parseMethodDescriptor yW_limbShifted.desc).map (fun d => d.parameters.length) = some 2 := by decide +kernel
theorem dW_limbShifted_0 : decode cW_limbShifted 0 = .ok (.iload_n 1, 1) := by decide +kernel
theorem dW_limbShifted_1 : decode cW_limbShifted 1 = .ok (.ifCond .lt 20, 3) := by decide +kernel
theorem dW_limbShifted_4 : decode cW_limbShifted 4 = .ok (.iload_n 1, 1) := by decide +kernel
theorem dW_limbShifted_5 : decode cW_limbShifted 5 = .ok (.aload_n 0, 1) := by decide +kernel
theorem dW_limbShifted_6 : decode cW_limbShifted 6 = .ok (.getfield 17, 3) := by decide +kernel
theorem dW_limbShifted_9 : decode cW_limbShifted 9 = .ok (.if_icmp .ge 12, 3) := by decide +kernel
theorem dW_limbShifted_12 : decode cW_limbShifted 12 = .ok (.aload_n 0, 1) := by decide +kernel
theorem dW_limbShifted_13 : decode cW_limbShifted 13 = .ok (.getfield 11, 3) := by decide +kernel
theorem dW_limbShifted_16 : decode cW_limbShifted 16 = .ok (.iload_n 1, 1) := by decide +kernel
theorem dW_limbShifted_17 : decode cW_limbShifted 17 = .ok (.laload, 1) := by decide +kernel
theorem dW_limbShifted_18 : decode cW_limbShifted 18 = .ok (.goto 4, 3) := by decide +kernel
theorem dW_limbShifted_21 : decode cW_limbShifted 21 = .ok (.lconst 0, 1) := by decide +kernel
theorem dW_limbShifted_22 : decode cW_limbShifted 22 = .ok (.lstore_n 3, 1) := by decide +kernel
theorem dW_limbShifted_23 : decode cW_limbShifted 23 = .ok (.iload_n 1, 1) := by decide +kernel
theorem dW_limbShifted_24 : decode cW_limbShifted 24 = .ok (.iconst 1, 1) := by decide +kernel
theorem dW_limbShifted_25 : decode cW_limbShifted 25 = .ok (.if_icmp .lt 22, 3) := by decide +kernel
theorem dW_limbShifted_28 : decode cW_limbShifted 28 = .ok (.iload_n 1, 1) := by decide +kernel
theorem dW_limbShifted_29 : decode cW_limbShifted 29 = .ok (.aload_n 0, 1) := by decide +kernel
theorem dW_limbShifted_30 : decode cW_limbShifted 30 = .ok (.getfield 17, 3) := by decide +kernel
theorem dW_limbShifted_33 : decode cW_limbShifted 33 = .ok (.if_icmp .gt 14, 3) := by decide +kernel
theorem dW_limbShifted_36 : decode cW_limbShifted 36 = .ok (.aload_n 0, 1) := by decide +kernel
theorem dW_limbShifted_37 : decode cW_limbShifted 37 = .ok (.getfield 11, 3) := by decide +kernel
theorem dW_limbShifted_40 : decode cW_limbShifted 40 = .ok (.iload_n 1, 1) := by decide +kernel
theorem dW_limbShifted_41 : decode cW_limbShifted 41 = .ok (.iconst 1, 1) := by decide +kernel
theorem dW_limbShifted_42 : decode cW_limbShifted 42 = .ok (.isub, 1) := by decide +kernel
theorem dW_limbShifted_43 : decode cW_limbShifted 43 = .ok (.laload, 1) := by decide +kernel
theorem dW_limbShifted_44 : decode cW_limbShifted 44 = .ok (.goto 4, 3) := by decide +kernel
theorem dW_limbShifted_47 : decode cW_limbShifted 47 = .ok (.lconst 0, 1) := by decide +kernel
theorem dW_limbShifted_48 : decode cW_limbShifted 48 = .ok (.lstore 5, 2) := by decide +kernel
theorem dW_limbShifted_50 : decode cW_limbShifted 50 = .ok (.lload_n 3, 1) := by decide +kernel
theorem dW_limbShifted_51 : decode cW_limbShifted 51 = .ok (.iload_n 2, 1) := by decide +kernel
theorem dW_limbShifted_52 : decode cW_limbShifted 52 = .ok (.lshl, 1) := by decide +kernel
theorem dW_limbShifted_53 : decode cW_limbShifted 53 = .ok (.lload 5, 2) := by decide +kernel
theorem dW_limbShifted_55 : decode cW_limbShifted 55 = .ok (.bipush 28, 2) := by decide +kernel
theorem dW_limbShifted_57 : decode cW_limbShifted 57 = .ok (.iload_n 2, 1) := by decide +kernel
theorem dW_limbShifted_58 : decode cW_limbShifted 58 = .ok (.isub, 1) := by decide +kernel
theorem dW_limbShifted_59 : decode cW_limbShifted 59 = .ok (.lushr, 1) := by decide +kernel
theorem dW_limbShifted_60 : decode cW_limbShifted 60 = .ok (.lor, 1) := by decide +kernel
theorem dW_limbShifted_61 : decode cW_limbShifted 61 = .ok (.ldc2_w 15, 3) := by decide +kernel
theorem dW_limbShifted_64 : decode cW_limbShifted 64 = .ok (.land, 1) := by decide +kernel
theorem dW_limbShifted_65 : decode cW_limbShifted 65 = .ok (.lreturn, 1) := by decide +kernel
abbrev cW_bits : ByteArray := prog_4_method_9_code
abbrev yW_bits : MethodName := ⟨"WholeDesk$Whole", "bits", "()I"⟩
theorem qW_bits : yW_bits.cls ≠ "java/lang/invoke/MethodHandle" ∧ yW_bits.cls ≠ "java/lang/invoke/VarHandle" ∧ (parseMethodDescriptor yW_bits.desc).map (fun d => d.parameters.length) = some 0 := by decide +kernel
theorem dW_bits_0 : decode cW_bits 0 = .ok (.aload_n 0, 1) := by decide +kernel
theorem dW_bits_1 : decode cW_bits 1 = .ok (.getfield 17, 3) := by decide +kernel
theorem dW_bits_4 : decode cW_bits 4 = .ok (.ifCond .ne 7, 3) := by decide +kernel
theorem dW_bits_7 : decode cW_bits 7 = .ok (.iconst 0, 1) := by decide +kernel
theorem dW_bits_8 : decode cW_bits 8 = .ok (.goto 26, 3) := by decide +kernel
theorem dW_bits_11 : decode cW_bits 11 = .ok (.aload_n 0, 1) := by decide +kernel
theorem dW_bits_12 : decode cW_bits 12 = .ok (.getfield 17, 3) := by decide +kernel
theorem dW_bits_15 : decode cW_bits 15 = .ok (.iconst 1, 1) := by decide +kernel
theorem dW_bits_16 : decode cW_bits 16 = .ok (.isub, 1) := by decide +kernel
theorem dW_bits_17 : decode cW_bits 17 = .ok (.bipush 28, 2) := by decide +kernel
theorem dW_bits_19 : decode cW_bits 19 = .ok (.imul, 1) := by decide +kernel
theorem dW_bits_20 : decode cW_bits 20 = .ok (.aload_n 0, 1) := by decide +kernel
theorem dW_bits_21 : decode cW_bits 21 = .ok (.aload_n 0, 1) := by decide +kernel
theorem dW_bits_22 : decode cW_bits 22 = .ok (.getfield 17, 3) := by decide +kernel
theorem dW_bits_25 : decode cW_bits 25 = .ok (.iconst 1, 1) := by decide +kernel
theorem dW_bits_26 : decode cW_bits 26 = .ok (.isub, 1) := by decide +kernel
theorem dW_bits_27 : decode cW_bits 27 = .ok (.invokevirtual 47, 3) := by decide +kernel
theorem dW_bits_30 : decode cW_bits 30 = .ok (.invokestatic 51, 3) := by decide +kernel
theorem dW_bits_33 : decode cW_bits 33 = .ok (.iadd, 1) := by decide +kernel
theorem dW_bits_34 : decode cW_bits 34 = .ok (.ireturn, 1) := by decide +kernel
abbrev cW_digitsOf : ByteArray := prog_4_method_10_code
abbrev yW_digitsOf : MethodName := ⟨"WholeDesk$Whole", "digitsOf", "(J)I"⟩
theorem qW_digitsOf : yW_digitsOf.cls ≠ "java/lang/invoke/MethodHandle" ∧ yW_digitsOf.cls ≠ "java/lang/invoke/VarHandle" ∧ (parseMethodDescriptor yW_digitsOf.desc).map (fun d => d.parameters.length) = some 1 := by decide +kernel
theorem dW_digitsOf_0 : decode cW_digitsOf 0 = .ok (.iconst 0, 1) := by decide +kernel
theorem dW_digitsOf_1 : decode cW_digitsOf 1 = .ok (.istore_n 2, 1) := by decide +kernel
theorem dW_digitsOf_2 : decode cW_digitsOf 2 = .ok (.lload_n 0, 1) := by decide +kernel
theorem dW_digitsOf_3 : decode cW_digitsOf 3 = .ok (.lstore_n 3, 1) := by decide +kernel
theorem dW_digitsOf_4 : decode cW_digitsOf 4 = .ok (.lload_n 3, 1) := by decide +kernel
theorem dW_digitsOf_5 : decode cW_digitsOf 5 = .ok (.lconst 0, 1) := by decide +kernel
theorem dW_digitsOf_6 : decode cW_digitsOf 6 = .ok (.lcmp, 1) := by decide +kernel
theorem dW_digitsOf_7 : decode cW_digitsOf 7 = .ok (.ifCond .eq 19, 3) := by decide +kernel
theorem dW_digitsOf_10 : decode cW_digitsOf 10 = .ok (.iload_n 2, 1) := by decide +kernel
theorem dW_digitsOf_11 : decode cW_digitsOf 11 = .ok (.bipush 28, 2) := by decide +kernel
theorem dW_digitsOf_13 : decode cW_digitsOf 13 = .ok (.if_icmp .ge 13, 3) := by decide +kernel
theorem dW_digitsOf_16 : decode cW_digitsOf 16 = .ok (.iinc 2 1, 3) := by decide +kernel
theorem dW_digitsOf_19 : decode cW_digitsOf 19 = .ok (.lload_n 3, 1) := by decide +kernel
theorem dW_digitsOf_20 : decode cW_digitsOf 20 = .ok (.iconst 1, 1) := by decide +kernel
theorem dW_digitsOf_21 : decode cW_digitsOf 21 = .ok (.lushr, 1) := by decide +kernel
theorem dW_digitsOf_22 : decode cW_digitsOf 22 = .ok (.lstore_n 3, 1) := by decide +kernel
theorem dW_digitsOf_23 : decode cW_digitsOf 23 = .ok (.goto (-19), 3) := by decide +kernel
theorem dW_digitsOf_26 : decode cW_digitsOf 26 = .ok (.iload_n 2, 1) := by decide +kernel
theorem dW_digitsOf_27 : decode cW_digitsOf 27 = .ok (.ireturn, 1) := by decide +kernel
abbrev cW_sign : ByteArray := prog_4_method_11_code
abbrev yW_sign : MethodName := ⟨"WholeDesk$Whole", "sign", "()I"⟩
theorem qW_sign : yW_sign.cls ≠ "java/lang/invoke/MethodHandle" ∧ yW_sign.cls ≠ "java/lang/invoke/VarHandle" ∧ (parseMethodDescriptor yW_sign.desc).map (fun d => d.parameters.length) = some 0 := by decide +kernel
theorem dW_sign_0 : decode cW_sign 0 = .ok (.aload_n 0, 1) := by decide +kernel
theorem dW_sign_1 : decode cW_sign 1 = .ok (.getfield 17, 3) := by decide +kernel
theorem dW_sign_4 : decode cW_sign 4 = .ok (.ifCond .ne 5, 3) := by decide +kernel
theorem dW_sign_7 : decode cW_sign 7 = .ok (.iconst 0, 1) := by decide +kernel
theorem dW_sign_8 : decode cW_sign 8 = .ok (.ireturn, 1) := by decide +kernel
theorem dW_sign_9 : decode cW_sign 9 = .ok (.aload_n 0, 1) := by decide +kernel
theorem dW_sign_10 : decode cW_sign 10 = .ok (.getfield 21, 3) := by decide +kernel
theorem dW_sign_13 : decode cW_sign 13 = .ok (.ifCond .eq 7, 3) := by decide +kernel
theorem dW_sign_16 : decode cW_sign 16 = .ok (.iconst (-1), 1) := by decide +kernel
theorem dW_sign_17 : decode cW_sign 17 = .ok (.goto 4, 3) := by decide +kernel
theorem dW_sign_20 : decode cW_sign 20 = .ok (.iconst 1, 1) := by decide +kernel
theorem dW_sign_21 : decode cW_sign 21 = .ok (.ireturn, 1) := by decide +kernel
abbrev cW_sizeAgainst : ByteArray := prog_4_method_12_code
abbrev yW_sizeAgainst : MethodName := ⟨"WholeDesk$Whole", "sizeAgainst", "(LWholeDesk$Whole;)I"⟩
theorem qW_sizeAgainst : yW_sizeAgainst.cls ≠ "java/lang/invoke/MethodHandle" ∧ yW_sizeAgainst.cls ≠ "java/lang/invoke/VarHandle" ∧ (parseMethodDescriptor yW_sizeAgainst.desc).map (fun d => d.parameters.length) = some 1 := by decide +kernel
theorem dW_sizeAgainst_0 : decode cW_sizeAgainst 0 = .ok (.aload_n 0, 1) := by decide +kernel
theorem dW_sizeAgainst_1 : decode cW_sizeAgainst 1 = .ok (.getfield 17, 3) := by decide +kernel
theorem dW_sizeAgainst_4 : decode cW_sizeAgainst 4 = .ok (.aload_n 1, 1) := by decide +kernel
theorem dW_sizeAgainst_5 : decode cW_sizeAgainst 5 = .ok (.getfield 17, 3) := by decide +kernel
theorem dW_sizeAgainst_8 : decode cW_sizeAgainst 8 = .ok (.if_icmp .eq 20, 3) := by decide +kernel
theorem dW_sizeAgainst_11 : decode cW_sizeAgainst 11 = .ok (.aload_n 0, 1) := by decide +kernel
theorem dW_sizeAgainst_12 : decode cW_sizeAgainst 12 = .ok (.getfield 17, 3) := by decide +kernel
theorem dW_sizeAgainst_15 : decode cW_sizeAgainst 15 = .ok (.aload_n 1, 1) := by decide +kernel
theorem dW_sizeAgainst_16 : decode cW_sizeAgainst 16 = .ok (.getfield 17, 3) := by decide +kernel
theorem dW_sizeAgainst_19 : decode cW_sizeAgainst 19 = .ok (.if_icmp .ge 7, 3) := by decide +kernel
theorem dW_sizeAgainst_22 : decode cW_sizeAgainst 22 = .ok (.iconst (-1), 1) := by decide +kernel
theorem dW_sizeAgainst_23 : decode cW_sizeAgainst 23 = .ok (.goto 4, 3) := by decide +kernel
theorem dW_sizeAgainst_26 : decode cW_sizeAgainst 26 = .ok (.iconst 1, 1) := by decide +kernel
theorem dW_sizeAgainst_27 : decode cW_sizeAgainst 27 = .ok (.ireturn, 1) := by decide +kernel
theorem dW_sizeAgainst_28 : decode cW_sizeAgainst 28 = .ok (.aload_n 0, 1) := by decide +kernel
theorem dW_sizeAgainst_29 : decode cW_sizeAgainst 29 = .ok (.getfield 17, 3) := by decide +kernel
theorem dW_sizeAgainst_32 : decode cW_sizeAgainst 32 = .ok (.iconst 1, 1) := by decide +kernel
theorem dW_sizeAgainst_33 : decode cW_sizeAgainst 33 = .ok (.isub, 1) := by decide +kernel
theorem dW_sizeAgainst_34 : decode cW_sizeAgainst 34 = .ok (.istore_n 2, 1) := by decide +kernel
theorem dW_sizeAgainst_35 : decode cW_sizeAgainst 35 = .ok (.iload_n 2, 1) := by decide +kernel
theorem dW_sizeAgainst_36 : decode cW_sizeAgainst 36 = .ok (.ifCond .lt 47, 3) := by decide +kernel
theorem dW_sizeAgainst_39 : decode cW_sizeAgainst 39 = .ok (.aload_n 0, 1) := by decide +kernel
theorem dW_sizeAgainst_40 : decode cW_sizeAgainst 40 = .ok (.getfield 11, 3) := by decide +kernel
theorem dW_sizeAgainst_43 : decode cW_sizeAgainst 43 = .ok (.iload_n 2, 1) := by decide +kernel
theorem dW_sizeAgainst_44 : decode cW_sizeAgainst 44 = .ok (.laload, 1) := by decide +kernel
theorem dW_sizeAgainst_45 : decode cW_sizeAgainst 45 = .ok (.aload_n 1, 1) := by decide +kernel
theorem dW_sizeAgainst_46 : decode cW_sizeAgainst 46 = .ok (.getfield 11, 3) := by decide +kernel
theorem dW_sizeAgainst_49 : decode cW_sizeAgainst 49 = .ok (.iload_n 2, 1) := by decide +kernel
theorem dW_sizeAgainst_50 : decode cW_sizeAgainst 50 = .ok (.laload, 1) := by decide +kernel
theorem dW_sizeAgainst_51 : decode cW_sizeAgainst 51 = .ok (.lcmp, 1) := by decide +kernel
theorem dW_sizeAgainst_52 : decode cW_sizeAgainst 52 = .ok (.ifCond .eq 25, 3) := by decide +kernel
theorem dW_sizeAgainst_55 : decode cW_sizeAgainst 55 = .ok (.aload_n 0, 1) := by decide +kernel
theorem dW_sizeAgainst_56 : decode cW_sizeAgainst 56 = .ok (.getfield 11, 3) := by decide +kernel
theorem dW_sizeAgainst_59 : decode cW_sizeAgainst 59 = .ok (.iload_n 2, 1) := by decide +kernel
theorem dW_sizeAgainst_60 : decode cW_sizeAgainst 60 = .ok (.laload, 1) := by decide +kernel
theorem dW_sizeAgainst_61 : decode cW_sizeAgainst 61 = .ok (.aload_n 1, 1) := by decide +kernel
theorem dW_sizeAgainst_62 : decode cW_sizeAgainst 62 = .ok (.getfield 11, 3) := by decide +kernel
theorem dW_sizeAgainst_65 : decode cW_sizeAgainst 65 = .ok (.iload_n 2, 1) := by decide +kernel
theorem dW_sizeAgainst_66 : decode cW_sizeAgainst 66 = .ok (.laload, 1) := by decide +kernel
theorem dW_sizeAgainst_67 : decode cW_sizeAgainst 67 = .ok (.lcmp, 1) := by decide +kernel
theorem dW_sizeAgainst_68 : decode cW_sizeAgainst 68 = .ok (.ifCond .ge 7, 3) := by decide +kernel
theorem dW_sizeAgainst_71 : decode cW_sizeAgainst 71 = .ok (.iconst (-1), 1) := by decide +kernel
theorem dW_sizeAgainst_72 : decode cW_sizeAgainst 72 = .ok (.goto 4, 3) := by decide +kernel
theorem dW_sizeAgainst_75 : decode cW_sizeAgainst 75 = .ok (.iconst 1, 1) := by decide +kernel
theorem dW_sizeAgainst_76 : decode cW_sizeAgainst 76 = .ok (.ireturn, 1) := by decide +kernel
theorem dW_sizeAgainst_77 : decode cW_sizeAgainst 77 = .ok (.iinc 2 (-1), 3) := by decide +kernel
theorem dW_sizeAgainst_80 : decode cW_sizeAgainst 80 = .ok (.goto (-45), 3) := by decide +kernel
theorem dW_sizeAgainst_83 : decode cW_sizeAgainst 83 = .ok (.iconst 0, 1) := by decide +kernel
theorem dW_sizeAgainst_84 : decode cW_sizeAgainst 84 = .ok (.ireturn, 1) := by decide +kernel
abbrev cW_against : ByteArray := prog_4_method_13_code
abbrev yW_against : MethodName := ⟨"WholeDesk$Whole", "against", "(LWholeDesk$Whole;)I"⟩
theorem qW_against : yW_against.cls ≠ "java/lang/invoke/MethodHandle" ∧ yW_against.cls ≠ "java/lang/invoke/VarHandle" ∧ (parseMethodDescriptor yW_against.desc).map (fun d => d.parameters.length) = some 1 := by decide +kernel
theorem dW_against_0 : decode cW_against 0 = .ok (.aload_n 0, 1) := by decide +kernel
theorem dW_against_1 : decode cW_against 1 = .ok (.getfield 21, 3) := by decide +kernel
theorem dW_against_4 : decode cW_against 4 = .ok (.aload_n 1, 1) := by decide +kernel
theorem dW_against_5 : decode cW_against 5 = .ok (.getfield 21, 3) := by decide +kernel
theorem dW_against_8 : decode cW_against 8 = .ok (.if_icmp .eq 16, 3) := by decide +kernel
theorem dW_against_11 : decode cW_against 11 = .ok (.aload_n 0, 1) := by decide +kernel
theorem dW_against_12 : decode cW_against 12 = .ok (.getfield 21, 3) := by decide +kernel
theorem dW_against_15 : decode cW_against 15 = .ok (.ifCond .eq 7, 3) := by decide +kernel
theorem dW_against_18 : decode cW_against 18 = .ok (.iconst (-1), 1) := by decide +kernel
theorem dW_against_19 : decode cW_against 19 = .ok (.goto 4, 3) := by decide +kernel
theorem dW_against_22 : decode cW_against 22 = .ok (.iconst 1, 1) := by decide +kernel
theorem dW_against_23 : decode cW_against 23 = .ok (.ireturn, 1) := by decide +kernel
theorem dW_against_24 : decode cW_against 24 = .ok (.aload_n 0, 1) := by decide +kernel
theorem dW_against_25 : decode cW_against 25 = .ok (.getfield 21, 3) := by decide +kernel
theorem dW_against_28 : decode cW_against 28 = .ok (.ifCond .eq 11, 3) := by decide +kernel
theorem dW_against_31 : decode cW_against 31 = .ok (.aload_n 1, 1) := by decide +kernel
theorem dW_against_32 : decode cW_against 32 = .ok (.aload_n 0, 1) := by decide +kernel
theorem dW_against_33 : decode cW_against 33 = .ok (.invokevirtual 55, 3) := by decide +kernel
theorem dW_against_36 : decode cW_against 36 = .ok (.goto 8, 3) := by decide +kernel
theorem dW_against_39 : decode cW_against 39 = .ok (.aload_n 0, 1) := by decide +kernel
theorem dW_against_40 : decode cW_against 40 = .ok (.aload_n 1, 1) := by decide +kernel
theorem dW_against_41 : decode cW_against 41 = .ok (.invokevirtual 55, 3) := by decide +kernel
theorem dW_against_44 : decode cW_against 44 = .ok (.ireturn, 1) := by decide +kernel
abbrev cW_isOne : ByteArray := prog_4_method_14_code
abbrev yW_isOne : MethodName := ⟨"WholeDesk$Whole", "isOne", "()Z"⟩
theorem qW_isOne : yW_isOne.cls ≠ "java/lang/invoke/MethodHandle" ∧ yW_isOne.cls ≠ "java/lang/invoke/VarHandle" ∧ (parseMethodDescriptor yW_isOne.desc).map (fun d => d.parameters.length) = some 0 := by decide +kernel
theorem dW_isOne_0 : decode cW_isOne 0 = .ok (.aload_n 0, 1) := by decide +kernel
theorem dW_isOne_1 : decode cW_isOne 1 = .ok (.getfield 17, 3) := by decide +kernel
theorem dW_isOne_4 : decode cW_isOne 4 = .ok (.iconst 1, 1) := by decide +kernel
theorem dW_isOne_5 : decode cW_isOne 5 = .ok (.if_icmp .ne 25, 3) := by decide +kernel
theorem dW_isOne_8 : decode cW_isOne 8 = .ok (.aload_n 0, 1) := by decide +kernel
theorem dW_isOne_9 : decode cW_isOne 9 = .ok (.getfield 11, 3) := by decide +kernel
theorem dW_isOne_12 : decode cW_isOne 12 = .ok (.iconst 0, 1) := by decide +kernel
theorem dW_isOne_13 : decode cW_isOne 13 = .ok (.laload, 1) := by decide +kernel
theorem dW_isOne_14 : decode cW_isOne 14 = .ok (.lconst 1, 1) := by decide +kernel
theorem dW_isOne_15 : decode cW_isOne 15 = .ok (.lcmp, 1) := by decide +kernel
theorem dW_isOne_16 : decode cW_isOne 16 = .ok (.ifCond .ne 14, 3) := by decide +kernel
theorem dW_isOne_19 : decode cW_isOne 19 = .ok (.aload_n 0, 1) := by decide +kernel
theorem dW_isOne_20 : decode cW_isOne 20 = .ok (.getfield 21, 3) := by decide +kernel
theorem dW_isOne_23 : decode cW_isOne 23 = .ok (.ifCond .ne 7, 3) := by decide +kernel
theorem dW_isOne_26 : decode cW_isOne 26 = .ok (.iconst 1, 1) := by decide +kernel
theorem dW_isOne_27 : decode cW_isOne 27 = .ok (.goto 4, 3) := by decide +kernel
theorem dW_isOne_30 : decode cW_isOne 30 = .ok (.iconst 0, 1) := by decide +kernel
theorem dW_isOne_31 : decode cW_isOne 31 = .ok (.ireturn, 1) := by decide +kernel
abbrev cW_lowest64 : ByteArray := prog_4_method_15_code
abbrev yW_lowest64 : MethodName := ⟨"WholeDesk$Whole", "lowest64", "()J"⟩
theorem qW_lowest64 : yW_lowest64.cls ≠ "java/lang/invoke/MethodHandle" ∧ yW_lowest64.cls ≠ "java/lang/invoke/VarHandle" ∧ (parseMethodDescriptor yW_lowest64.desc).map (fun d => d.parameters.length) = some 0 := by decide +kernel
theorem dW_lowest64_0 : decode cW_lowest64 0 = .ok (.aload_n 0, 1) := by decide +kernel
theorem dW_lowest64_1 : decode cW_lowest64 1 = .ok (.iconst 0, 1) := by decide +kernel
theorem dW_lowest64_2 : decode cW_lowest64 2 = .ok (.invokevirtual 47, 3) := by decide +kernel
theorem dW_lowest64_5 : decode cW_lowest64 5 = .ok (.aload_n 0, 1) := by decide +kernel
theorem dW_lowest64_6 : decode cW_lowest64 6 = .ok (.iconst 1, 1) := by decide +kernel
theorem dW_lowest64_7 : decode cW_lowest64 7 = .ok (.invokevirtual 47, 3) := by decide +kernel
theorem dW_lowest64_10 : decode cW_lowest64 10 = .ok (.bipush 28, 2) := by decide +kernel
theorem dW_lowest64_12 : decode cW_lowest64 12 = .ok (.lshl, 1) := by decide +kernel
theorem dW_lowest64_13 : decode cW_lowest64 13 = .ok (.lor, 1) := by decide +kernel
theorem dW_lowest64_14 : decode cW_lowest64 14 = .ok (.aload_n 0, 1) := by decide +kernel
theorem dW_lowest64_15 : decode cW_lowest64 15 = .ok (.iconst 2, 1) := by decide +kernel
theorem dW_lowest64_16 : decode cW_lowest64 16 = .ok (.invokevirtual 47, 3) := by decide +kernel
theorem dW_lowest64_19 : decode cW_lowest64 19 = .ok (.bipush 56, 2) := by decide +kernel
theorem dW_lowest64_21 : decode cW_lowest64 21 = .ok (.lshl, 1) := by decide +kernel
theorem dW_lowest64_22 : decode cW_lowest64 22 = .ok (.lor, 1) := by decide +kernel
theorem dW_lowest64_23 : decode cW_lowest64 23 = .ok (.lstore_n 1, 1) := by decide +kernel
theorem dW_lowest64_24 : decode cW_lowest64 24 = .ok (.aload_n 0, 1) := by decide +kernel
theorem dW_lowest64_25 : decode cW_lowest64 25 = .ok (.getfield 21, 3) := by decide +kernel
theorem dW_lowest64_28 : decode cW_lowest64 28 = .ok (.ifCond .eq 8, 3) := by decide +kernel
theorem dW_lowest64_31 : decode cW_lowest64 31 = .ok (.lload_n 1, 1) := by decide +kernel
theorem dW_lowest64_32 : decode cW_lowest64 32 = .ok (.lneg, 1) := by decide +kernel
theorem dW_lowest64_33 : decode cW_lowest64 33 = .ok (.goto 4, 3) := by decide +kernel
theorem dW_lowest64_36 : decode cW_lowest64 36 = .ok (.lload_n 1, 1) := by decide +kernel
theorem dW_lowest64_37 : decode cW_lowest64 37 = .ok (.lreturn, 1) := by decide +kernel
abbrev cW_lowestOne : ByteArray := prog_4_method_16_code
abbrev yW_lowestOne : MethodName := ⟨"WholeDesk$Whole", "lowestOne", "()I"⟩
theorem qW_lowestOne : yW_lowestOne.cls ≠ "java/lang/invoke/MethodHandle" ∧ yW_lowestOne.cls ≠ "java/lang/invoke/VarHandle" ∧ (parseMethodDescriptor yW_lowestOne.desc).map (fun d => d.parameters.length) = some 0 := by decide +kernel
theorem dW_lowestOne_0 : decode cW_lowestOne 0 = .ok (.iconst 0, 1) := by decide +kernel
theorem dW_lowestOne_1 : decode cW_lowestOne 1 = .ok (.istore_n 1, 1) := by decide +kernel
theorem dW_lowestOne_2 : decode cW_lowestOne 2 = .ok (.iload_n 1, 1) := by decide +kernel
theorem dW_lowestOne_3 : decode cW_lowestOne 3 = .ok (.aload_n 0, 1) := by decide +kernel
theorem dW_lowestOne_4 : decode cW_lowestOne 4 = .ok (.getfield 17, 3) := by decide +kernel
theorem dW_lowestOne_7 : decode cW_lowestOne 7 = .ok (.if_icmp .ge 45, 3) := by decide +kernel
theorem dW_lowestOne_10 : decode cW_lowestOne 10 = .ok (.aload_n 0, 1) := by decide +kernel
theorem dW_lowestOne_11 : decode cW_lowestOne 11 = .ok (.getfield 11, 3) := by decide +kernel
theorem dW_lowestOne_14 : decode cW_lowestOne 14 = .ok (.iload_n 1, 1) := by decide +kernel
theorem dW_lowestOne_15 : decode cW_lowestOne 15 = .ok (.laload, 1) := by decide +kernel
theorem dW_lowestOne_16 : decode cW_lowestOne 16 = .ok (.lconst 0, 1) := by decide +kernel
theorem dW_lowestOne_17 : decode cW_lowestOne 17 = .ok (.lcmp, 1) := by decide +kernel
theorem dW_lowestOne_18 : decode cW_lowestOne 18 = .ok (.ifCond .eq 28, 3) := by decide +kernel
theorem dW_lowestOne_21 : decode cW_lowestOne 21 = .ok (.iload_n 1, 1) := by decide +kernel
theorem dW_lowestOne_22 : decode cW_lowestOne 22 = .ok (.bipush 28, 2) := by decide +kernel
theorem dW_lowestOne_24 : decode cW_lowestOne 24 = .ok (.imul, 1) := by decide +kernel
theorem dW_lowestOne_25 : decode cW_lowestOne 25 = .ok (.aload_n 0, 1) := by decide +kernel
theorem dW_lowestOne_26 : decode cW_lowestOne 26 = .ok (.getfield 11, 3) := by decide +kernel
theorem dW_lowestOne_29 : decode cW_lowestOne 29 = .ok (.iload_n 1, 1) := by decide +kernel
theorem dW_lowestOne_30 : decode cW_lowestOne 30 = .ok (.laload, 1) := by decide +kernel
theorem dW_lowestOne_31 : decode cW_lowestOne 31 = .ok (.aload_n 0, 1) := by decide +kernel
theorem dW_lowestOne_32 : decode cW_lowestOne 32 = .ok (.getfield 11, 3) := by decide +kernel
theorem dW_lowestOne_35 : decode cW_lowestOne 35 = .ok (.iload_n 1, 1) := by decide +kernel
theorem dW_lowestOne_36 : decode cW_lowestOne 36 = .ok (.laload, 1) := by decide +kernel
theorem dW_lowestOne_37 : decode cW_lowestOne 37 = .ok (.lneg, 1) := by decide +kernel
theorem dW_lowestOne_38 : decode cW_lowestOne 38 = .ok (.land, 1) := by decide +kernel
theorem dW_lowestOne_39 : decode cW_lowestOne 39 = .ok (.lconst 1, 1) := by decide +kernel
theorem dW_lowestOne_40 : decode cW_lowestOne 40 = .ok (.lsub, 1) := by decide +kernel
theorem dW_lowestOne_41 : decode cW_lowestOne 41 = .ok (.invokestatic 59, 3) := by decide +kernel
theorem dW_lowestOne_44 : decode cW_lowestOne 44 = .ok (.iadd, 1) := by decide +kernel
theorem dW_lowestOne_45 : decode cW_lowestOne 45 = .ok (.ireturn, 1) := by decide +kernel
theorem dW_lowestOne_46 : decode cW_lowestOne 46 = .ok (.iinc 1 1, 3) := by decide +kernel
theorem dW_lowestOne_49 : decode cW_lowestOne 49 = .ok (.goto (-47), 3) := by decide +kernel
theorem dW_lowestOne_52 : decode cW_lowestOne 52 = .ok (.iconst (-1), 1) := by decide +kernel
theorem dW_lowestOne_53 : decode cW_lowestOne 53 = .ok (.ireturn, 1) := by decide +kernel
abbrev cW_bitAt : ByteArray := prog_4_method_17_code
abbrev yW_bitAt : MethodName := ⟨"WholeDesk$Whole", "bitAt", "(I)I"⟩
theorem qW_bitAt : yW_bitAt.cls ≠ "java/lang/invoke/MethodHandle" ∧ yW_bitAt.cls ≠ "java/lang/invoke/VarHandle" ∧ (parseMethodDescriptor yW_bitAt.desc).map (fun d => d.parameters.length) = some 1 := by decide +kernel
theorem dW_bitAt_0 : decode cW_bitAt 0 = .ok (.aload_n 0, 1) := by decide +kernel
theorem dW_bitAt_1 : decode cW_bitAt 1 = .ok (.iload_n 1, 1) := by decide +kernel
theorem dW_bitAt_2 : decode cW_bitAt 2 = .ok (.bipush 28, 2) := by decide +kernel
theorem dW_bitAt_4 : decode cW_bitAt 4 = .ok (.idiv, 1) := by decide +kernel
theorem dW_bitAt_5 : decode cW_bitAt 5 = .ok (.invokevirtual 47, 3) := by decide +kernel
theorem dW_bitAt_8 : decode cW_bitAt 8 = .ok (.iload_n 1, 1) := by decide +kernel
theorem dW_bitAt_9 : decode cW_bitAt 9 = .ok (.bipush 28, 2) := by decide +kernel
theorem dW_bitAt_11 : decode cW_bitAt 11 = .ok (.irem, 1) := by decide +kernel
theorem dW_bitAt_12 : decode cW_bitAt 12 = .ok (.lushr, 1) := by decide +kernel
theorem dW_bitAt_13 : decode cW_bitAt 13 = .ok (.l2i, 1) := by decide +kernel
theorem dW_bitAt_14 : decode cW_bitAt 14 = .ok (.iconst 1, 1) := by decide +kernel
theorem dW_bitAt_15 : decode cW_bitAt 15 = .ok (.iand, 1) := by decide +kernel
theorem dW_bitAt_16 : decode cW_bitAt 16 = .ok (.istore_n 2, 1) := by decide +kernel
theorem dW_bitAt_17 : decode cW_bitAt 17 = .ok (.aload_n 0, 1) := by decide +kernel
theorem dW_bitAt_18 : decode cW_bitAt 18 = .ok (.getfield 21, 3) := by decide +kernel
theorem dW_bitAt_21 : decode cW_bitAt 21 = .ok (.ifCond .eq 17, 3) := by decide +kernel
theorem dW_bitAt_24 : decode cW_bitAt 24 = .ok (.iload_n 1, 1) := by decide +kernel
theorem dW_bitAt_25 : decode cW_bitAt 25 = .ok (.aload_n 0, 1) := by decide +kernel
theorem dW_bitAt_26 : decode cW_bitAt 26 = .ok (.invokevirtual 64, 3) := by decide +kernel
theorem dW_bitAt_29 : decode cW_bitAt 29 = .ok (.if_icmp .le 9, 3) := by decide +kernel
theorem dW_bitAt_32 : decode cW_bitAt 32 = .ok (.iconst 1, 1) := by decide +kernel
theorem dW_bitAt_33 : decode cW_bitAt 33 = .ok (.iload_n 2, 1) := by decide +kernel
theorem dW_bitAt_34 : decode cW_bitAt 34 = .ok (.isub, 1) := by decide +kernel
theorem dW_bitAt_35 : decode cW_bitAt 35 = .ok (.goto 4, 3) := by decide +kernel
theorem dW_bitAt_38 : decode cW_bitAt 38 = .ok (.iload_n 2, 1) := by decide +kernel
theorem dW_bitAt_39 : decode cW_bitAt 39 = .ok (.ireturn, 1) := by decide +kernel
abbrev cW_length : ByteArray := prog_4_method_18_code
abbrev yW_length : MethodName := ⟨"WholeDesk$Whole", "length", "()I"⟩
theorem qW_length : yW_length.cls ≠ "java/lang/invoke/MethodHandle" ∧ yW_length.cls ≠ "java/lang/invoke/VarHandle" ∧ (parseMethodDescriptor yW_length.desc).map (fun d => d.parameters.length) = some 0 := by decide +kernel
theorem dW_length_0 : decode cW_length 0 = .ok (.aload_n 0, 1) := by decide +kernel
theorem dW_length_1 : decode cW_length 1 = .ok (.invokevirtual 68, 3) := by decide +kernel
theorem dW_length_4 : decode cW_length 4 = .ok (.istore_n 1, 1) := by decide +kernel
theorem dW_length_5 : decode cW_length 5 = .ok (.aload_n 0, 1) := by decide +kernel
theorem dW_length_6 : decode cW_length 6 = .ok (.getfield 21, 3) := by decide +kernel
theorem dW_length_9 : decode cW_length 9 = .ok (.ifCond .eq 19, 3) := by decide +kernel
theorem dW_length_12 : decode cW_length 12 = .ok (.aload_n 0, 1) := by decide +kernel
theorem dW_length_13 : decode cW_length 13 = .ok (.invokevirtual 64, 3) := by decide +kernel
theorem dW_length_16 : decode cW_length 16 = .ok (.iload_n 1, 1) := by decide +kernel
theorem dW_length_17 : decode cW_length 17 = .ok (.iconst 1, 1) := by decide +kernel
theorem dW_length_18 : decode cW_length 18 = .ok (.isub, 1) := by decide +kernel
theorem dW_length_19 : decode cW_length 19 = .ok (.if_icmp .ne 9, 3) := by decide +kernel
theorem dW_length_22 : decode cW_length 22 = .ok (.iload_n 1, 1) := by decide +kernel
theorem dW_length_23 : decode cW_length 23 = .ok (.iconst 1, 1) := by decide +kernel
theorem dW_length_24 : decode cW_length 24 = .ok (.isub, 1) := by decide +kernel
theorem dW_length_25 : decode cW_length 25 = .ok (.goto 4, 3) := by decide +kernel
theorem dW_length_28 : decode cW_length 28 = .ok (.iload_n 1, 1) := by decide +kernel
theorem dW_length_29 : decode cW_length 29 = .ok (.ireturn, 1) := by decide +kernel
abbrev cW_unlikeBits : ByteArray := prog_4_method_19_code
abbrev yW_unlikeBits : MethodName := ⟨"WholeDesk$Whole", "unlikeBits", "()I"⟩
theorem qW_unlikeBits : yW_unlikeBits.cls ≠ "java/lang/invoke/MethodHandle" ∧ yW_unlikeBits.cls ≠ "java/lang/invoke/VarHandle" ∧ (parseMethodDescriptor yW_unlikeBits.desc).map (fun d => d.parameters.length) = some 0 := by decide +kernel
theorem dW_unlikeBits_0 : decode cW_unlikeBits 0 = .ok (.iconst 0, 1) := by decide +kernel
theorem dW_unlikeBits_1 : decode cW_unlikeBits 1 = .ok (.istore_n 1, 1) := by decide +kernel
theorem dW_unlikeBits_2 : decode cW_unlikeBits 2 = .ok (.iconst 0, 1) := by decide +kernel
theorem dW_unlikeBits_3 : decode cW_unlikeBits 3 = .ok (.istore_n 2, 1) := by decide +kernel
theorem dW_unlikeBits_4 : decode cW_unlikeBits 4 = .ok (.iload_n 2, 1) := by decide +kernel
theorem dW_unlikeBits_5 : decode cW_unlikeBits 5 = .ok (.aload_n 0, 1) := by decide +kernel
theorem dW_unlikeBits_6 : decode cW_unlikeBits 6 = .ok (.getfield 17, 3) := by decide +kernel
theorem dW_unlikeBits_9 : decode cW_unlikeBits 9 = .ok (.if_icmp .ge 21, 3) := by decide +kernel
theorem dW_unlikeBits_12 : decode cW_unlikeBits 12 = .ok (.iload_n 1, 1) := by decide +kernel
theorem dW_unlikeBits_13 : decode cW_unlikeBits 13 = .ok (.aload_n 0, 1) := by decide +kernel
theorem dW_unlikeBits_14 : decode cW_unlikeBits 14 = .ok (.getfield 11, 3) := by decide +kernel
theorem dW_unlikeBits_17 : decode cW_unlikeBits 17 = .ok (.iload_n 2, 1) := by decide +kernel
theorem dW_unlikeBits_18 : decode cW_unlikeBits 18 = .ok (.laload, 1) := by decide +kernel
theorem dW_unlikeBits_19 : decode cW_unlikeBits 19 = .ok (.invokestatic 59, 3) := by decide +kernel
theorem dW_unlikeBits_22 : decode cW_unlikeBits 22 = .ok (.iadd, 1) := by decide +kernel
theorem dW_unlikeBits_23 : decode cW_unlikeBits 23 = .ok (.istore_n 1, 1) := by decide +kernel
theorem dW_unlikeBits_24 : decode cW_unlikeBits 24 = .ok (.iinc 2 1, 3) := by decide +kernel
theorem dW_unlikeBits_27 : decode cW_unlikeBits 27 = .ok (.goto (-23), 3) := by decide +kernel
theorem dW_unlikeBits_30 : decode cW_unlikeBits 30 = .ok (.aload_n 0, 1) := by decide +kernel
theorem dW_unlikeBits_31 : decode cW_unlikeBits 31 = .ok (.getfield 21, 3) := by decide +kernel
theorem dW_unlikeBits_34 : decode cW_unlikeBits 34 = .ok (.ifCond .eq 14, 3) := by decide +kernel
theorem dW_unlikeBits_37 : decode cW_unlikeBits 37 = .ok (.iload_n 1, 1) := by decide +kernel
theorem dW_unlikeBits_38 : decode cW_unlikeBits 38 = .ok (.iconst 1, 1) := by decide +kernel
theorem dW_unlikeBits_39 : decode cW_unlikeBits 39 = .ok (.isub, 1) := by decide +kernel
theorem dW_unlikeBits_40 : decode cW_unlikeBits 40 = .ok (.aload_n 0, 1) := by decide +kernel
theorem dW_unlikeBits_41 : decode cW_unlikeBits 41 = .ok (.invokevirtual 64, 3) := by decide +kernel
theorem dW_unlikeBits_44 : decode cW_unlikeBits 44 = .ok (.iadd, 1) := by decide +kernel
theorem dW_unlikeBits_45 : decode cW_unlikeBits 45 = .ok (.goto 4, 3) := by decide +kernel
theorem dW_unlikeBits_48 : decode cW_unlikeBits 48 = .ok (.iload_n 1, 1) := by decide +kernel
theorem dW_unlikeBits_49 : decode cW_unlikeBits 49 = .ok (.ireturn, 1) := by decide +kernel
abbrev cW_mix : ByteArray := prog_4_method_20_code
abbrev yW_mix : MethodName := ⟨"WholeDesk$Whole", "mix", "(LWholeDesk$Whole;JI)J"⟩
theorem qW_mix : yW_mix.cls ≠ "java/lang/invoke/MethodHandle" ∧ yW_mix.cls ≠ "java/lang/invoke/VarHandle" ∧ (parseMethodDescriptor yW_mix.desc).map (fun d => d.parameters.length) = some 3 := by decide +kernel
theorem dW_mix_0 : decode cW_mix 0 = .ok (.iload 4, 2) := by decide +kernel
theorem dW_mix_2 : decode cW_mix 2 = .ok (.ifCond .lt 12, 3) := by decide +kernel
theorem dW_mix_5 : decode cW_mix 5 = .ok (.iload 4, 2) := by decide +kernel
theorem dW_mix_7 : decode cW_mix 7 = .ok (.aload_n 0, 1) := by decide +kernel
theorem dW_mix_8 : decode cW_mix 8 = .ok (.getfield 17, 3) := by decide +kernel
theorem dW_mix_11 : decode cW_mix 11 = .ok (.if_icmp .le 5, 3) := by decide +kernel
theorem dW_mix_14 : decode cW_mix 14 = .ok (.lconst 0, 1) := by decide +kernel
theorem dW_mix_15 : decode cW_mix 15 = .ok (.lreturn, 1) := by decide +kernel
theorem dW_mix_16 : decode cW_mix 16 = .ok (.aload_n 0, 1) := by decide +kernel
theorem dW_mix_17 : decode cW_mix 17 = .ok (.getfield 11, 3) := by decide +kernel
theorem dW_mix_20 : decode cW_mix 20 = .ok (.astore 5, 2) := by decide +kernel
theorem dW_mix_22 : decode cW_mix 22 = .ok (.aload_n 1, 1) := by decide +kernel
theorem dW_mix_23 : decode cW_mix 23 = .ok (.getfield 11, 3) := by decide +kernel
theorem dW_mix_26 : decode cW_mix 26 = .ok (.astore 6, 2) := by decide +kernel
theorem dW_mix_28 : decode cW_mix 28 = .ok (.aload_n 1, 1) := by decide +kernel
theorem dW_mix_29 : decode cW_mix 29 = .ok (.getfield 17, 3) := by decide +kernel
theorem dW_mix_32 : decode cW_mix 32 = .ok (.aload_n 0, 1) := by decide +kernel
theorem dW_mix_33 : decode cW_mix 33 = .ok (.getfield 17, 3) := by decide +kernel
theorem dW_mix_36 : decode cW_mix 36 = .ok (.iload 4, 2) := by decide +kernel
theorem dW_mix_38 : decode cW_mix 38 = .ok (.isub, 1) := by decide +kernel
theorem dW_mix_39 : decode cW_mix 39 = .ok (.invokestatic 32, 3) := by decide +kernel
theorem dW_mix_42 : decode cW_mix 42 = .ok (.istore 7, 2) := by decide +kernel
theorem dW_mix_44 : decode cW_mix 44 = .ok (.iload 4, 2) := by decide +kernel
theorem dW_mix_46 : decode cW_mix 46 = .ok (.istore 8, 2) := by decide +kernel
theorem dW_mix_48 : decode cW_mix 48 = .ok (.lconst 0, 1) := by decide +kernel
theorem dW_mix_49 : decode cW_mix 49 = .ok (.lstore 9, 2) := by decide +kernel
theorem dW_mix_51 : decode cW_mix 51 = .ok (.iconst 0, 1) := by decide +kernel
theorem dW_mix_52 : decode cW_mix 52 = .ok (.istore 11, 2) := by decide +kernel
theorem dW_mix_54 : decode cW_mix 54 = .ok (.iload 11, 2) := by decide +kernel
theorem dW_mix_56 : decode cW_mix 56 = .ok (.iload 7, 2) := by decide +kernel
theorem dW_mix_58 : decode cW_mix 58 = .ok (.if_icmp .ge 48, 3) := by decide +kernel
theorem dW_mix_61 : decode cW_mix 61 = .ok (.aload 5, 2) := by decide +kernel
theorem dW_mix_63 : decode cW_mix 63 = .ok (.iload 8, 2) := by decide +kernel
theorem dW_mix_65 : decode cW_mix 65 = .ok (.laload, 1) := by decide +kernel
theorem dW_mix_66 : decode cW_mix 66 = .ok (.lload_n 2, 1) := by decide +kernel
theorem dW_mix_67 : decode cW_mix 67 = .ok (.aload 6, 2) := by decide +kernel
theorem dW_mix_69 : decode cW_mix 69 = .ok (.iload 11, 2) := by decide +kernel
theorem dW_mix_71 : decode cW_mix 71 = .ok (.laload, 1) := by decide +kernel
theorem dW_mix_72 : decode cW_mix 72 = .ok (.lmul, 1) := by decide +kernel
theorem dW_mix_73 : decode cW_mix 73 = .ok (.ladd, 1) := by decide +kernel
theorem dW_mix_74 : decode cW_mix 74 = .ok (.lload 9, 2) := by decide +kernel
theorem dW_mix_76 : decode cW_mix 76 = .ok (.ladd, 1) := by decide +kernel
theorem dW_mix_77 : decode cW_mix 77 = .ok (.lstore 12, 2) := by decide +kernel
theorem dW_mix_79 : decode cW_mix 79 = .ok (.aload 5, 2) := by decide +kernel
theorem dW_mix_81 : decode cW_mix 81 = .ok (.iload 8, 2) := by decide +kernel
theorem dW_mix_83 : decode cW_mix 83 = .ok (.lload 12, 2) := by decide +kernel
theorem dW_mix_85 : decode cW_mix 85 = .ok (.ldc2_w 15, 3) := by decide +kernel
theorem dW_mix_88 : decode cW_mix 88 = .ok (.land, 1) := by decide +kernel
theorem dW_mix_89 : decode cW_mix 89 = .ok (.lastore, 1) := by decide +kernel
theorem dW_mix_90 : decode cW_mix 90 = .ok (.lload 12, 2) := by decide +kernel
theorem dW_mix_92 : decode cW_mix 92 = .ok (.bipush 28, 2) := by decide +kernel
theorem dW_mix_94 : decode cW_mix 94 = .ok (.lshr, 1) := by decide +kernel
theorem dW_mix_95 : decode cW_mix 95 = .ok (.lstore 9, 2) := by decide +kernel
theorem dW_mix_97 : decode cW_mix 97 = .ok (.iinc 8 1, 3) := by decide +kernel
theorem dW_mix_100 : decode cW_mix 100 = .ok (.iinc 11 1, 3) := by decide +kernel
theorem dW_mix_103 : decode cW_mix 103 = .ok (.goto (-49), 3) := by decide +kernel
theorem dW_mix_106 : decode cW_mix 106 = .ok (.iload 8, 2) := by decide +kernel
theorem dW_mix_108 : decode cW_mix 108 = .ok (.aload_n 0, 1) := by decide +kernel
theorem dW_mix_109 : decode cW_mix 109 = .ok (.getfield 17, 3) := by decide +kernel
theorem dW_mix_112 : decode cW_mix 112 = .ok (.if_icmp .ge 44, 3) := by decide +kernel
theorem dW_mix_115 : decode cW_mix 115 = .ok (.lload 9, 2) := by decide +kernel
theorem dW_mix_117 : decode cW_mix 117 = .ok (.lconst 0, 1) := by decide +kernel
theorem dW_mix_118 : decode cW_mix 118 = .ok (.lcmp, 1) := by decide +kernel
theorem dW_mix_119 : decode cW_mix 119 = .ok (.ifCond .eq 37, 3) := by decide +kernel
theorem dW_mix_122 : decode cW_mix 122 = .ok (.aload 5, 2) := by decide +kernel
theorem dW_mix_124 : decode cW_mix 124 = .ok (.iload 8, 2) := by decide +kernel
theorem dW_mix_126 : decode cW_mix 126 = .ok (.laload, 1) := by decide +kernel
theorem dW_mix_127 : decode cW_mix 127 = .ok (.lload 9, 2) := by decide +kernel
theorem dW_mix_129 : decode cW_mix 129 = .ok (.ladd, 1) := by decide +kernel
theorem dW_mix_130 : decode cW_mix 130 = .ok (.lstore 11, 2) := by decide +kernel
theorem dW_mix_132 : decode cW_mix 132 = .ok (.aload 5, 2) := by decide +kernel
theorem dW_mix_134 : decode cW_mix 134 = .ok (.iload 8, 2) := by decide +kernel
theorem dW_mix_136 : decode cW_mix 136 = .ok (.lload 11, 2) := by decide +kernel
theorem dW_mix_138 : decode cW_mix 138 = .ok (.ldc2_w 15, 3) := by decide +kernel
theorem dW_mix_141 : decode cW_mix 141 = .ok (.land, 1) := by decide +kernel
theorem dW_mix_142 : decode cW_mix 142 = .ok (.lastore, 1) := by decide +kernel
theorem dW_mix_143 : decode cW_mix 143 = .ok (.lload 11, 2) := by decide +kernel
theorem dW_mix_145 : decode cW_mix 145 = .ok (.bipush 28, 2) := by decide +kernel
theorem dW_mix_147 : decode cW_mix 147 = .ok (.lshr, 1) := by decide +kernel
theorem dW_mix_148 : decode cW_mix 148 = .ok (.lstore 9, 2) := by decide +kernel
theorem dW_mix_150 : decode cW_mix 150 = .ok (.iinc 8 1, 3) := by decide +kernel
theorem dW_mix_153 : decode cW_mix 153 = .ok (.goto (-47), 3) := by decide +kernel
theorem dW_mix_156 : decode cW_mix 156 = .ok (.lload 9, 2) := by decide +kernel
theorem dW_mix_158 : decode cW_mix 158 = .ok (.lreturn, 1) := by decide +kernel
abbrev cW_becomeProduct : ByteArray := prog_4_method_21_code
abbrev yW_becomeProduct : MethodName := ⟨"WholeDesk$Whole", "becomeProduct", "(LWholeDesk$Whole;LWholeDesk$Whole;)V"⟩
theorem qW_becomeProduct : yW_becomeProduct.cls ≠ "java/lang/invoke/MethodHandle" ∧ yW_becomeProduct.cls ≠ "java/lang/invoke/VarHandle" ∧ (parseMethodDescriptor yW_becomeProduct.desc).map (fun d => d.parameters.length) = some 2 := by decide +kernel
theorem dW_becomeProduct_0 : decode cW_becomeProduct 0 = .ok (.aload_n 1, 1) := by decide +kernel
theorem dW_becomeProduct_1 : decode cW_becomeProduct 1 = .ok (.getfield 11, 3) := by decide +kernel
theorem dW_becomeProduct_4 : decode cW_becomeProduct 4 = .ok (.astore_n 3, 1) := by decide +kernel
theorem dW_becomeProduct_5 : decode cW_becomeProduct 5 = .ok (.aload_n 2, 1) := by decide +kernel
theorem dW_becomeProduct_6 : decode cW_becomeProduct 6 = .ok (.getfield 11, 3) := by decide +kernel
theorem dW_becomeProduct_9 : decode cW_becomeProduct 9 = .ok (.astore 4, 2) := by decide +kernel
theorem dW_becomeProduct_11 : decode cW_becomeProduct 11 = .ok (.aload_n 1, 1) := by decide +kernel
theorem dW_becomeProduct_12 : decode cW_becomeProduct 12 = .ok (.getfield 17, 3) := by decide +kernel
theorem dW_becomeProduct_15 : decode cW_becomeProduct 15 = .ok (.aload_n 2, 1) := by decide +kernel
theorem dW_becomeProduct_16 : decode cW_becomeProduct 16 = .ok (.getfield 17, 3) := by decide +kernel
theorem dW_becomeProduct_19 : decode cW_becomeProduct 19 = .ok (.iadd, 1) := by decide +kernel
theorem dW_becomeProduct_20 : decode cW_becomeProduct 20 = .ok (.sipush 152, 3) := by decide +kernel
theorem dW_becomeProduct_23 : decode cW_becomeProduct 23 = .ok (.invokestatic 32, 3) := by decide +kernel
theorem dW_becomeProduct_26 : decode cW_becomeProduct 26 = .ok (.istore 5, 2) := by decide +kernel
theorem dW_becomeProduct_28 : decode cW_becomeProduct 28 = .ok (.lconst 0, 1) := by decide +kernel
theorem dW_becomeProduct_29 : decode cW_becomeProduct 29 = .ok (.lstore 6, 2) := by decide +kernel
theorem dW_becomeProduct_31 : decode cW_becomeProduct 31 = .ok (.iconst 0, 1) := by decide +kernel
theorem dW_becomeProduct_32 : decode cW_becomeProduct 32 = .ok (.istore 8, 2) := by decide +kernel
theorem dW_becomeProduct_34 : decode cW_becomeProduct 34 = .ok (.iload 8, 2) := by decide +kernel
theorem dW_becomeProduct_36 : decode cW_becomeProduct 36 = .ok (.iload 5, 2) := by decide +kernel
theorem dW_becomeProduct_38 : decode cW_becomeProduct 38 = .ok (.if_icmp .ge 92, 3) := by decide +kernel
theorem dW_becomeProduct_41 : decode cW_becomeProduct 41 = .ok (.iload 8, 2) := by decide +kernel
theorem dW_becomeProduct_43 : decode cW_becomeProduct 43 = .ok (.iconst 1, 1) := by decide +kernel
theorem dW_becomeProduct_44 : decode cW_becomeProduct 44 = .ok (.iadd, 1) := by decide +kernel
theorem dW_becomeProduct_45 : decode cW_becomeProduct 45 = .ok (.aload_n 1, 1) := by decide +kernel
theorem dW_becomeProduct_46 : decode cW_becomeProduct 46 = .ok (.getfield 17, 3) := by decide +kernel
theorem dW_becomeProduct_49 : decode cW_becomeProduct 49 = .ok (.invokestatic 32, 3) := by decide +kernel
theorem dW_becomeProduct_52 : decode cW_becomeProduct 52 = .ok (.istore 9, 2) := by decide +kernel
theorem dW_becomeProduct_54 : decode cW_becomeProduct 54 = .ok (.lload 6, 2) := by decide +kernel
theorem dW_becomeProduct_56 : decode cW_becomeProduct 56 = .ok (.lstore 10, 2) := by decide +kernel
theorem dW_becomeProduct_58 : decode cW_becomeProduct 58 = .ok (.iconst 0, 1) := by decide +kernel
theorem dW_becomeProduct_59 : decode cW_becomeProduct 59 = .ok (.iload 8, 2) := by decide +kernel
theorem dW_becomeProduct_61 : decode cW_becomeProduct 61 = .ok (.aload_n 2, 1) := by decide +kernel
theorem dW_becomeProduct_62 : decode cW_becomeProduct 62 = .ok (.getfield 17, 3) := by decide +kernel
theorem dW_becomeProduct_65 : decode cW_becomeProduct 65 = .ok (.isub, 1) := by decide +kernel
theorem dW_becomeProduct_66 : decode cW_becomeProduct 66 = .ok (.iconst 1, 1) := by decide +kernel
theorem dW_becomeProduct_67 : decode cW_becomeProduct 67 = .ok (.iadd, 1) := by decide +kernel
theorem dW_becomeProduct_68 : decode cW_becomeProduct 68 = .ok (.invokestatic 44, 3) := by decide +kernel
theorem dW_becomeProduct_71 : decode cW_becomeProduct 71 = .ok (.istore 12, 2) := by decide +kernel
theorem dW_becomeProduct_73 : decode cW_becomeProduct 73 = .ok (.iload 12, 2) := by decide +kernel
theorem dW_becomeProduct_75 : decode cW_becomeProduct 75 = .ok (.iload 9, 2) := by decide +kernel
theorem dW_becomeProduct_77 : decode cW_becomeProduct 77 = .ok (.if_icmp .ge 27, 3) := by decide +kernel
theorem dW_becomeProduct_80 : decode cW_becomeProduct 80 = .ok (.lload 10, 2) := by decide +kernel
theorem dW_becomeProduct_82 : decode cW_becomeProduct 82 = .ok (.aload_n 3, 1) := by decide +kernel
theorem dW_becomeProduct_83 : decode cW_becomeProduct 83 = .ok (.iload 12, 2) := by decide +kernel
theorem dW_becomeProduct_85 : decode cW_becomeProduct 85 = .ok (.laload, 1) := by decide +kernel
theorem dW_becomeProduct_86 : decode cW_becomeProduct 86 = .ok (.aload 4, 2) := by decide +kernel
theorem dW_becomeProduct_88 : decode cW_becomeProduct 88 = .ok (.iload 8, 2) := by decide +kernel
theorem dW_becomeProduct_90 : decode cW_becomeProduct 90 = .ok (.iload 12, 2) := by decide +kernel
theorem dW_becomeProduct_92 : decode cW_becomeProduct 92 = .ok (.isub, 1) := by decide +kernel
theorem dW_becomeProduct_93 : decode cW_becomeProduct 93 = .ok (.laload, 1) := by decide +kernel
theorem dW_becomeProduct_94 : decode cW_becomeProduct 94 = .ok (.lmul, 1) := by decide +kernel
theorem dW_becomeProduct_95 : decode cW_becomeProduct 95 = .ok (.ladd, 1) := by decide +kernel
theorem dW_becomeProduct_96 : decode cW_becomeProduct 96 = .ok (.lstore 10, 2) := by decide +kernel
theorem dW_becomeProduct_98 : decode cW_becomeProduct 98 = .ok (.iinc 12 1, 3) := by decide +kernel
theorem dW_becomeProduct_101 : decode cW_becomeProduct 101 = .ok (.goto (-28), 3) := by decide +kernel
theorem dW_becomeProduct_104 : decode cW_becomeProduct 104 = .ok (.aload_n 0, 1) := by decide +kernel
theorem dW_becomeProduct_105 : decode cW_becomeProduct 105 = .ok (.getfield 11, 3) := by decide +kernel
theorem dW_becomeProduct_108 : decode cW_becomeProduct 108 = .ok (.iload 8, 2) := by decide +kernel
theorem dW_becomeProduct_110 : decode cW_becomeProduct 110 = .ok (.lload 10, 2) := by decide +kernel
theorem dW_becomeProduct_112 : decode cW_becomeProduct 112 = .ok (.ldc2_w 15, 3) := by decide +kernel
theorem dW_becomeProduct_115 : decode cW_becomeProduct 115 = .ok (.land, 1) := by decide +kernel
theorem dW_becomeProduct_116 : decode cW_becomeProduct 116 = .ok (.lastore, 1) := by decide +kernel
theorem dW_becomeProduct_117 : decode cW_becomeProduct 117 = .ok (.lload 10, 2) := by decide +kernel
theorem dW_becomeProduct_119 : decode cW_becomeProduct 119 = .ok (.bipush 28, 2) := by decide +kernel
theorem dW_becomeProduct_121 : decode cW_becomeProduct 121 = .ok (.lushr, 1) := by decide +kernel
theorem dW_becomeProduct_122 : decode cW_becomeProduct 122 = .ok (.lstore 6, 2) := by decide +kernel
theorem dW_becomeProduct_124 : decode cW_becomeProduct 124 = .ok (.iinc 8 1, 3) := by decide +kernel
theorem dW_becomeProduct_127 : decode cW_becomeProduct 127 = .ok (.goto (-93), 3) := by decide +kernel
theorem dW_becomeProduct_130 : decode cW_becomeProduct 130 = .ok (.aload_n 0, 1) := by decide +kernel
theorem dW_becomeProduct_131 : decode cW_becomeProduct 131 = .ok (.iload 5, 2) := by decide +kernel
theorem dW_becomeProduct_133 : decode cW_becomeProduct 133 = .ok (.putfield 17, 3) := by decide +kernel
theorem dW_becomeProduct_136 : decode cW_becomeProduct 136 = .ok (.aload_n 0, 1) := by decide +kernel
theorem dW_becomeProduct_137 : decode cW_becomeProduct 137 = .ok (.aload_n 1, 1) := by decide +kernel
theorem dW_becomeProduct_138 : decode cW_becomeProduct 138 = .ok (.getfield 21, 3) := by decide +kernel
theorem dW_becomeProduct_141 : decode cW_becomeProduct 141 = .ok (.aload_n 2, 1) := by decide +kernel
theorem dW_becomeProduct_142 : decode cW_becomeProduct 142 = .ok (.getfield 21, 3) := by decide +kernel
theorem dW_becomeProduct_145 : decode cW_becomeProduct 145 = .ok (.if_icmp .eq 7, 3) := by decide +kernel
theorem dW_becomeProduct_148 : decode cW_becomeProduct 148 = .ok (.iconst 1, 1) := by decide +kernel
theorem dW_becomeProduct_149 : decode cW_becomeProduct 149 = .ok (.goto 4, 3) := by decide +kernel
theorem dW_becomeProduct_152 : decode cW_becomeProduct 152 = .ok (.iconst 0, 1) := by decide +kernel
theorem dW_becomeProduct_153 : decode cW_becomeProduct 153 = .ok (.putfield 21, 3) := by decide +kernel
theorem dW_becomeProduct_156 : decode cW_becomeProduct 156 = .ok (.aload_n 0, 1) := by decide +kernel
theorem dW_becomeProduct_157 : decode cW_becomeProduct 157 = .ok (.invokevirtual 25, 3) := by decide +kernel
theorem dW_becomeProduct_160 : decode cW_becomeProduct 160 = .ok (.return_, 1) := by decide +kernel
abbrev cW_gather : ByteArray := prog_4_method_22_code
abbrev yW_gather : MethodName := ⟨"WholeDesk$Whole", "gather", "(LWholeDesk$Whole;LWholeDesk$Whole;)V"⟩
theorem qW_gather : yW_gather.cls ≠ "java/lang/invoke/MethodHandle" ∧ yW_gather.cls ≠ "java/lang/invoke/VarHandle" ∧ (parseMethodDescriptor yW_gather.desc).map (fun d => d.parameters.length) = some 2 := by decide +kernel
theorem dW_gather_0 : decode cW_gather 0 = .ok (.aload_n 0, 1) := by decide +kernel
theorem dW_gather_1 : decode cW_gather 1 = .ok (.aload_n 0, 1) := by decide +kernel
theorem dW_gather_2 : decode cW_gather 2 = .ok (.getfield 17, 3) := by decide +kernel
theorem dW_gather_5 : decode cW_gather 5 = .ok (.aload_n 1, 1) := by decide +kernel
theorem dW_gather_6 : decode cW_gather 6 = .ok (.getfield 17, 3) := by decide +kernel
theorem dW_gather_9 : decode cW_gather 9 = .ok (.aload_n 2, 1) := by decide +kernel
theorem dW_gather_10 : decode cW_gather 10 = .ok (.getfield 17, 3) := by decide +kernel
theorem dW_gather_13 : decode cW_gather 13 = .ok (.iadd, 1) := by decide +kernel
theorem dW_gather_14 : decode cW_gather 14 = .ok (.invokestatic 44, 3) := by decide +kernel
theorem dW_gather_17 : decode cW_gather 17 = .ok (.iconst 1, 1) := by decide +kernel
theorem dW_gather_18 : decode cW_gather 18 = .ok (.iadd, 1) := by decide +kernel
theorem dW_gather_19 : decode cW_gather 19 = .ok (.invokevirtual 28, 3) := by decide +kernel
theorem dW_gather_22 : decode cW_gather 22 = .ok (.iconst 0, 1) := by decide +kernel
theorem dW_gather_23 : decode cW_gather 23 = .ok (.istore_n 3, 1) := by decide +kernel
theorem dW_gather_24 : decode cW_gather 24 = .ok (.iload_n 3, 1) := by decide +kernel
theorem dW_gather_25 : decode cW_gather 25 = .ok (.aload_n 1, 1) := by decide +kernel
theorem dW_gather_26 : decode cW_gather 26 = .ok (.getfield 17, 3) := by decide +kernel
theorem dW_gather_29 : decode cW_gather 29 = .ok (.if_icmp .ge 22, 3) := by decide +kernel
theorem dW_gather_32 : decode cW_gather 32 = .ok (.aload_n 0, 1) := by decide +kernel
theorem dW_gather_33 : decode cW_gather 33 = .ok (.aload_n 2, 1) := by decide +kernel
theorem dW_gather_34 : decode cW_gather 34 = .ok (.aload_n 1, 1) := by decide +kernel
theorem dW_gather_35 : decode cW_gather 35 = .ok (.getfield 11, 3) := by decide +kernel
theorem dW_gather_38 : decode cW_gather 38 = .ok (.iload_n 3, 1) := by decide +kernel
theorem dW_gather_39 : decode cW_gather 39 = .ok (.laload, 1) := by decide +kernel
theorem dW_gather_40 : decode cW_gather 40 = .ok (.iload_n 3, 1) := by decide +kernel
theorem dW_gather_41 : decode cW_gather 41 = .ok (.invokevirtual 71, 3) := by decide +kernel
theorem dW_gather_44 : decode cW_gather 44 = .ok (.pop2, 1) := by decide +kernel
theorem dW_gather_45 : decode cW_gather 45 = .ok (.iinc 3 1, 3) := by decide +kernel
theorem dW_gather_48 : decode cW_gather 48 = .ok (.goto (-24), 3) := by decide +kernel
theorem dW_gather_51 : decode cW_gather 51 = .ok (.aload_n 0, 1) := by decide +kernel
theorem dW_gather_52 : decode cW_gather 52 = .ok (.invokevirtual 25, 3) := by decide +kernel
theorem dW_gather_55 : decode cW_gather 55 = .ok (.return_, 1) := by decide +kernel
abbrev cW_becomeLackTo : ByteArray := prog_4_method_23_code
abbrev yW_becomeLackTo : MethodName := ⟨"WholeDesk$Whole", "becomeLackTo", "(LWholeDesk$Whole;)V"⟩
theorem qW_becomeLackTo : yW_becomeLackTo.cls ≠ "java/lang/invoke/MethodHandle" ∧ yW_becomeLackTo.cls ≠ "java/lang/invoke/VarHandle" ∧ (parseMethodDescriptor yW_becomeLackTo.desc).map (fun d => d.parameters.length) = some 1 := by decide +kernel
theorem dW_becomeLackTo_0 : decode cW_becomeLackTo 0 = .ok (.aload_n 0, 1) := by decide +kernel
theorem dW_becomeLackTo_1 : decode cW_becomeLackTo 1 = .ok (.aload_n 1, 1) := by decide +kernel
theorem dW_becomeLackTo_2 : decode cW_becomeLackTo 2 = .ok (.getfield 17, 3) := by decide +kernel
theorem dW_becomeLackTo_5 : decode cW_becomeLackTo 5 = .ok (.invokevirtual 28, 3) := by decide +kernel
theorem dW_becomeLackTo_8 : decode cW_becomeLackTo 8 = .ok (.lconst 0, 1) := by decide +kernel
theorem dW_becomeLackTo_9 : decode cW_becomeLackTo 9 = .ok (.lstore_n 2, 1) := by decide +kernel
theorem dW_becomeLackTo_10 : decode cW_becomeLackTo 10 = .ok (.iconst 0, 1) := by decide +kernel
theorem dW_becomeLackTo_11 : decode cW_becomeLackTo 11 = .ok (.istore 4, 2) := by decide +kernel
theorem dW_becomeLackTo_13 : decode cW_becomeLackTo 13 = .ok (.iload 4, 2) := by decide +kernel
theorem dW_becomeLackTo_15 : decode cW_becomeLackTo 15 = .ok (.aload_n 0, 1) := by decide +kernel
theorem dW_becomeLackTo_16 : decode cW_becomeLackTo 16 = .ok (.getfield 17, 3) := by decide +kernel
theorem dW_becomeLackTo_19 : decode cW_becomeLackTo 19 = .ok (.if_icmp .ge 46, 3) := by decide +kernel
theorem dW_becomeLackTo_22 : decode cW_becomeLackTo 22 = .ok (.aload_n 1, 1) := by decide +kernel
theorem dW_becomeLackTo_23 : decode cW_becomeLackTo 23 = .ok (.iload 4, 2) := by decide +kernel
theorem dW_becomeLackTo_25 : decode cW_becomeLackTo 25 = .ok (.invokevirtual 47, 3) := by decide +kernel
theorem dW_becomeLackTo_28 : decode cW_becomeLackTo 28 = .ok (.aload_n 0, 1) := by decide +kernel
theorem dW_becomeLackTo_29 : decode cW_becomeLackTo 29 = .ok (.getfield 11, 3) := by decide +kernel
theorem dW_becomeLackTo_32 : decode cW_becomeLackTo 32 = .ok (.iload 4, 2) := by decide +kernel
theorem dW_becomeLackTo_34 : decode cW_becomeLackTo 34 = .ok (.laload, 1) := by decide +kernel
theorem dW_becomeLackTo_35 : decode cW_becomeLackTo 35 = .ok (.lsub, 1) := by decide +kernel
theorem dW_becomeLackTo_36 : decode cW_becomeLackTo 36 = .ok (.lload_n 2, 1) := by decide +kernel
theorem dW_becomeLackTo_37 : decode cW_becomeLackTo 37 = .ok (.ladd, 1) := by decide +kernel
theorem dW_becomeLackTo_38 : decode cW_becomeLackTo 38 = .ok (.lstore 5, 2) := by decide +kernel
theorem dW_becomeLackTo_40 : decode cW_becomeLackTo 40 = .ok (.aload_n 0, 1) := by decide +kernel
theorem dW_becomeLackTo_41 : decode cW_becomeLackTo 41 = .ok (.getfield 11, 3) := by decide +kernel
theorem dW_becomeLackTo_44 : decode cW_becomeLackTo 44 = .ok (.iload 4, 2) := by decide +kernel
theorem dW_becomeLackTo_46 : decode cW_becomeLackTo 46 = .ok (.lload 5, 2) := by decide +kernel
theorem dW_becomeLackTo_48 : decode cW_becomeLackTo 48 = .ok (.ldc2_w 15, 3) := by decide +kernel
theorem dW_becomeLackTo_51 : decode cW_becomeLackTo 51 = .ok (.land, 1) := by decide +kernel
theorem dW_becomeLackTo_52 : decode cW_becomeLackTo 52 = .ok (.lastore, 1) := by decide +kernel
theorem dW_becomeLackTo_53 : decode cW_becomeLackTo 53 = .ok (.lload 5, 2) := by decide +kernel
theorem dW_becomeLackTo_55 : decode cW_becomeLackTo 55 = .ok (.bipush 28, 2) := by decide +kernel
theorem dW_becomeLackTo_57 : decode cW_becomeLackTo 57 = .ok (.lshr, 1) := by decide +kernel
theorem dW_becomeLackTo_58 : decode cW_becomeLackTo 58 = .ok (.lstore_n 2, 1) := by decide +kernel
theorem dW_becomeLackTo_59 : decode cW_becomeLackTo 59 = .ok (.iinc 4 1, 3) := by decide +kernel
theorem dW_becomeLackTo_62 : decode cW_becomeLackTo 62 = .ok (.goto (-49), 3) := by decide +kernel
theorem dW_becomeLackTo_65 : decode cW_becomeLackTo 65 = .ok (.aload_n 0, 1) := by decide +kernel
theorem dW_becomeLackTo_66 : decode cW_becomeLackTo 66 = .ok (.iconst 0, 1) := by decide +kernel
theorem dW_becomeLackTo_67 : decode cW_becomeLackTo 67 = .ok (.putfield 21, 3) := by decide +kernel
theorem dW_becomeLackTo_70 : decode cW_becomeLackTo 70 = .ok (.aload_n 0, 1) := by decide +kernel
theorem dW_becomeLackTo_71 : decode cW_becomeLackTo 71 = .ok (.invokevirtual 25, 3) := by decide +kernel
theorem dW_becomeLackTo_74 : decode cW_becomeLackTo 74 = .ok (.return_, 1) := by decide +kernel
abbrev cW_divideOut : ByteArray := prog_4_method_24_code
abbrev yW_divideOut : MethodName := ⟨"WholeDesk$Whole", "divideOut", "(LWholeDesk$Whole;LWholeDesk$Whole;)V"⟩
theorem qW_divideOut : yW_divideOut.cls ≠ "java/lang/invoke/MethodHandle" ∧ yW_divideOut.cls ≠ "java/lang/invoke/VarHandle" ∧ (parseMethodDescriptor yW_divideOut.desc).map (fun d => d.parameters.length) = some 2 := by decide +kernel
theorem dW_divideOut_0 : decode cW_divideOut 0 = .ok (.aload_n 2, 1) := by decide +kernel
theorem dW_divideOut_1 : decode cW_divideOut 1 = .ok (.iconst 0, 1) := by decide +kernel
theorem dW_divideOut_2 : decode cW_divideOut 2 = .ok (.putfield 17, 3) := by decide +kernel
theorem dW_divideOut_5 : decode cW_divideOut 5 = .ok (.aload_n 2, 1) := by decide +kernel
theorem dW_divideOut_6 : decode cW_divideOut 6 = .ok (.iconst 0, 1) := by decide +kernel
theorem dW_divideOut_7 : decode cW_divideOut 7 = .ok (.putfield 21, 3) := by decide +kernel
theorem dW_divideOut_10 : decode cW_divideOut 10 = .ok (.aload_n 0, 1) := by decide +kernel
theorem dW_divideOut_11 : decode cW_divideOut 11 = .ok (.getfield 17, 3) := by decide +kernel
theorem dW_divideOut_14 : decode cW_divideOut 14 = .ok (.aload_n 1, 1) := by decide +kernel
theorem dW_divideOut_15 : decode cW_divideOut 15 = .ok (.getfield 17, 3) := by decide +kernel
theorem dW_divideOut_18 : decode cW_divideOut 18 = .ok (.isub, 1) := by decide +kernel
theorem dW_divideOut_19 : decode cW_divideOut 19 = .ok (.iconst 1, 1) := by decide +kernel
theorem dW_divideOut_20 : decode cW_divideOut 20 = .ok (.iadd, 1) := by decide +kernel
theorem dW_divideOut_21 : decode cW_divideOut 21 = .ok (.istore_n 3, 1) := by decide +kernel
theorem dW_divideOut_22 : decode cW_divideOut 22 = .ok (.aload_n 1, 1) := by decide +kernel
theorem dW_divideOut_23 : decode cW_divideOut 23 = .ok (.getfield 17, 3) := by decide +kernel
theorem dW_divideOut_26 : decode cW_divideOut 26 = .ok (.ifCond .eq 8, 3) := by decide +kernel
theorem dW_divideOut_29 : decode cW_divideOut 29 = .ok (.iload_n 3, 1) := by decide +kernel
theorem dW_divideOut_30 : decode cW_divideOut 30 = .ok (.iconst 1, 1) := by decide +kernel
theorem dW_divideOut_31 : decode cW_divideOut 31 = .ok (.if_icmp .ge 4, 3) := by decide +kernel
theorem dW_divideOut_34 : decode cW_divideOut 34 = .ok (.return_, 1) := by decide +kernel
theorem dW_divideOut_35 : decode cW_divideOut 35 = .ok (.bipush 28, 2) := by decide +kernel
theorem dW_divideOut_37 : decode cW_divideOut 37 = .ok (.aload_n 1, 1) := by decide +kernel
theorem dW_divideOut_38 : decode cW_divideOut 38 = .ok (.aload_n 1, 1) := by decide +kernel
theorem dW_divideOut_39 : decode cW_divideOut 39 = .ok (.getfield 17, 3) := by decide +kernel
theorem dW_divideOut_42 : decode cW_divideOut 42 = .ok (.iconst 1, 1) := by decide +kernel
theorem dW_divideOut_43 : decode cW_divideOut 43 = .ok (.isub, 1) := by decide +kernel
theorem dW_divideOut_44 : decode cW_divideOut 44 = .ok (.invokevirtual 47, 3) := by decide +kernel
theorem dW_divideOut_47 : decode cW_divideOut 47 = .ok (.invokestatic 51, 3) := by decide +kernel
theorem dW_divideOut_50 : decode cW_divideOut 50 = .ok (.isub, 1) := by decide +kernel
theorem dW_divideOut_51 : decode cW_divideOut 51 = .ok (.istore 4, 2) := by decide +kernel
theorem dW_divideOut_53 : decode cW_divideOut 53 = .ok (.aload_n 1, 1) := by decide +kernel
theorem dW_divideOut_54 : decode cW_divideOut 54 = .ok (.aload_n 1, 1) := by decide +kernel
theorem dW_divideOut_55 : decode cW_divideOut 55 = .ok (.getfield 17, 3) := by decide +kernel
theorem dW_divideOut_58 : decode cW_divideOut 58 = .ok (.iconst 1, 1) := by decide +kernel
theorem dW_divideOut_59 : decode cW_divideOut 59 = .ok (.isub, 1) := by decide +kernel
theorem dW_divideOut_60 : decode cW_divideOut 60 = .ok (.iload 4, 2) := by decide +kernel
theorem dW_divideOut_62 : decode cW_divideOut 62 = .ok (.invokevirtual 75, 3) := by decide +kernel
theorem dW_divideOut_65 : decode cW_divideOut 65 = .ok (.lstore 5, 2) := by decide +kernel
theorem dW_divideOut_67 : decode cW_divideOut 67 = .ok (.aload_n 1, 1) := by decide +kernel
theorem dW_divideOut_68 : decode cW_divideOut 68 = .ok (.aload_n 1, 1) := by decide +kernel
theorem dW_divideOut_69 : decode cW_divideOut 69 = .ok (.getfield 17, 3) := by decide +kernel
theorem dW_divideOut_72 : decode cW_divideOut 72 = .ok (.iconst 2, 1) := by decide +kernel
theorem dW_divideOut_73 : decode cW_divideOut 73 = .ok (.isub, 1) := by decide +kernel
theorem dW_divideOut_74 : decode cW_divideOut 74 = .ok (.iload 4, 2) := by decide +kernel
theorem dW_divideOut_76 : decode cW_divideOut 76 = .ok (.invokevirtual 75, 3) := by decide +kernel
theorem dW_divideOut_79 : decode cW_divideOut 79 = .ok (.lstore 7, 2) := by decide +kernel
theorem dW_divideOut_81 : decode cW_divideOut 81 = .ok (.aload_n 2, 1) := by decide +kernel
theorem dW_divideOut_82 : decode cW_divideOut 82 = .ok (.iload_n 3, 1) := by decide +kernel
theorem dW_divideOut_83 : decode cW_divideOut 83 = .ok (.invokevirtual 28, 3) := by decide +kernel
theorem dW_divideOut_86 : decode cW_divideOut 86 = .ok (.aload_n 0, 1) := by decide +kernel
theorem dW_divideOut_87 : decode cW_divideOut 87 = .ok (.aload_n 0, 1) := by decide +kernel
theorem dW_divideOut_88 : decode cW_divideOut 88 = .ok (.getfield 17, 3) := by decide +kernel
theorem dW_divideOut_91 : decode cW_divideOut 91 = .ok (.iconst 1, 1) := by decide +kernel
theorem dW_divideOut_92 : decode cW_divideOut 92 = .ok (.iadd, 1) := by decide +kernel
theorem dW_divideOut_93 : decode cW_divideOut 93 = .ok (.invokevirtual 28, 3) := by decide +kernel
theorem dW_divideOut_96 : decode cW_divideOut 96 = .ok (.aload_n 2, 1) := by decide +kernel
theorem dW_divideOut_97 : decode cW_divideOut 97 = .ok (.getfield 17, 3) := by decide +kernel
theorem dW_divideOut_100 : decode cW_divideOut 100 = .ok (.iconst 1, 1) := by decide +kernel
theorem dW_divideOut_101 : decode cW_divideOut 101 = .ok (.isub, 1) := by decide +kernel
theorem dW_divideOut_102 : decode cW_divideOut 102 = .ok (.istore 9, 2) := by decide +kernel
theorem dW_divideOut_104 : decode cW_divideOut 104 = .ok (.iload 9, 2) := by decide +kernel
theorem dW_divideOut_106 : decode cW_divideOut 106 = .ok (.ifCond .lt 88, 3) := by decide +kernel
theorem dW_divideOut_109 : decode cW_divideOut 109 = .ok (.aload_n 0, 1) := by decide +kernel
theorem dW_divideOut_110 : decode cW_divideOut 110 = .ok (.iload 9, 2) := by decide +kernel
theorem dW_divideOut_112 : decode cW_divideOut 112 = .ok (.aload_n 1, 1) := by decide +kernel
theorem dW_divideOut_113 : decode cW_divideOut 113 = .ok (.getfield 17, 3) := by decide +kernel
theorem dW_divideOut_116 : decode cW_divideOut 116 = .ok (.iadd, 1) := by decide +kernel
theorem dW_divideOut_117 : decode cW_divideOut 117 = .ok (.iload 4, 2) := by decide +kernel
theorem dW_divideOut_119 : decode cW_divideOut 119 = .ok (.lload 5, 2) := by decide +kernel
theorem dW_divideOut_121 : decode cW_divideOut 121 = .ok (.lload 7, 2) := by decide +kernel
theorem dW_divideOut_123 : decode cW_divideOut 123 = .ok (.invokevirtual 79, 3) := by decide +kernel
theorem dW_divideOut_126 : decode cW_divideOut 126 = .ok (.lstore 10, 2) := by decide +kernel
theorem dW_divideOut_128 : decode cW_divideOut 128 = .ok (.lload 10, 2) := by decide +kernel
theorem dW_divideOut_130 : decode cW_divideOut 130 = .ok (.lconst 0, 1) := by decide +kernel
theorem dW_divideOut_131 : decode cW_divideOut 131 = .ok (.lcmp, 1) := by decide +kernel
theorem dW_divideOut_132 : decode cW_divideOut 132 = .ok (.ifCond .eq 33, 3) := by decide +kernel
theorem dW_divideOut_135 : decode cW_divideOut 135 = .ok (.aload_n 0, 1) := by decide +kernel
theorem dW_divideOut_136 : decode cW_divideOut 136 = .ok (.aload_n 1, 1) := by decide +kernel
theorem dW_divideOut_137 : decode cW_divideOut 137 = .ok (.lload 10, 2) := by decide +kernel
theorem dW_divideOut_139 : decode cW_divideOut 139 = .ok (.lneg, 1) := by decide +kernel
theorem dW_divideOut_140 : decode cW_divideOut 140 = .ok (.iload 9, 2) := by decide +kernel
theorem dW_divideOut_142 : decode cW_divideOut 142 = .ok (.invokevirtual 71, 3) := by decide +kernel
theorem dW_divideOut_145 : decode cW_divideOut 145 = .ok (.lconst 0, 1) := by decide +kernel
theorem dW_divideOut_146 : decode cW_divideOut 146 = .ok (.lcmp, 1) := by decide +kernel
theorem dW_divideOut_147 : decode cW_divideOut 147 = .ok (.ifCond .ge 18, 3) := by decide +kernel
theorem dW_divideOut_150 : decode cW_divideOut 150 = .ok (.aload_n 0, 1) := by decide +kernel
theorem dW_divideOut_151 : decode cW_divideOut 151 = .ok (.aload_n 1, 1) := by decide +kernel
theorem dW_divideOut_152 : decode cW_divideOut 152 = .ok (.lconst 1, 1) := by decide +kernel
theorem dW_divideOut_153 : decode cW_divideOut 153 = .ok (.iload 9, 2) := by decide +kernel
theorem dW_divideOut_155 : decode cW_divideOut 155 = .ok (.invokevirtual 71, 3) := by decide +kernel
theorem dW_divideOut_158 : decode cW_divideOut 158 = .ok (.pop2, 1) := by decide +kernel
theorem dW_divideOut_159 : decode cW_divideOut 159 = .ok (.lload 10, 2) := by decide +kernel
theorem dW_divideOut_161 : decode cW_divideOut 161 = .ok (.lconst 1, 1) := by decide +kernel
theorem dW_divideOut_162 : decode cW_divideOut 162 = .ok (.lsub, 1) := by decide +kernel
theorem dW_divideOut_163 : decode cW_divideOut 163 = .ok (.lstore 10, 2) := by decide +kernel
theorem dW_divideOut_165 : decode cW_divideOut 165 = .ok (.aload_n 2, 1) := by decide +kernel
theorem dW_divideOut_166 : decode cW_divideOut 166 = .ok (.getfield 11, 3) := by decide +kernel
theorem dW_divideOut_169 : decode cW_divideOut 169 = .ok (.iload 9, 2) := by decide +kernel
theorem dW_divideOut_171 : decode cW_divideOut 171 = .ok (.lload 10, 2) := by decide +kernel
theorem dW_divideOut_173 : decode cW_divideOut 173 = .ok (.lastore, 1) := by decide +kernel
theorem dW_divideOut_174 : decode cW_divideOut 174 = .ok (.aload_n 0, 1) := by decide +kernel
theorem dW_divideOut_175 : decode cW_divideOut 175 = .ok (.aload_n 0, 1) := by decide +kernel
theorem dW_divideOut_176 : decode cW_divideOut 176 = .ok (.getfield 17, 3) := by decide +kernel
theorem dW_divideOut_179 : decode cW_divideOut 179 = .ok (.iconst 1, 1) := by decide +kernel
theorem dW_divideOut_180 : decode cW_divideOut 180 = .ok (.isub, 1) := by decide +kernel
theorem dW_divideOut_181 : decode cW_divideOut 181 = .ok (.iconst 0, 1) := by decide +kernel
theorem dW_divideOut_182 : decode cW_divideOut 182 = .ok (.invokestatic 44, 3) := by decide +kernel
theorem dW_divideOut_185 : decode cW_divideOut 185 = .ok (.putfield 17, 3) := by decide +kernel
theorem dW_divideOut_188 : decode cW_divideOut 188 = .ok (.iinc 9 (-1), 3) := by decide +kernel
theorem dW_divideOut_191 : decode cW_divideOut 191 = .ok (.goto (-87), 3) := by decide +kernel
theorem dW_divideOut_194 : decode cW_divideOut 194 = .ok (.aload_n 2, 1) := by decide +kernel
theorem dW_divideOut_195 : decode cW_divideOut 195 = .ok (.invokevirtual 25, 3) := by decide +kernel
theorem dW_divideOut_198 : decode cW_divideOut 198 = .ok (.aload_n 0, 1) := by decide +kernel
theorem dW_divideOut_199 : decode cW_divideOut 199 = .ok (.invokevirtual 25, 3) := by decide +kernel
theorem dW_divideOut_202 : decode cW_divideOut 202 = .ok (.return_, 1) := by decide +kernel
abbrev cW_guess : ByteArray := prog_4_method_25_code
abbrev yW_guess : MethodName := ⟨"WholeDesk$Whole", "guess", "(IIJJ)J"⟩
theorem qW_guess : yW_guess.cls ≠ "java/lang/invoke/MethodHandle" ∧ yW_guess.cls ≠ "java/lang/invoke/VarHandle" ∧ (parseMethodDescriptor yW_guess.desc).map (fun d => d.parameters.length) = some 4 := by decide +kernel
theorem dW_guess_0 : decode cW_guess 0 = .ok (.lload_n 3, 1) := by decide +kernel
theorem dW_guess_1 : decode cW_guess 1 = .ok (.lconst 0, 1) := by decide +kernel
theorem dW_guess_2 : decode cW_guess 2 = .ok (.lcmp, 1) := by decide +kernel
theorem dW_guess_3 : decode cW_guess 3 = .ok (.ifCond .gt 5, 3) := by decide +kernel
theorem dW_guess_6 : decode cW_guess 6 = .ok (.lconst 0, 1) := by decide +kernel
theorem dW_guess_7 : decode cW_guess 7 = .ok (.lreturn, 1) := by decide +kernel
theorem dW_guess_8 : decode cW_guess 8 = .ok (.aload_n 0, 1) := by decide +kernel
theorem dW_guess_9 : decode cW_guess 9 = .ok (.iload_n 1, 1) := by decide +kernel
theorem dW_guess_10 : decode cW_guess 10 = .ok (.iload_n 2, 1) := by decide +kernel
theorem dW_guess_11 : decode cW_guess 11 = .ok (.invokevirtual 75, 3) := by decide +kernel
theorem dW_guess_14 : decode cW_guess 14 = .ok (.bipush 28, 2) := by decide +kernel
theorem dW_guess_16 : decode cW_guess 16 = .ok (.lshl, 1) := by decide +kernel
theorem dW_guess_17 : decode cW_guess 17 = .ok (.aload_n 0, 1) := by decide +kernel
theorem dW_guess_18 : decode cW_guess 18 = .ok (.iload_n 1, 1) := by decide +kernel
theorem dW_guess_19 : decode cW_guess 19 = .ok (.iconst 1, 1) := by decide +kernel
theorem dW_guess_20 : decode cW_guess 20 = .ok (.isub, 1) := by decide +kernel
theorem dW_guess_21 : decode cW_guess 21 = .ok (.iload_n 2, 1) := by decide +kernel
theorem dW_guess_22 : decode cW_guess 22 = .ok (.invokevirtual 75, 3) := by decide +kernel
theorem dW_guess_25 : decode cW_guess 25 = .ok (.lor, 1) := by decide +kernel
theorem dW_guess_26 : decode cW_guess 26 = .ok (.lstore 7, 2) := by decide +kernel
theorem dW_guess_28 : decode cW_guess 28 = .ok (.aload_n 0, 1) := by decide +kernel
theorem dW_guess_29 : decode cW_guess 29 = .ok (.iload_n 1, 1) := by decide +kernel
theorem dW_guess_30 : decode cW_guess 30 = .ok (.iconst 2, 1) := by decide +kernel
theorem dW_guess_31 : decode cW_guess 31 = .ok (.isub, 1) := by decide +kernel
theorem dW_guess_32 : decode cW_guess 32 = .ok (.iload_n 2, 1) := by decide +kernel
theorem dW_guess_33 : decode cW_guess 33 = .ok (.invokevirtual 75, 3) := by decide +kernel
theorem dW_guess_36 : decode cW_guess 36 = .ok (.lstore 9, 2) := by decide +kernel
theorem dW_guess_38 : decode cW_guess 38 = .ok (.lload 7, 2) := by decide +kernel
theorem dW_guess_40 : decode cW_guess 40 = .ok (.lload_n 3, 1) := by decide +kernel
theorem dW_guess_41 : decode cW_guess 41 = .ok (.ldiv, 1) := by decide +kernel
theorem dW_guess_42 : decode cW_guess 42 = .ok (.lstore 11, 2) := by decide +kernel
theorem dW_guess_44 : decode cW_guess 44 = .ok (.lload 7, 2) := by decide +kernel
theorem dW_guess_46 : decode cW_guess 46 = .ok (.lload 11, 2) := by decide +kernel
theorem dW_guess_48 : decode cW_guess 48 = .ok (.lload_n 3, 1) := by decide +kernel
theorem dW_guess_49 : decode cW_guess 49 = .ok (.lmul, 1) := by decide +kernel
theorem dW_guess_50 : decode cW_guess 50 = .ok (.lsub, 1) := by decide +kernel
theorem dW_guess_51 : decode cW_guess 51 = .ok (.lstore 13, 2) := by decide +kernel
theorem dW_guess_53 : decode cW_guess 53 = .ok (.iconst 0, 1) := by decide +kernel
theorem dW_guess_54 : decode cW_guess 54 = .ok (.istore 15, 2) := by decide +kernel
theorem dW_guess_56 : decode cW_guess 56 = .ok (.iload 15, 2) := by decide +kernel
theorem dW_guess_58 : decode cW_guess 58 = .ok (.iconst 2, 1) := by decide +kernel
theorem dW_guess_59 : decode cW_guess 59 = .ok (.if_icmp .ge 59, 3) := by decide +kernel
theorem dW_guess_62 : decode cW_guess 62 = .ok (.lload 13, 2) := by decide +kernel
theorem dW_guess_64 : decode cW_guess 64 = .ok (.ldc2_w 15, 3) := by decide +kernel
theorem dW_guess_67 : decode cW_guess 67 = .ok (.lcmp, 1) := by decide +kernel
theorem dW_guess_68 : decode cW_guess 68 = .ok (.ifCond .gt 50, 3) := by decide +kernel
theorem dW_guess_71 : decode cW_guess 71 = .ok (.lload 11, 2) := by decide +kernel
theorem dW_guess_73 : decode cW_guess 73 = .ok (.ldc2_w 15, 3) := by decide +kernel
theorem dW_guess_76 : decode cW_guess 76 = .ok (.lcmp, 1) := by decide +kernel
theorem dW_guess_77 : decode cW_guess 77 = .ok (.ifCond .gt 23, 3) := by decide +kernel
theorem dW_guess_80 : decode cW_guess 80 = .ok (.lload 11, 2) := by decide +kernel
theorem dW_guess_82 : decode cW_guess 82 = .ok (.lload 5, 2) := by decide +kernel
theorem dW_guess_84 : decode cW_guess 84 = .ok (.lmul, 1) := by decide +kernel
theorem dW_guess_85 : decode cW_guess 85 = .ok (.lload 13, 2) := by decide +kernel
theorem dW_guess_87 : decode cW_guess 87 = .ok (.bipush 28, 2) := by decide +kernel
theorem dW_guess_89 : decode cW_guess 89 = .ok (.lshl, 1) := by decide +kernel
theorem dW_guess_90 : decode cW_guess 90 = .ok (.lload 9, 2) := by decide +kernel
theorem dW_guess_92 : decode cW_guess 92 = .ok (.lor, 1) := by decide +kernel
theorem dW_guess_93 : decode cW_guess 93 = .ok (.lcmp, 1) := by decide +kernel
theorem dW_guess_94 : decode cW_guess 94 = .ok (.ifCond .gt 6, 3) := by decide +kernel
theorem dW_guess_97 : decode cW_guess 97 = .ok (.goto 21, 3) := by decide +kernel
theorem dW_guess_100 : decode cW_guess 100 = .ok (.lload 11, 2) := by decide +kernel
theorem dW_guess_102 : decode cW_guess 102 = .ok (.lconst 1, 1) := by decide +kernel
theorem dW_guess_103 : decode cW_guess 103 = .ok (.lsub, 1) := by decide +kernel
theorem dW_guess_104 : decode cW_guess 104 = .ok (.lstore 11, 2) := by decide +kernel
theorem dW_guess_106 : decode cW_guess 106 = .ok (.lload 13, 2) := by decide +kernel
theorem dW_guess_108 : decode cW_guess 108 = .ok (.lload_n 3, 1) := by decide +kernel
theorem dW_guess_109 : decode cW_guess 109 = .ok (.ladd, 1) := by decide +kernel
theorem dW_guess_110 : decode cW_guess 110 = .ok (.lstore 13, 2) := by decide +kernel
theorem dW_guess_112 : decode cW_guess 112 = .ok (.iinc 15 1, 3) := by decide +kernel
theorem dW_guess_115 : decode cW_guess 115 = .ok (.goto (-59), 3) := by decide +kernel
theorem dW_guess_118 : decode cW_guess 118 = .ok (.lload 11, 2) := by decide +kernel
theorem dW_guess_120 : decode cW_guess 120 = .ok (.lreturn, 1) := by decide +kernel
abbrev cW_scale : ByteArray := prog_4_method_26_code
abbrev yW_scale : MethodName := ⟨"WholeDesk$Whole", "scale", "(JJ)V"⟩
theorem qW_scale : yW_scale.cls ≠ "java/lang/invoke/MethodHandle" ∧ yW_scale.cls ≠ "java/lang/invoke/VarHandle" ∧ (parseMethodDescriptor yW_scale.desc).map (fun d => d.parameters.length) = some 2 := by decide +kernel
theorem dW_scale_0 : decode cW_scale 0 = .ok (.aload_n 0, 1) := by decide +kernel
theorem dW_scale_1 : decode cW_scale 1 = .ok (.aload_n 0, 1) := by decide +kernel
theorem dW_scale_2 : decode cW_scale 2 = .ok (.getfield 17, 3) := by decide +kernel
theorem dW_scale_5 : decode cW_scale 5 = .ok (.iconst 1, 1) := by decide +kernel
theorem dW_scale_6 : decode cW_scale 6 = .ok (.iadd, 1) := by decide +kernel
theorem dW_scale_7 : decode cW_scale 7 = .ok (.invokevirtual 28, 3) := by decide +kernel
theorem dW_scale_10 : decode cW_scale 10 = .ok (.lload_n 3, 1) := by decide +kernel
theorem dW_scale_11 : decode cW_scale 11 = .ok (.lstore 5, 2) := by decide +kernel
theorem dW_scale_13 : decode cW_scale 13 = .ok (.iconst 0, 1) := by decide +kernel
theorem dW_scale_14 : decode cW_scale 14 = .ok (.istore 7, 2) := by decide +kernel
theorem dW_scale_16 : decode cW_scale 16 = .ok (.iload 7, 2) := by decide +kernel
theorem dW_scale_18 : decode cW_scale 18 = .ok (.aload_n 0, 1) := by decide +kernel
theorem dW_scale_19 : decode cW_scale 19 = .ok (.getfield 17, 3) := by decide +kernel
theorem dW_scale_22 : decode cW_scale 22 = .ok (.if_icmp .ge 43, 3) := by decide +kernel
theorem dW_scale_25 : decode cW_scale 25 = .ok (.aload_n 0, 1) := by decide +kernel
theorem dW_scale_26 : decode cW_scale 26 = .ok (.getfield 11, 3) := by decide +kernel
theorem dW_scale_29 : decode cW_scale 29 = .ok (.iload 7, 2) := by decide +kernel
theorem dW_scale_31 : decode cW_scale 31 = .ok (.laload, 1) := by decide +kernel
theorem dW_scale_32 : decode cW_scale 32 = .ok (.lload_n 1, 1) := by decide +kernel
theorem dW_scale_33 : decode cW_scale 33 = .ok (.lmul, 1) := by decide +kernel
theorem dW_scale_34 : decode cW_scale 34 = .ok (.lload 5, 2) := by decide +kernel
theorem dW_scale_36 : decode cW_scale 36 = .ok (.ladd, 1) := by decide +kernel
theorem dW_scale_37 : decode cW_scale 37 = .ok (.lstore 8, 2) := by decide +kernel
theorem dW_scale_39 : decode cW_scale 39 = .ok (.aload_n 0, 1) := by decide +kernel
theorem dW_scale_40 : decode cW_scale 40 = .ok (.getfield 11, 3) := by decide +kernel
theorem dW_scale_43 : decode cW_scale 43 = .ok (.iload 7, 2) := by decide +kernel
theorem dW_scale_45 : decode cW_scale 45 = .ok (.lload 8, 2) := by decide +kernel
theorem dW_scale_47 : decode cW_scale 47 = .ok (.ldc2_w 15, 3) := by decide +kernel
theorem dW_scale_50 : decode cW_scale 50 = .ok (.land, 1) := by decide +kernel
theorem dW_scale_51 : decode cW_scale 51 = .ok (.lastore, 1) := by decide +kernel
theorem dW_scale_52 : decode cW_scale 52 = .ok (.lload 8, 2) := by decide +kernel
theorem dW_scale_54 : decode cW_scale 54 = .ok (.bipush 28, 2) := by decide +kernel
theorem dW_scale_56 : decode cW_scale 56 = .ok (.lushr, 1) := by decide +kernel
theorem dW_scale_57 : decode cW_scale 57 = .ok (.lstore 5, 2) := by decide +kernel
theorem dW_scale_59 : decode cW_scale 59 = .ok (.iinc 7 1, 3) := by decide +kernel
theorem dW_scale_62 : decode cW_scale 62 = .ok (.goto (-46), 3) := by decide +kernel
theorem dW_scale_65 : decode cW_scale 65 = .ok (.aload_n 0, 1) := by decide +kernel
theorem dW_scale_66 : decode cW_scale 66 = .ok (.invokevirtual 25, 3) := by decide +kernel
theorem dW_scale_69 : decode cW_scale 69 = .ok (.return_, 1) := by decide +kernel
abbrev cW_shrink : ByteArray := prog_4_method_27_code
abbrev yW_shrink : MethodName := ⟨"WholeDesk$Whole", "shrink", "(J)J"⟩
theorem qW_shrink : yW_shrink.cls ≠ "java/lang/invoke/MethodHandle" ∧ yW_shrink.cls ≠ "java/lang/invoke/VarHandle" ∧ (parseMethodDescriptor yW_shrink.desc).map (fun d => d.parameters.length) = some 1 := by decide +kernel
theorem dW_shrink_0 : decode cW_shrink 0 = .ok (.lload_n 1, 1) := by decide +kernel
theorem dW_shrink_1 : decode cW_shrink 1 = .ok (.lconst 0, 1) := by decide +kernel
theorem dW_shrink_2 : decode cW_shrink 2 = .ok (.lcmp, 1) := by decide +kernel
theorem dW_shrink_3 : decode cW_shrink 3 = .ok (.ifCond .gt 5, 3) := by decide +kernel
theorem dW_shrink_6 : decode cW_shrink 6 = .ok (.lconst 0, 1) := by decide +kernel
theorem dW_shrink_7 : decode cW_shrink 7 = .ok (.lreturn, 1) := by decide +kernel
theorem dW_shrink_8 : decode cW_shrink 8 = .ok (.lconst 0, 1) := by decide +kernel
theorem dW_shrink_9 : decode cW_shrink 9 = .ok (.lstore_n 3, 1) := by decide +kernel
theorem dW_shrink_10 : decode cW_shrink 10 = .ok (.aload_n 0, 1) := by decide +kernel
theorem dW_shrink_11 : decode cW_shrink 11 = .ok (.getfield 17, 3) := by decide +kernel
theorem dW_shrink_14 : decode cW_shrink 14 = .ok (.iconst 1, 1) := by decide +kernel
theorem dW_shrink_15 : decode cW_shrink 15 = .ok (.isub, 1) := by decide +kernel
theorem dW_shrink_16 : decode cW_shrink 16 = .ok (.istore 5, 2) := by decide +kernel
theorem dW_shrink_18 : decode cW_shrink 18 = .ok (.iload 5, 2) := by decide +kernel
theorem dW_shrink_20 : decode cW_shrink 20 = .ok (.ifCond .lt 47, 3) := by decide +kernel
theorem dW_shrink_23 : decode cW_shrink 23 = .ok (.lload_n 3, 1) := by decide +kernel
theorem dW_shrink_24 : decode cW_shrink 24 = .ok (.bipush 28, 2) := by decide +kernel
theorem dW_shrink_26 : decode cW_shrink 26 = .ok (.lshl, 1) := by decide +kernel
theorem dW_shrink_27 : decode cW_shrink 27 = .ok (.aload_n 0, 1) := by decide +kernel
theorem dW_shrink_28 : decode cW_shrink 28 = .ok (.getfield 11, 3) := by decide +kernel
theorem dW_shrink_31 : decode cW_shrink 31 = .ok (.iload 5, 2) := by decide +kernel
theorem dW_shrink_33 : decode cW_shrink 33 = .ok (.laload, 1) := by decide +kernel
theorem dW_shrink_34 : decode cW_shrink 34 = .ok (.lor, 1) := by decide +kernel
theorem dW_shrink_35 : decode cW_shrink 35 = .ok (.lstore 6, 2) := by decide +kernel
theorem dW_shrink_37 : decode cW_shrink 37 = .ok (.aload_n 0, 1) := by decide +kernel
theorem dW_shrink_38 : decode cW_shrink 38 = .ok (.getfield 11, 3) := by decide +kernel
theorem dW_shrink_41 : decode cW_shrink 41 = .ok (.iload 5, 2) := by decide +kernel
theorem dW_shrink_43 : decode cW_shrink 43 = .ok (.lload 6, 2) := by decide +kernel
theorem dW_shrink_45 : decode cW_shrink 45 = .ok (.lload_n 1, 1) := by decide +kernel
theorem dW_shrink_46 : decode cW_shrink 46 = .ok (.ldiv, 1) := by decide +kernel
theorem dW_shrink_47 : decode cW_shrink 47 = .ok (.lastore, 1) := by decide +kernel
theorem dW_shrink_48 : decode cW_shrink 48 = .ok (.lload 6, 2) := by decide +kernel
theorem dW_shrink_50 : decode cW_shrink 50 = .ok (.aload_n 0, 1) := by decide +kernel
theorem dW_shrink_51 : decode cW_shrink 51 = .ok (.getfield 11, 3) := by decide +kernel
theorem dW_shrink_54 : decode cW_shrink 54 = .ok (.iload 5, 2) := by decide +kernel
theorem dW_shrink_56 : decode cW_shrink 56 = .ok (.laload, 1) := by decide +kernel
theorem dW_shrink_57 : decode cW_shrink 57 = .ok (.lload_n 1, 1) := by decide +kernel
theorem dW_shrink_58 : decode cW_shrink 58 = .ok (.lmul, 1) := by decide +kernel
theorem dW_shrink_59 : decode cW_shrink 59 = .ok (.lsub, 1) := by decide +kernel
theorem dW_shrink_60 : decode cW_shrink 60 = .ok (.lstore_n 3, 1) := by decide +kernel
theorem dW_shrink_61 : decode cW_shrink 61 = .ok (.iinc 5 (-1), 3) := by decide +kernel
theorem dW_shrink_64 : decode cW_shrink 64 = .ok (.goto (-46), 3) := by decide +kernel
theorem dW_shrink_67 : decode cW_shrink 67 = .ok (.aload_n 0, 1) := by decide +kernel
theorem dW_shrink_68 : decode cW_shrink 68 = .ok (.invokevirtual 25, 3) := by decide +kernel
theorem dW_shrink_71 : decode cW_shrink 71 = .ok (.lload_n 3, 1) := by decide +kernel
theorem dW_shrink_72 : decode cW_shrink 72 = .ok (.lreturn, 1) := by decide +kernel
abbrev cW_turn : ByteArray := prog_4_method_28_code
abbrev yW_turn : MethodName := ⟨"WholeDesk$Whole", "turn", "()V"⟩
theorem qW_turn : yW_turn.cls ≠ "java/lang/invoke/MethodHandle" ∧ yW_turn.cls ≠ "java/lang/invoke/VarHandle" ∧ (parseMethodDescriptor yW_turn.desc).map (fun d => d.parameters.length) = some 0 := by decide +kernel
theorem dW_turn_0 : decode cW_turn 0 = .ok (.lconst 1, 1) := by decide +kernel
theorem dW_turn_1 : decode cW_turn 1 = .ok (.lstore_n 1, 1) := by decide +kernel
theorem dW_turn_2 : decode cW_turn 2 = .ok (.iconst 0, 1) := by decide +kernel
theorem dW_turn_3 : decode cW_turn 3 = .ok (.istore_n 3, 1) := by decide +kernel
theorem dW_turn_4 : decode cW_turn 4 = .ok (.iload_n 3, 1) := by decide +kernel
theorem dW_turn_5 : decode cW_turn 5 = .ok (.aload_n 0, 1) := by decide +kernel
theorem dW_turn_6 : decode cW_turn 6 = .ok (.getfield 17, 3) := by decide +kernel
theorem dW_turn_9 : decode cW_turn 9 = .ok (.if_icmp .ge 41, 3) := by decide +kernel
theorem dW_turn_12 : decode cW_turn 12 = .ok (.aload_n 0, 1) := by decide +kernel
theorem dW_turn_13 : decode cW_turn 13 = .ok (.getfield 11, 3) := by decide +kernel
theorem dW_turn_16 : decode cW_turn 16 = .ok (.iload_n 3, 1) := by decide +kernel
theorem dW_turn_17 : decode cW_turn 17 = .ok (.laload, 1) := by decide +kernel
theorem dW_turn_18 : decode cW_turn 18 = .ok (.ldc2_w 15, 3) := by decide +kernel
theorem dW_turn_21 : decode cW_turn 21 = .ok (.lxor, 1) := by decide +kernel
theorem dW_turn_22 : decode cW_turn 22 = .ok (.lload_n 1, 1) := by decide +kernel
theorem dW_turn_23 : decode cW_turn 23 = .ok (.ladd, 1) := by decide +kernel
theorem dW_turn_24 : decode cW_turn 24 = .ok (.lstore 4, 2) := by decide +kernel
theorem dW_turn_26 : decode cW_turn 26 = .ok (.aload_n 0, 1) := by decide +kernel
theorem dW_turn_27 : decode cW_turn 27 = .ok (.getfield 11, 3) := by decide +kernel
theorem dW_turn_30 : decode cW_turn 30 = .ok (.iload_n 3, 1) := by decide +kernel
theorem dW_turn_31 : decode cW_turn 31 = .ok (.lload 4, 2) := by decide +kernel
theorem dW_turn_33 : decode cW_turn 33 = .ok (.ldc2_w 15, 3) := by decide +kernel
theorem dW_turn_36 : decode cW_turn 36 = .ok (.land, 1) := by decide +kernel
theorem dW_turn_37 : decode cW_turn 37 = .ok (.lastore, 1) := by decide +kernel
theorem dW_turn_38 : decode cW_turn 38 = .ok (.lload 4, 2) := by decide +kernel
theorem dW_turn_40 : decode cW_turn 40 = .ok (.bipush 28, 2) := by decide +kernel
theorem dW_turn_42 : decode cW_turn 42 = .ok (.lushr, 1) := by decide +kernel
theorem dW_turn_43 : decode cW_turn 43 = .ok (.lstore_n 1, 1) := by decide +kernel
theorem dW_turn_44 : decode cW_turn 44 = .ok (.iinc 3 1, 3) := by decide +kernel
theorem dW_turn_47 : decode cW_turn 47 = .ok (.goto (-43), 3) := by decide +kernel
theorem dW_turn_50 : decode cW_turn 50 = .ok (.return_, 1) := by decide +kernel
