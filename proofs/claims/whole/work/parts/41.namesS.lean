abbrev cS_init : ByteArray := prog_1_method_1_code
abbrev yS_init : MethodName := ⟨"WholeDesk", "<init>", "()V"⟩
theorem qS_init : yS_init.cls ≠ "java/lang/invoke/MethodHandle" ∧ yS_init.cls ≠ "java/lang/invoke/VarHandle" ∧ (parseMethodDescriptor yS_init.desc).map (fun d => d.parameters.length) = some 0 := by decide +kernel
theorem dS_init_0 : decode cS_init 0 = .ok (.aload_n 0, 1) := by decide +kernel
theorem dS_init_1 : decode cS_init 1 = .ok (.invokespecial 1, 3) := by decide +kernel
theorem dS_init_4 : decode cS_init 4 = .ok (.aload_n 0, 1) := by decide +kernel
theorem dS_init_5 : decode cS_init 5 = .ok (.bipush 10, 2) := by decide +kernel
theorem dS_init_7 : decode cS_init 7 = .ok (.anewarray 9, 3) := by decide +kernel
theorem dS_init_10 : decode cS_init 10 = .ok (.putfield 11, 3) := by decide +kernel
theorem dS_init_13 : decode cS_init 13 = .ok (.iconst 0, 1) := by decide +kernel
theorem dS_init_14 : decode cS_init 14 = .ok (.istore_n 1, 1) := by decide +kernel
theorem dS_init_15 : decode cS_init 15 = .ok (.iload_n 1, 1) := by decide +kernel
theorem dS_init_16 : decode cS_init 16 = .ok (.bipush 10, 2) := by decide +kernel
theorem dS_init_18 : decode cS_init 18 = .ok (.if_icmp .ge 22, 3) := by decide +kernel
theorem dS_init_21 : decode cS_init 21 = .ok (.aload_n 0, 1) := by decide +kernel
theorem dS_init_22 : decode cS_init 22 = .ok (.getfield 11, 3) := by decide +kernel
theorem dS_init_25 : decode cS_init 25 = .ok (.iload_n 1, 1) := by decide +kernel
theorem dS_init_26 : decode cS_init 26 = .ok (.new 9, 3) := by decide +kernel
theorem dS_init_29 : decode cS_init 29 = .ok (.dup, 1) := by decide +kernel
theorem dS_init_30 : decode cS_init 30 = .ok (.invokespecial 15, 3) := by decide +kernel
theorem dS_init_33 : decode cS_init 33 = .ok (.aastore, 1) := by decide +kernel
theorem dS_init_34 : decode cS_init 34 = .ok (.iinc 1 1, 3) := by decide +kernel
theorem dS_init_37 : decode cS_init 37 = .ok (.goto (-22), 3) := by decide +kernel
theorem dS_init_40 : decode cS_init 40 = .ok (.aload_n 0, 1) := by decide +kernel
theorem dS_init_41 : decode cS_init 41 = .ok (.new 16, 3) := by decide +kernel
theorem dS_init_44 : decode cS_init 44 = .ok (.dup, 1) := by decide +kernel
theorem dS_init_45 : decode cS_init 45 = .ok (.invokespecial 18, 3) := by decide +kernel
theorem dS_init_48 : decode cS_init 48 = .ok (.putfield 19, 3) := by decide +kernel
theorem dS_init_51 : decode cS_init 51 = .ok (.aload_n 0, 1) := by decide +kernel
theorem dS_init_52 : decode cS_init 52 = .ok (.new 23, 3) := by decide +kernel
theorem dS_init_55 : decode cS_init 55 = .ok (.dup, 1) := by decide +kernel
theorem dS_init_56 : decode cS_init 56 = .ok (.invokespecial 25, 3) := by decide +kernel
theorem dS_init_59 : decode cS_init 59 = .ok (.putfield 26, 3) := by decide +kernel
theorem dS_init_62 : decode cS_init 62 = .ok (.aload_n 0, 1) := by decide +kernel
theorem dS_init_63 : decode cS_init 63 = .ok (.new 30, 3) := by decide +kernel
theorem dS_init_66 : decode cS_init 66 = .ok (.dup, 1) := by decide +kernel
theorem dS_init_67 : decode cS_init 67 = .ok (.invokespecial 32, 3) := by decide +kernel
theorem dS_init_70 : decode cS_init 70 = .ok (.putfield 33, 3) := by decide +kernel
theorem dS_init_73 : decode cS_init 73 = .ok (.return_, 1) := by decide +kernel
abbrev cS_write : ByteArray := prog_1_method_2_code
abbrev yS_write : MethodName := ⟨"WholeDesk", "write", "(IJ)I"⟩
theorem qS_write : yS_write.cls ≠ "java/lang/invoke/MethodHandle" ∧ yS_write.cls ≠ "java/lang/invoke/VarHandle" ∧ (parseMethodDescriptor yS_write.desc).map (fun d => d.parameters.length) = some 2 := by decide +kernel
theorem dS_write_0 : decode cS_write 0 = .ok (.iload_n 1, 1) := by decide +kernel
theorem dS_write_1 : decode cS_write 1 = .ok (.iconst 1, 1) := by decide +kernel
theorem dS_write_2 : decode cS_write 2 = .ok (.if_icmp .lt 9, 3) := by decide +kernel
theorem dS_write_5 : decode cS_write 5 = .ok (.iload_n 1, 1) := by decide +kernel
theorem dS_write_6 : decode cS_write 6 = .ok (.bipush 8, 2) := by decide +kernel
theorem dS_write_8 : decode cS_write 8 = .ok (.if_icmp .le 13, 3) := by decide +kernel
theorem dS_write_11 : decode cS_write 11 = .ok (.new 37, 3) := by decide +kernel
theorem dS_write_14 : decode cS_write 14 = .ok (.dup, 1) := by decide +kernel
theorem dS_write_15 : decode cS_write 15 = .ok (.ldc 39, 2) := by decide +kernel
theorem dS_write_17 : decode cS_write 17 = .ok (.invokespecial 41, 3) := by decide +kernel
theorem dS_write_20 : decode cS_write 20 = .ok (.athrow, 1) := by decide +kernel
theorem dS_write_21 : decode cS_write 21 = .ok (.aload_n 0, 1) := by decide +kernel
theorem dS_write_22 : decode cS_write 22 = .ok (.getfield 26, 3) := by decide +kernel
theorem dS_write_25 : decode cS_write 25 = .ok (.iload_n 1, 1) := by decide +kernel
theorem dS_write_26 : decode cS_write 26 = .ok (.lload_n 2, 1) := by decide +kernel
theorem dS_write_27 : decode cS_write 27 = .ok (.invokevirtual 44, 3) := by decide +kernel
theorem dS_write_30 : decode cS_write 30 = .ok (.ifCond .eq 13, 3) := by decide +kernel
theorem dS_write_33 : decode cS_write 33 = .ok (.aload_n 0, 1) := by decide +kernel
theorem dS_write_34 : decode cS_write 34 = .ok (.getfield 26, 3) := by decide +kernel
theorem dS_write_37 : decode cS_write 37 = .ok (.getfield 48, 3) := by decide +kernel
theorem dS_write_40 : decode cS_write 40 = .ok (.goto 4, 3) := by decide +kernel
theorem dS_write_43 : decode cS_write 43 = .ok (.iconst (-1), 1) := by decide +kernel
theorem dS_write_44 : decode cS_write 44 = .ok (.ireturn, 1) := by decide +kernel
abbrev cS_wipe : ByteArray := prog_1_method_3_code
abbrev yS_wipe : MethodName := ⟨"WholeDesk", "wipe", "()I"⟩
theorem qS_wipe : yS_wipe.cls ≠ "java/lang/invoke/MethodHandle" ∧ yS_wipe.cls ≠ "java/lang/invoke/VarHandle" ∧ (parseMethodDescriptor yS_wipe.desc).map (fun d => d.parameters.length) = some 0 := by decide +kernel
theorem dS_wipe_0 : decode cS_wipe 0 = .ok (.aload_n 0, 1) := by decide +kernel
theorem dS_wipe_1 : decode cS_wipe 1 = .ok (.getfield 26, 3) := by decide +kernel
theorem dS_wipe_4 : decode cS_wipe 4 = .ok (.getfield 48, 3) := by decide +kernel
theorem dS_wipe_7 : decode cS_wipe 7 = .ok (.istore_n 1, 1) := by decide +kernel
theorem dS_wipe_8 : decode cS_wipe 8 = .ok (.aload_n 0, 1) := by decide +kernel
theorem dS_wipe_9 : decode cS_wipe 9 = .ok (.getfield 26, 3) := by decide +kernel
theorem dS_wipe_12 : decode cS_wipe 12 = .ok (.iconst 0, 1) := by decide +kernel
theorem dS_wipe_13 : decode cS_wipe 13 = .ok (.putfield 48, 3) := by decide +kernel
theorem dS_wipe_16 : decode cS_wipe 16 = .ok (.iload_n 1, 1) := by decide +kernel
theorem dS_wipe_17 : decode cS_wipe 17 = .ok (.ireturn, 1) := by decide +kernel
abbrev cS_read : ByteArray := prog_1_method_4_code
abbrev yS_read : MethodName := ⟨"WholeDesk", "read", "(II)V"⟩
theorem qS_read : yS_read.cls ≠ "java/lang/invoke/MethodHandle" ∧ yS_read.cls ≠ "java/lang/invoke/VarHandle" ∧ (parseMethodDescriptor yS_read.desc).map (fun d => d.parameters.length) = some 2 := by decide +kernel
theorem dS_read_0 : decode cS_read 0 = .ok (.iload_n 1, 1) := by decide +kernel
theorem dS_read_1 : decode cS_read 1 = .ok (.invokestatic 52, 3) := by decide +kernel
theorem dS_read_4 : decode cS_read 4 = .ok (.iload_n 2, 1) := by decide +kernel
theorem dS_read_5 : decode cS_read 5 = .ok (.invokestatic 56, 3) := by decide +kernel
theorem dS_read_8 : decode cS_read 8 = .ok (.aload_n 0, 1) := by decide +kernel
theorem dS_read_9 : decode cS_read 9 = .ok (.getfield 26, 3) := by decide +kernel
theorem dS_read_12 : decode cS_read 12 = .ok (.iload_n 2, 1) := by decide +kernel
theorem dS_read_13 : decode cS_read 13 = .ok (.invokevirtual 59, 3) := by decide +kernel
theorem dS_read_16 : decode cS_read 16 = .ok (.ifCond .ne 13, 3) := by decide +kernel
theorem dS_read_19 : decode cS_read 19 = .ok (.new 63, 3) := by decide +kernel
theorem dS_read_22 : decode cS_read 22 = .ok (.dup, 1) := by decide +kernel
theorem dS_read_23 : decode cS_read 23 = .ok (.ldc 65, 2) := by decide +kernel
theorem dS_read_25 : decode cS_read 25 = .ok (.invokespecial 67, 3) := by decide +kernel
theorem dS_read_28 : decode cS_read 28 = .ok (.athrow, 1) := by decide +kernel
theorem dS_read_29 : decode cS_read 29 = .ok (.aload_n 0, 1) := by decide +kernel
theorem dS_read_30 : decode cS_read 30 = .ok (.aload_n 0, 1) := by decide +kernel
theorem dS_read_31 : decode cS_read 31 = .ok (.getfield 26, 3) := by decide +kernel
theorem dS_read_34 : decode cS_read 34 = .ok (.iload_n 2, 1) := by decide +kernel
theorem dS_read_35 : decode cS_read 35 = .ok (.invokevirtual 68, 3) := by decide +kernel
theorem dS_read_38 : decode cS_read 38 = .ok (.iload_n 1, 1) := by decide +kernel
theorem dS_read_39 : decode cS_read 39 = .ok (.invokevirtual 72, 3) := by decide +kernel
theorem dS_read_42 : decode cS_read 42 = .ok (.aload_n 0, 1) := by decide +kernel
theorem dS_read_43 : decode cS_read 43 = .ok (.getfield 26, 3) := by decide +kernel
theorem dS_read_46 : decode cS_read 46 = .ok (.iconst 0, 1) := by decide +kernel
theorem dS_read_47 : decode cS_read 47 = .ok (.putfield 48, 3) := by decide +kernel
theorem dS_read_50 : decode cS_read 50 = .ok (.return_, 1) := by decide +kernel
abbrev cS_put : ByteArray := prog_1_method_5_code
abbrev yS_put : MethodName := ⟨"WholeDesk", "put", "(IJ)V"⟩
theorem qS_put : yS_put.cls ≠ "java/lang/invoke/MethodHandle" ∧ yS_put.cls ≠ "java/lang/invoke/VarHandle" ∧ (parseMethodDescriptor yS_put.desc).map (fun d => d.parameters.length) = some 2 := by decide +kernel
theorem dS_put_0 : decode cS_put 0 = .ok (.iload_n 1, 1) := by decide +kernel
theorem dS_put_1 : decode cS_put 1 = .ok (.invokestatic 52, 3) := by decide +kernel
theorem dS_put_4 : decode cS_put 4 = .ok (.aload_n 0, 1) := by decide +kernel
theorem dS_put_5 : decode cS_put 5 = .ok (.getfield 11, 3) := by decide +kernel
theorem dS_put_8 : decode cS_put 8 = .ok (.iload_n 1, 1) := by decide +kernel
theorem dS_put_9 : decode cS_put 9 = .ok (.aaload, 1) := by decide +kernel
theorem dS_put_10 : decode cS_put 10 = .ok (.lload_n 2, 1) := by decide +kernel
theorem dS_put_11 : decode cS_put 11 = .ok (.invokevirtual 76, 3) := by decide +kernel
theorem dS_put_14 : decode cS_put 14 = .ok (.return_, 1) := by decide +kernel
abbrev cS_add : ByteArray := prog_1_method_6_code
abbrev yS_add : MethodName := ⟨"WholeDesk", "add", "(IIIZ)V"⟩
theorem qS_add : yS_add.cls ≠ "java/lang/invoke/MethodHandle" ∧ yS_add.cls ≠ "java/lang/invoke/VarHandle" ∧ (parseMethodDescriptor yS_add.desc).map (fun d => d.parameters.length) = some 4 := by decide +kernel
theorem dS_add_0 : decode cS_add 0 = .ok (.iload_n 1, 1) := by decide +kernel
theorem dS_add_1 : decode cS_add 1 = .ok (.invokestatic 52, 3) := by decide +kernel
theorem dS_add_4 : decode cS_add 4 = .ok (.iload_n 2, 1) := by decide +kernel
theorem dS_add_5 : decode cS_add 5 = .ok (.invokestatic 52, 3) := by decide +kernel
theorem dS_add_8 : decode cS_add 8 = .ok (.iload_n 3, 1) := by decide +kernel
theorem dS_add_9 : decode cS_add 9 = .ok (.invokestatic 52, 3) := by decide +kernel
theorem dS_add_12 : decode cS_add 12 = .ok (.aload_n 0, 1) := by decide +kernel
theorem dS_add_13 : decode cS_add 13 = .ok (.aload_n 0, 1) := by decide +kernel
theorem dS_add_14 : decode cS_add 14 = .ok (.getfield 19, 3) := by decide +kernel
theorem dS_add_17 : decode cS_add 17 = .ok (.aload_n 0, 1) := by decide +kernel
theorem dS_add_18 : decode cS_add 18 = .ok (.getfield 11, 3) := by decide +kernel
theorem dS_add_21 : decode cS_add 21 = .ok (.iload_n 1, 1) := by decide +kernel
theorem dS_add_22 : decode cS_add 22 = .ok (.aaload, 1) := by decide +kernel
theorem dS_add_23 : decode cS_add 23 = .ok (.aload_n 0, 1) := by decide +kernel
theorem dS_add_24 : decode cS_add 24 = .ok (.getfield 11, 3) := by decide +kernel
theorem dS_add_27 : decode cS_add 27 = .ok (.iload_n 2, 1) := by decide +kernel
theorem dS_add_28 : decode cS_add 28 = .ok (.aaload, 1) := by decide +kernel
theorem dS_add_29 : decode cS_add 29 = .ok (.iload 4, 2) := by decide +kernel
theorem dS_add_31 : decode cS_add 31 = .ok (.invokevirtual 80, 3) := by decide +kernel
theorem dS_add_34 : decode cS_add 34 = .ok (.iload_n 3, 1) := by decide +kernel
theorem dS_add_35 : decode cS_add 35 = .ok (.invokevirtual 72, 3) := by decide +kernel
theorem dS_add_38 : decode cS_add 38 = .ok (.return_, 1) := by decide +kernel
abbrev cS_multiply : ByteArray := prog_1_method_7_code
abbrev yS_multiply : MethodName := ⟨"WholeDesk", "multiply", "(III)V"⟩
theorem qS_multiply : yS_multiply.cls ≠ "java/lang/invoke/MethodHandle" ∧ yS_multiply.cls ≠ "java/lang/invoke/VarHandle" ∧ (parseMethodDescriptor yS_multiply.desc).map (fun d => d.parameters.length) = some 3 := by decide +kernel
theorem dS_multiply_0 : decode cS_multiply 0 = .ok (.iload_n 1, 1) := by decide +kernel
theorem dS_multiply_1 : decode cS_multiply 1 = .ok (.invokestatic 52, 3) := by decide +kernel
theorem dS_multiply_4 : decode cS_multiply 4 = .ok (.iload_n 2, 1) := by decide +kernel
theorem dS_multiply_5 : decode cS_multiply 5 = .ok (.invokestatic 52, 3) := by decide +kernel
theorem dS_multiply_8 : decode cS_multiply 8 = .ok (.iload_n 3, 1) := by decide +kernel
theorem dS_multiply_9 : decode cS_multiply 9 = .ok (.invokestatic 52, 3) := by decide +kernel
theorem dS_multiply_12 : decode cS_multiply 12 = .ok (.aload_n 0, 1) := by decide +kernel
theorem dS_multiply_13 : decode cS_multiply 13 = .ok (.aload_n 0, 1) := by decide +kernel
theorem dS_multiply_14 : decode cS_multiply 14 = .ok (.getfield 19, 3) := by decide +kernel
theorem dS_multiply_17 : decode cS_multiply 17 = .ok (.aload_n 0, 1) := by decide +kernel
theorem dS_multiply_18 : decode cS_multiply 18 = .ok (.getfield 11, 3) := by decide +kernel
theorem dS_multiply_21 : decode cS_multiply 21 = .ok (.iload_n 1, 1) := by decide +kernel
theorem dS_multiply_22 : decode cS_multiply 22 = .ok (.aaload, 1) := by decide +kernel
theorem dS_multiply_23 : decode cS_multiply 23 = .ok (.aload_n 0, 1) := by decide +kernel
theorem dS_multiply_24 : decode cS_multiply 24 = .ok (.getfield 11, 3) := by decide +kernel
theorem dS_multiply_27 : decode cS_multiply 27 = .ok (.iload_n 2, 1) := by decide +kernel
theorem dS_multiply_28 : decode cS_multiply 28 = .ok (.aaload, 1) := by decide +kernel
theorem dS_multiply_29 : decode cS_multiply 29 = .ok (.invokevirtual 84, 3) := by decide +kernel
theorem dS_multiply_32 : decode cS_multiply 32 = .ok (.iload_n 3, 1) := by decide +kernel
theorem dS_multiply_33 : decode cS_multiply 33 = .ok (.invokevirtual 72, 3) := by decide +kernel
theorem dS_multiply_36 : decode cS_multiply 36 = .ok (.return_, 1) := by decide +kernel
abbrev cS_divide : ByteArray := prog_1_method_8_code
abbrev yS_divide : MethodName := ⟨"WholeDesk", "divide", "(IIII)V"⟩
theorem qS_divide : yS_divide.cls ≠ "java/lang/invoke/MethodHandle" ∧ yS_divide.cls ≠ "java/lang/invoke/VarHandle" ∧ (parseMethodDescriptor yS_divide.desc).map (fun d => d.parameters.length) = some 4 := by decide +kernel
theorem dS_divide_0 : decode cS_divide 0 = .ok (.iload_n 1, 1) := by decide +kernel
theorem dS_divide_1 : decode cS_divide 1 = .ok (.invokestatic 52, 3) := by decide +kernel
theorem dS_divide_4 : decode cS_divide 4 = .ok (.iload_n 2, 1) := by decide +kernel
theorem dS_divide_5 : decode cS_divide 5 = .ok (.invokestatic 52, 3) := by decide +kernel
theorem dS_divide_8 : decode cS_divide 8 = .ok (.iload_n 3, 1) := by decide +kernel
theorem dS_divide_9 : decode cS_divide 9 = .ok (.invokestatic 52, 3) := by decide +kernel
theorem dS_divide_12 : decode cS_divide 12 = .ok (.iload 4, 2) := by decide +kernel
theorem dS_divide_14 : decode cS_divide 14 = .ok (.invokestatic 52, 3) := by decide +kernel
theorem dS_divide_17 : decode cS_divide 17 = .ok (.aload_n 0, 1) := by decide +kernel
theorem dS_divide_18 : decode cS_divide 18 = .ok (.getfield 11, 3) := by decide +kernel
theorem dS_divide_21 : decode cS_divide 21 = .ok (.iload_n 2, 1) := by decide +kernel
theorem dS_divide_22 : decode cS_divide 22 = .ok (.aaload, 1) := by decide +kernel
theorem dS_divide_23 : decode cS_divide 23 = .ok (.getfield 88, 3) := by decide +kernel
theorem dS_divide_26 : decode cS_divide 26 = .ok (.ifCond .ne 13, 3) := by decide +kernel
theorem dS_divide_29 : decode cS_divide 29 = .ok (.new 89, 3) := by decide +kernel
theorem dS_divide_32 : decode cS_divide 32 = .ok (.dup, 1) := by decide +kernel
theorem dS_divide_33 : decode cS_divide 33 = .ok (.ldc 91, 2) := by decide +kernel
theorem dS_divide_35 : decode cS_divide 35 = .ok (.invokespecial 93, 3) := by decide +kernel
theorem dS_divide_38 : decode cS_divide 38 = .ok (.athrow, 1) := by decide +kernel
theorem dS_divide_39 : decode cS_divide 39 = .ok (.aload_n 0, 1) := by decide +kernel
theorem dS_divide_40 : decode cS_divide 40 = .ok (.getfield 19, 3) := by decide +kernel
theorem dS_divide_43 : decode cS_divide 43 = .ok (.aload_n 0, 1) := by decide +kernel
theorem dS_divide_44 : decode cS_divide 44 = .ok (.getfield 11, 3) := by decide +kernel
theorem dS_divide_47 : decode cS_divide 47 = .ok (.iload_n 1, 1) := by decide +kernel
theorem dS_divide_48 : decode cS_divide 48 = .ok (.aaload, 1) := by decide +kernel
theorem dS_divide_49 : decode cS_divide 49 = .ok (.aload_n 0, 1) := by decide +kernel
theorem dS_divide_50 : decode cS_divide 50 = .ok (.getfield 11, 3) := by decide +kernel
theorem dS_divide_53 : decode cS_divide 53 = .ok (.iload_n 2, 1) := by decide +kernel
theorem dS_divide_54 : decode cS_divide 54 = .ok (.aaload, 1) := by decide +kernel
theorem dS_divide_55 : decode cS_divide 55 = .ok (.invokevirtual 94, 3) := by decide +kernel
theorem dS_divide_58 : decode cS_divide 58 = .ok (.aload_n 0, 1) := by decide +kernel
theorem dS_divide_59 : decode cS_divide 59 = .ok (.aload_n 0, 1) := by decide +kernel
theorem dS_divide_60 : decode cS_divide 60 = .ok (.getfield 19, 3) := by decide +kernel
theorem dS_divide_63 : decode cS_divide 63 = .ok (.getfield 98, 3) := by decide +kernel
theorem dS_divide_66 : decode cS_divide 66 = .ok (.iload_n 3, 1) := by decide +kernel
theorem dS_divide_67 : decode cS_divide 67 = .ok (.invokevirtual 72, 3) := by decide +kernel
theorem dS_divide_70 : decode cS_divide 70 = .ok (.aload_n 0, 1) := by decide +kernel
theorem dS_divide_71 : decode cS_divide 71 = .ok (.aload_n 0, 1) := by decide +kernel
theorem dS_divide_72 : decode cS_divide 72 = .ok (.getfield 19, 3) := by decide +kernel
theorem dS_divide_75 : decode cS_divide 75 = .ok (.getfield 102, 3) := by decide +kernel
theorem dS_divide_78 : decode cS_divide 78 = .ok (.iload 4, 2) := by decide +kernel
theorem dS_divide_80 : decode cS_divide 80 = .ok (.invokevirtual 72, 3) := by decide +kernel
theorem dS_divide_83 : decode cS_divide 83 = .ok (.return_, 1) := by decide +kernel
abbrev cS_modulo : ByteArray := prog_1_method_9_code
abbrev yS_modulo : MethodName := ⟨"WholeDesk", "modulo", "(III)V"⟩
theorem qS_modulo : yS_modulo.cls ≠ "java/lang/invoke/MethodHandle" ∧ yS_modulo.cls ≠ "java/lang/invoke/VarHandle" ∧ (parseMethodDescriptor yS_modulo.desc).map (fun d => d.parameters.length) = some 3 := by decide +kernel
theorem dS_modulo_0 : decode cS_modulo 0 = .ok (.iload_n 1, 1) := by decide +kernel
theorem dS_modulo_1 : decode cS_modulo 1 = .ok (.invokestatic 52, 3) := by decide +kernel
theorem dS_modulo_4 : decode cS_modulo 4 = .ok (.iload_n 2, 1) := by decide +kernel
theorem dS_modulo_5 : decode cS_modulo 5 = .ok (.invokestatic 52, 3) := by decide +kernel
theorem dS_modulo_8 : decode cS_modulo 8 = .ok (.iload_n 3, 1) := by decide +kernel
theorem dS_modulo_9 : decode cS_modulo 9 = .ok (.invokestatic 52, 3) := by decide +kernel
theorem dS_modulo_12 : decode cS_modulo 12 = .ok (.aload_n 0, 1) := by decide +kernel
theorem dS_modulo_13 : decode cS_modulo 13 = .ok (.getfield 11, 3) := by decide +kernel
theorem dS_modulo_16 : decode cS_modulo 16 = .ok (.iload_n 2, 1) := by decide +kernel
theorem dS_modulo_17 : decode cS_modulo 17 = .ok (.aaload, 1) := by decide +kernel
theorem dS_modulo_18 : decode cS_modulo 18 = .ok (.invokestatic 105, 3) := by decide +kernel
theorem dS_modulo_21 : decode cS_modulo 21 = .ok (.aload_n 0, 1) := by decide +kernel
theorem dS_modulo_22 : decode cS_modulo 22 = .ok (.aload_n 0, 1) := by decide +kernel
theorem dS_modulo_23 : decode cS_modulo 23 = .ok (.getfield 19, 3) := by decide +kernel
theorem dS_modulo_26 : decode cS_modulo 26 = .ok (.aload_n 0, 1) := by decide +kernel
theorem dS_modulo_27 : decode cS_modulo 27 = .ok (.getfield 11, 3) := by decide +kernel
theorem dS_modulo_30 : decode cS_modulo 30 = .ok (.iload_n 1, 1) := by decide +kernel
theorem dS_modulo_31 : decode cS_modulo 31 = .ok (.aaload, 1) := by decide +kernel
theorem dS_modulo_32 : decode cS_modulo 32 = .ok (.aload_n 0, 1) := by decide +kernel
theorem dS_modulo_33 : decode cS_modulo 33 = .ok (.getfield 11, 3) := by decide +kernel
theorem dS_modulo_36 : decode cS_modulo 36 = .ok (.iload_n 2, 1) := by decide +kernel
theorem dS_modulo_37 : decode cS_modulo 37 = .ok (.aaload, 1) := by decide +kernel
theorem dS_modulo_38 : decode cS_modulo 38 = .ok (.invokevirtual 109, 3) := by decide +kernel
theorem dS_modulo_41 : decode cS_modulo 41 = .ok (.iload_n 3, 1) := by decide +kernel
theorem dS_modulo_42 : decode cS_modulo 42 = .ok (.invokevirtual 72, 3) := by decide +kernel
theorem dS_modulo_45 : decode cS_modulo 45 = .ok (.return_, 1) := by decide +kernel
abbrev cS_power : ByteArray := prog_1_method_10_code
abbrev yS_power : MethodName := ⟨"WholeDesk", "power", "(III)V"⟩
theorem qS_power : yS_power.cls ≠ "java/lang/invoke/MethodHandle" ∧ yS_power.cls ≠ "java/lang/invoke/VarHandle" ∧ (parseMethodDescriptor yS_power.desc).map (fun d => d.parameters.length) = some 3 := by decide +kernel
theorem dS_power_0 : decode cS_power 0 = .ok (.iload_n 1, 1) := by decide +kernel
theorem dS_power_1 : decode cS_power 1 = .ok (.invokestatic 52, 3) := by decide +kernel
theorem dS_power_4 : decode cS_power 4 = .ok (.iload_n 3, 1) := by decide +kernel
theorem dS_power_5 : decode cS_power 5 = .ok (.invokestatic 52, 3) := by decide +kernel
theorem dS_power_8 : decode cS_power 8 = .ok (.iload_n 2, 1) := by decide +kernel
theorem dS_power_9 : decode cS_power 9 = .ok (.ifCond .ge 13, 3) := by decide +kernel
theorem dS_power_12 : decode cS_power 12 = .ok (.new 37, 3) := by decide +kernel
theorem dS_power_15 : decode cS_power 15 = .ok (.dup, 1) := by decide +kernel
theorem dS_power_16 : decode cS_power 16 = .ok (.ldc 112, 2) := by decide +kernel
theorem dS_power_18 : decode cS_power 18 = .ok (.invokespecial 41, 3) := by decide +kernel
theorem dS_power_21 : decode cS_power 21 = .ok (.athrow, 1) := by decide +kernel
theorem dS_power_22 : decode cS_power 22 = .ok (.aload_n 0, 1) := by decide +kernel
theorem dS_power_23 : decode cS_power 23 = .ok (.getfield 11, 3) := by decide +kernel
theorem dS_power_26 : decode cS_power 26 = .ok (.iload_n 1, 1) := by decide +kernel
theorem dS_power_27 : decode cS_power 27 = .ok (.aaload, 1) := by decide +kernel
theorem dS_power_28 : decode cS_power 28 = .ok (.invokevirtual 114, 3) := by decide +kernel
theorem dS_power_31 : decode cS_power 31 = .ok (.istore 4, 2) := by decide +kernel
theorem dS_power_33 : decode cS_power 33 = .ok (.iload 4, 2) := by decide +kernel
theorem dS_power_35 : decode cS_power 35 = .ok (.iconst 1, 1) := by decide +kernel
theorem dS_power_36 : decode cS_power 36 = .ok (.if_icmp .le 28, 3) := by decide +kernel
theorem dS_power_39 : decode cS_power 39 = .ok (.iload 4, 2) := by decide +kernel
theorem dS_power_41 : decode cS_power 41 = .ok (.iconst 1, 1) := by decide +kernel
theorem dS_power_42 : decode cS_power 42 = .ok (.isub, 1) := by decide +kernel
theorem dS_power_43 : decode cS_power 43 = .ok (.i2l, 1) := by decide +kernel
theorem dS_power_44 : decode cS_power 44 = .ok (.iload_n 2, 1) := by decide +kernel
theorem dS_power_45 : decode cS_power 45 = .ok (.i2l, 1) := by decide +kernel
theorem dS_power_46 : decode cS_power 46 = .ok (.lmul, 1) := by decide +kernel
theorem dS_power_47 : decode cS_power 47 = .ok (.ldc2_w 118, 3) := by decide +kernel
theorem dS_power_50 : decode cS_power 50 = .ok (.lcmp, 1) := by decide +kernel
theorem dS_power_51 : decode cS_power 51 = .ok (.ifCond .lt 13, 3) := by decide +kernel
theorem dS_power_54 : decode cS_power 54 = .ok (.new 89, 3) := by decide +kernel
theorem dS_power_57 : decode cS_power 57 = .ok (.dup, 1) := by decide +kernel
theorem dS_power_58 : decode cS_power 58 = .ok (.ldc 120, 2) := by decide +kernel
theorem dS_power_60 : decode cS_power 60 = .ok (.invokespecial 93, 3) := by decide +kernel
theorem dS_power_63 : decode cS_power 63 = .ok (.athrow, 1) := by decide +kernel
theorem dS_power_64 : decode cS_power 64 = .ok (.aload_n 0, 1) := by decide +kernel
theorem dS_power_65 : decode cS_power 65 = .ok (.aload_n 0, 1) := by decide +kernel
theorem dS_power_66 : decode cS_power 66 = .ok (.getfield 19, 3) := by decide +kernel
theorem dS_power_69 : decode cS_power 69 = .ok (.aload_n 0, 1) := by decide +kernel
theorem dS_power_70 : decode cS_power 70 = .ok (.getfield 11, 3) := by decide +kernel
theorem dS_power_73 : decode cS_power 73 = .ok (.iload_n 1, 1) := by decide +kernel
theorem dS_power_74 : decode cS_power 74 = .ok (.aaload, 1) := by decide +kernel
theorem dS_power_75 : decode cS_power 75 = .ok (.iload_n 2, 1) := by decide +kernel
theorem dS_power_76 : decode cS_power 76 = .ok (.invokevirtual 122, 3) := by decide +kernel
theorem dS_power_79 : decode cS_power 79 = .ok (.iload_n 3, 1) := by decide +kernel
theorem dS_power_80 : decode cS_power 80 = .ok (.invokevirtual 72, 3) := by decide +kernel
theorem dS_power_83 : decode cS_power 83 = .ok (.return_, 1) := by decide +kernel
abbrev cS_root : ByteArray := prog_1_method_11_code
abbrev yS_root : MethodName := ⟨"WholeDesk", "root", "(III)V"⟩
theorem qS_root : yS_root.cls ≠ "java/lang/invoke/MethodHandle" ∧ yS_root.cls ≠ "java/lang/invoke/VarHandle" ∧ (parseMethodDescriptor yS_root.desc).map (fun d => d.parameters.length) = some 3 := by decide +kernel
theorem dS_root_0 : decode cS_root 0 = .ok (.iload_n 1, 1) := by decide +kernel
theorem dS_root_1 : decode cS_root 1 = .ok (.invokestatic 52, 3) := by decide +kernel
theorem dS_root_4 : decode cS_root 4 = .ok (.iload_n 3, 1) := by decide +kernel
theorem dS_root_5 : decode cS_root 5 = .ok (.invokestatic 52, 3) := by decide +kernel
theorem dS_root_8 : decode cS_root 8 = .ok (.iload_n 2, 1) := by decide +kernel
theorem dS_root_9 : decode cS_root 9 = .ok (.iconst 1, 1) := by decide +kernel
theorem dS_root_10 : decode cS_root 10 = .ok (.if_icmp .lt 9, 3) := by decide +kernel
theorem dS_root_13 : decode cS_root 13 = .ok (.iload_n 2, 1) := by decide +kernel
theorem dS_root_14 : decode cS_root 14 = .ok (.bipush 64, 2) := by decide +kernel
theorem dS_root_16 : decode cS_root 16 = .ok (.if_icmp .le 13, 3) := by decide +kernel
theorem dS_root_19 : decode cS_root 19 = .ok (.new 37, 3) := by decide +kernel
theorem dS_root_22 : decode cS_root 22 = .ok (.dup, 1) := by decide +kernel
theorem dS_root_23 : decode cS_root 23 = .ok (.ldc 126, 2) := by decide +kernel
theorem dS_root_25 : decode cS_root 25 = .ok (.invokespecial 41, 3) := by decide +kernel
theorem dS_root_28 : decode cS_root 28 = .ok (.athrow, 1) := by decide +kernel
theorem dS_root_29 : decode cS_root 29 = .ok (.aload_n 0, 1) := by decide +kernel
theorem dS_root_30 : decode cS_root 30 = .ok (.getfield 11, 3) := by decide +kernel
theorem dS_root_33 : decode cS_root 33 = .ok (.iload_n 1, 1) := by decide +kernel
theorem dS_root_34 : decode cS_root 34 = .ok (.aaload, 1) := by decide +kernel
theorem dS_root_35 : decode cS_root 35 = .ok (.getfield 128, 3) := by decide +kernel
theorem dS_root_38 : decode cS_root 38 = .ok (.ifCond .eq 13, 3) := by decide +kernel
theorem dS_root_41 : decode cS_root 41 = .ok (.new 89, 3) := by decide +kernel
theorem dS_root_44 : decode cS_root 44 = .ok (.dup, 1) := by decide +kernel
theorem dS_root_45 : decode cS_root 45 = .ok (.ldc 132, 2) := by decide +kernel
theorem dS_root_47 : decode cS_root 47 = .ok (.invokespecial 93, 3) := by decide +kernel
theorem dS_root_50 : decode cS_root 50 = .ok (.athrow, 1) := by decide +kernel
theorem dS_root_51 : decode cS_root 51 = .ok (.aload_n 0, 1) := by decide +kernel
theorem dS_root_52 : decode cS_root 52 = .ok (.aload_n 0, 1) := by decide +kernel
theorem dS_root_53 : decode cS_root 53 = .ok (.getfield 19, 3) := by decide +kernel
theorem dS_root_56 : decode cS_root 56 = .ok (.aload_n 0, 1) := by decide +kernel
theorem dS_root_57 : decode cS_root 57 = .ok (.getfield 11, 3) := by decide +kernel
theorem dS_root_60 : decode cS_root 60 = .ok (.iload_n 1, 1) := by decide +kernel
theorem dS_root_61 : decode cS_root 61 = .ok (.aaload, 1) := by decide +kernel
theorem dS_root_62 : decode cS_root 62 = .ok (.iload_n 2, 1) := by decide +kernel
theorem dS_root_63 : decode cS_root 63 = .ok (.invokevirtual 134, 3) := by decide +kernel
theorem dS_root_66 : decode cS_root 66 = .ok (.iload_n 3, 1) := by decide +kernel
theorem dS_root_67 : decode cS_root 67 = .ok (.invokevirtual 72, 3) := by decide +kernel
theorem dS_root_70 : decode cS_root 70 = .ok (.return_, 1) := by decide +kernel
abbrev cS_common : ByteArray := prog_1_method_12_code
abbrev yS_common : MethodName := ⟨"WholeDesk", "common", "(III)V"⟩
theorem qS_common : yS_common.cls ≠ "java/lang/invoke/MethodHandle" ∧ yS_common.cls ≠ "java/lang/invoke/VarHandle" ∧ (parseMethodDescriptor yS_common.desc).map (fun d => d.parameters.length) = some 3 := by decide +kernel
theorem dS_common_0 : decode cS_common 0 = .ok (.iload_n 1, 1) := by decide +kernel
theorem dS_common_1 : decode cS_common 1 = .ok (.invokestatic 52, 3) := by decide +kernel
theorem dS_common_4 : decode cS_common 4 = .ok (.iload_n 2, 1) := by decide +kernel
theorem dS_common_5 : decode cS_common 5 = .ok (.invokestatic 52, 3) := by decide +kernel
theorem dS_common_8 : decode cS_common 8 = .ok (.iload_n 3, 1) := by decide +kernel
theorem dS_common_9 : decode cS_common 9 = .ok (.invokestatic 52, 3) := by decide +kernel
theorem dS_common_12 : decode cS_common 12 = .ok (.aload_n 0, 1) := by decide +kernel
theorem dS_common_13 : decode cS_common 13 = .ok (.getfield 11, 3) := by decide +kernel
theorem dS_common_16 : decode cS_common 16 = .ok (.iload_n 3, 1) := by decide +kernel
theorem dS_common_17 : decode cS_common 17 = .ok (.aaload, 1) := by decide +kernel
theorem dS_common_18 : decode cS_common 18 = .ok (.aload_n 0, 1) := by decide +kernel
theorem dS_common_19 : decode cS_common 19 = .ok (.getfield 19, 3) := by decide +kernel
theorem dS_common_22 : decode cS_common 22 = .ok (.aload_n 0, 1) := by decide +kernel
theorem dS_common_23 : decode cS_common 23 = .ok (.getfield 11, 3) := by decide +kernel
theorem dS_common_26 : decode cS_common 26 = .ok (.iload_n 1, 1) := by decide +kernel
theorem dS_common_27 : decode cS_common 27 = .ok (.aaload, 1) := by decide +kernel
theorem dS_common_28 : decode cS_common 28 = .ok (.aload_n 0, 1) := by decide +kernel
theorem dS_common_29 : decode cS_common 29 = .ok (.getfield 11, 3) := by decide +kernel
theorem dS_common_32 : decode cS_common 32 = .ok (.iload_n 2, 1) := by decide +kernel
theorem dS_common_33 : decode cS_common 33 = .ok (.aaload, 1) := by decide +kernel
theorem dS_common_34 : decode cS_common 34 = .ok (.invokevirtual 137, 3) := by decide +kernel
theorem dS_common_37 : decode cS_common 37 = .ok (.invokevirtual 140, 3) := by decide +kernel
theorem dS_common_40 : decode cS_common 40 = .ok (.return_, 1) := by decide +kernel
abbrev cS_inverse : ByteArray := prog_1_method_13_code
abbrev yS_inverse : MethodName := ⟨"WholeDesk", "inverse", "(III)V"⟩
theorem qS_inverse : yS_inverse.cls ≠ "java/lang/invoke/MethodHandle" ∧ yS_inverse.cls ≠ "java/lang/invoke/VarHandle" ∧ (parseMethodDescriptor yS_inverse.desc).map (fun d => d.parameters.length) = some 3 := by decide +kernel
theorem dS_inverse_0 : decode cS_inverse 0 = .ok (.iload_n 1, 1) := by decide +kernel
theorem dS_inverse_1 : decode cS_inverse 1 = .ok (.invokestatic 52, 3) := by decide +kernel
theorem dS_inverse_4 : decode cS_inverse 4 = .ok (.iload_n 2, 1) := by decide +kernel
theorem dS_inverse_5 : decode cS_inverse 5 = .ok (.invokestatic 52, 3) := by decide +kernel
theorem dS_inverse_8 : decode cS_inverse 8 = .ok (.iload_n 3, 1) := by decide +kernel
theorem dS_inverse_9 : decode cS_inverse 9 = .ok (.invokestatic 52, 3) := by decide +kernel
theorem dS_inverse_12 : decode cS_inverse 12 = .ok (.aload_n 0, 1) := by decide +kernel
theorem dS_inverse_13 : decode cS_inverse 13 = .ok (.getfield 11, 3) := by decide +kernel
theorem dS_inverse_16 : decode cS_inverse 16 = .ok (.iload_n 2, 1) := by decide +kernel
theorem dS_inverse_17 : decode cS_inverse 17 = .ok (.aaload, 1) := by decide +kernel
theorem dS_inverse_18 : decode cS_inverse 18 = .ok (.invokestatic 105, 3) := by decide +kernel
theorem dS_inverse_21 : decode cS_inverse 21 = .ok (.aload_n 0, 1) := by decide +kernel
theorem dS_inverse_22 : decode cS_inverse 22 = .ok (.aload_n 0, 1) := by decide +kernel
theorem dS_inverse_23 : decode cS_inverse 23 = .ok (.getfield 19, 3) := by decide +kernel
theorem dS_inverse_26 : decode cS_inverse 26 = .ok (.aload_n 0, 1) := by decide +kernel
theorem dS_inverse_27 : decode cS_inverse 27 = .ok (.getfield 11, 3) := by decide +kernel
theorem dS_inverse_30 : decode cS_inverse 30 = .ok (.iload_n 1, 1) := by decide +kernel
theorem dS_inverse_31 : decode cS_inverse 31 = .ok (.aaload, 1) := by decide +kernel
theorem dS_inverse_32 : decode cS_inverse 32 = .ok (.aload_n 0, 1) := by decide +kernel
theorem dS_inverse_33 : decode cS_inverse 33 = .ok (.getfield 11, 3) := by decide +kernel
theorem dS_inverse_36 : decode cS_inverse 36 = .ok (.iload_n 2, 1) := by decide +kernel
theorem dS_inverse_37 : decode cS_inverse 37 = .ok (.aaload, 1) := by decide +kernel
theorem dS_inverse_38 : decode cS_inverse 38 = .ok (.invokevirtual 143, 3) := by decide +kernel
theorem dS_inverse_41 : decode cS_inverse 41 = .ok (.iload_n 3, 1) := by decide +kernel
theorem dS_inverse_42 : decode cS_inverse 42 = .ok (.invokevirtual 72, 3) := by decide +kernel
theorem dS_inverse_45 : decode cS_inverse 45 = .ok (.return_, 1) := by decide +kernel
abbrev cS_powerModulo : ByteArray := prog_1_method_14_code
abbrev yS_powerModulo : MethodName := ⟨"WholeDesk", "powerModulo", "(IIII)V"⟩
theorem qS_powerModulo : yS_powerModulo.cls ≠ "java/lang/invoke/MethodHandle" ∧ yS_powerModulo.cls ≠ "java/lang/invoke/VarHandle" ∧ (parseMethodDescriptor yS_powerModulo.desc).map (fun d => d.parameters.length) = some 4 := by decide +kernel
theorem dS_powerModulo_0 : decode cS_powerModulo 0 = .ok (.iload_n 1, 1) := by decide +kernel
theorem dS_powerModulo_1 : decode cS_powerModulo 1 = .ok (.invokestatic 52, 3) := by decide +kernel
theorem dS_powerModulo_4 : decode cS_powerModulo 4 = .ok (.iload_n 2, 1) := by decide +kernel
theorem dS_powerModulo_5 : decode cS_powerModulo 5 = .ok (.invokestatic 52, 3) := by decide +kernel
theorem dS_powerModulo_8 : decode cS_powerModulo 8 = .ok (.iload_n 3, 1) := by decide +kernel
theorem dS_powerModulo_9 : decode cS_powerModulo 9 = .ok (.invokestatic 52, 3) := by decide +kernel
theorem dS_powerModulo_12 : decode cS_powerModulo 12 = .ok (.iload 4, 2) := by decide +kernel
theorem dS_powerModulo_14 : decode cS_powerModulo 14 = .ok (.invokestatic 52, 3) := by decide +kernel
theorem dS_powerModulo_17 : decode cS_powerModulo 17 = .ok (.aload_n 0, 1) := by decide +kernel
theorem dS_powerModulo_18 : decode cS_powerModulo 18 = .ok (.getfield 11, 3) := by decide +kernel
theorem dS_powerModulo_21 : decode cS_powerModulo 21 = .ok (.iload_n 3, 1) := by decide +kernel
theorem dS_powerModulo_22 : decode cS_powerModulo 22 = .ok (.aaload, 1) := by decide +kernel
theorem dS_powerModulo_23 : decode cS_powerModulo 23 = .ok (.invokestatic 105, 3) := by decide +kernel
theorem dS_powerModulo_26 : decode cS_powerModulo 26 = .ok (.aload_n 0, 1) := by decide +kernel
theorem dS_powerModulo_27 : decode cS_powerModulo 27 = .ok (.aload_n 0, 1) := by decide +kernel
theorem dS_powerModulo_28 : decode cS_powerModulo 28 = .ok (.getfield 19, 3) := by decide +kernel
theorem dS_powerModulo_31 : decode cS_powerModulo 31 = .ok (.aload_n 0, 1) := by decide +kernel
theorem dS_powerModulo_32 : decode cS_powerModulo 32 = .ok (.getfield 11, 3) := by decide +kernel
theorem dS_powerModulo_35 : decode cS_powerModulo 35 = .ok (.iload_n 1, 1) := by decide +kernel
theorem dS_powerModulo_36 : decode cS_powerModulo 36 = .ok (.aaload, 1) := by decide +kernel
theorem dS_powerModulo_37 : decode cS_powerModulo 37 = .ok (.aload_n 0, 1) := by decide +kernel
theorem dS_powerModulo_38 : decode cS_powerModulo 38 = .ok (.getfield 11, 3) := by decide +kernel
theorem dS_powerModulo_41 : decode cS_powerModulo 41 = .ok (.iload_n 2, 1) := by decide +kernel
theorem dS_powerModulo_42 : decode cS_powerModulo 42 = .ok (.aaload, 1) := by decide +kernel
theorem dS_powerModulo_43 : decode cS_powerModulo 43 = .ok (.aload_n 0, 1) := by decide +kernel
theorem dS_powerModulo_44 : decode cS_powerModulo 44 = .ok (.getfield 11, 3) := by decide +kernel
theorem dS_powerModulo_47 : decode cS_powerModulo 47 = .ok (.iload_n 3, 1) := by decide +kernel
theorem dS_powerModulo_48 : decode cS_powerModulo 48 = .ok (.aaload, 1) := by decide +kernel
theorem dS_powerModulo_49 : decode cS_powerModulo 49 = .ok (.invokevirtual 146, 3) := by decide +kernel
theorem dS_powerModulo_52 : decode cS_powerModulo 52 = .ok (.iload 4, 2) := by decide +kernel
theorem dS_powerModulo_54 : decode cS_powerModulo 54 = .ok (.invokevirtual 72, 3) := by decide +kernel
theorem dS_powerModulo_57 : decode cS_powerModulo 57 = .ok (.return_, 1) := by decide +kernel
abbrev cS_combine : ByteArray := prog_1_method_15_code
abbrev yS_combine : MethodName := ⟨"WholeDesk", "combine", "(IIII)V"⟩
theorem qS_combine : yS_combine.cls ≠ "java/lang/invoke/MethodHandle" ∧ yS_combine.cls ≠ "java/lang/invoke/VarHandle" ∧ (parseMethodDescriptor yS_combine.desc).map (fun d => d.parameters.length) = some 4 := by decide +kernel
theorem dS_combine_0 : decode cS_combine 0 = .ok (.iload_n 1, 1) := by decide +kernel
theorem dS_combine_1 : decode cS_combine 1 = .ok (.invokestatic 52, 3) := by decide +kernel
theorem dS_combine_4 : decode cS_combine 4 = .ok (.iload_n 2, 1) := by decide +kernel
theorem dS_combine_5 : decode cS_combine 5 = .ok (.invokestatic 52, 3) := by decide +kernel
theorem dS_combine_8 : decode cS_combine 8 = .ok (.iload_n 3, 1) := by decide +kernel
theorem dS_combine_9 : decode cS_combine 9 = .ok (.invokestatic 52, 3) := by decide +kernel
theorem dS_combine_12 : decode cS_combine 12 = .ok (.iload 4, 2) := by decide +kernel
theorem dS_combine_14 : decode cS_combine 14 = .ok (.ifCond .lt 9, 3) := by decide +kernel
theorem dS_combine_17 : decode cS_combine 17 = .ok (.iload 4, 2) := by decide +kernel
theorem dS_combine_19 : decode cS_combine 19 = .ok (.iconst 3, 1) := by decide +kernel
theorem dS_combine_20 : decode cS_combine 20 = .ok (.if_icmp .le 13, 3) := by decide +kernel
theorem dS_combine_23 : decode cS_combine 23 = .ok (.new 37, 3) := by decide +kernel
theorem dS_combine_26 : decode cS_combine 26 = .ok (.dup, 1) := by decide +kernel
theorem dS_combine_27 : decode cS_combine 27 = .ok (.ldc 150, 2) := by decide +kernel
theorem dS_combine_29 : decode cS_combine 29 = .ok (.invokespecial 41, 3) := by decide +kernel
theorem dS_combine_32 : decode cS_combine 32 = .ok (.athrow, 1) := by decide +kernel
theorem dS_combine_33 : decode cS_combine 33 = .ok (.aload_n 0, 1) := by decide +kernel
theorem dS_combine_34 : decode cS_combine 34 = .ok (.aload_n 0, 1) := by decide +kernel
theorem dS_combine_35 : decode cS_combine 35 = .ok (.getfield 19, 3) := by decide +kernel
theorem dS_combine_38 : decode cS_combine 38 = .ok (.aload_n 0, 1) := by decide +kernel
theorem dS_combine_39 : decode cS_combine 39 = .ok (.getfield 11, 3) := by decide +kernel
theorem dS_combine_42 : decode cS_combine 42 = .ok (.iload_n 1, 1) := by decide +kernel
theorem dS_combine_43 : decode cS_combine 43 = .ok (.aaload, 1) := by decide +kernel
theorem dS_combine_44 : decode cS_combine 44 = .ok (.aload_n 0, 1) := by decide +kernel
theorem dS_combine_45 : decode cS_combine 45 = .ok (.getfield 11, 3) := by decide +kernel
theorem dS_combine_48 : decode cS_combine 48 = .ok (.iload_n 2, 1) := by decide +kernel
theorem dS_combine_49 : decode cS_combine 49 = .ok (.aaload, 1) := by decide +kernel
theorem dS_combine_50 : decode cS_combine 50 = .ok (.iload 4, 2) := by decide +kernel
theorem dS_combine_52 : decode cS_combine 52 = .ok (.invokevirtual 152, 3) := by decide +kernel
theorem dS_combine_55 : decode cS_combine 55 = .ok (.iload_n 3, 1) := by decide +kernel
theorem dS_combine_56 : decode cS_combine 56 = .ok (.invokevirtual 72, 3) := by decide +kernel
theorem dS_combine_59 : decode cS_combine 59 = .ok (.return_, 1) := by decide +kernel
abbrev cS_shift : ByteArray := prog_1_method_16_code
abbrev yS_shift : MethodName := ⟨"WholeDesk", "shift", "(III)V"⟩
theorem qS_shift : yS_shift.cls ≠ "java/lang/invoke/MethodHandle" ∧ yS_shift.cls ≠ "java/lang/invoke/VarHandle" ∧ (parseMethodDescriptor yS_shift.desc).map (fun d => d.parameters.length) = some 3 := by decide +kernel
theorem dS_shift_0 : decode cS_shift 0 = .ok (.iload_n 1, 1) := by decide +kernel
theorem dS_shift_1 : decode cS_shift 1 = .ok (.invokestatic 52, 3) := by decide +kernel
theorem dS_shift_4 : decode cS_shift 4 = .ok (.iload_n 3, 1) := by decide +kernel
theorem dS_shift_5 : decode cS_shift 5 = .ok (.invokestatic 52, 3) := by decide +kernel
theorem dS_shift_8 : decode cS_shift 8 = .ok (.aload_n 0, 1) := by decide +kernel
theorem dS_shift_9 : decode cS_shift 9 = .ok (.getfield 11, 3) := by decide +kernel
theorem dS_shift_12 : decode cS_shift 12 = .ok (.iload_n 1, 1) := by decide +kernel
theorem dS_shift_13 : decode cS_shift 13 = .ok (.aaload, 1) := by decide +kernel
theorem dS_shift_14 : decode cS_shift 14 = .ok (.astore 4, 2) := by decide +kernel
theorem dS_shift_16 : decode cS_shift 16 = .ok (.iload_n 2, 1) := by decide +kernel
theorem dS_shift_17 : decode cS_shift 17 = .ok (.ifCond .le 37, 3) := by decide +kernel
theorem dS_shift_20 : decode cS_shift 20 = .ok (.aload 4, 2) := by decide +kernel
theorem dS_shift_22 : decode cS_shift 22 = .ok (.getfield 88, 3) := by decide +kernel
theorem dS_shift_25 : decode cS_shift 25 = .ok (.ifCond .le 29, 3) := by decide +kernel
theorem dS_shift_28 : decode cS_shift 28 = .ok (.aload 4, 2) := by decide +kernel
theorem dS_shift_30 : decode cS_shift 30 = .ok (.invokevirtual 114, 3) := by decide +kernel
theorem dS_shift_33 : decode cS_shift 33 = .ok (.i2l, 1) := by decide +kernel
theorem dS_shift_34 : decode cS_shift 34 = .ok (.iload_n 2, 1) := by decide +kernel
theorem dS_shift_35 : decode cS_shift 35 = .ok (.i2l, 1) := by decide +kernel
theorem dS_shift_36 : decode cS_shift 36 = .ok (.ladd, 1) := by decide +kernel
theorem dS_shift_37 : decode cS_shift 37 = .ok (.ldc2_w 118, 3) := by decide +kernel
theorem dS_shift_40 : decode cS_shift 40 = .ok (.lcmp, 1) := by decide +kernel
theorem dS_shift_41 : decode cS_shift 41 = .ok (.ifCond .le 13, 3) := by decide +kernel
theorem dS_shift_44 : decode cS_shift 44 = .ok (.new 89, 3) := by decide +kernel
theorem dS_shift_47 : decode cS_shift 47 = .ok (.dup, 1) := by decide +kernel
theorem dS_shift_48 : decode cS_shift 48 = .ok (.ldc 156, 2) := by decide +kernel
theorem dS_shift_50 : decode cS_shift 50 = .ok (.invokespecial 93, 3) := by decide +kernel
theorem dS_shift_53 : decode cS_shift 53 = .ok (.athrow, 1) := by decide +kernel
theorem dS_shift_54 : decode cS_shift 54 = .ok (.aload_n 0, 1) := by decide +kernel
theorem dS_shift_55 : decode cS_shift 55 = .ok (.iload_n 2, 1) := by decide +kernel
theorem dS_shift_56 : decode cS_shift 56 = .ok (.ifCond .le 16, 3) := by decide +kernel
theorem dS_shift_59 : decode cS_shift 59 = .ok (.aload_n 0, 1) := by decide +kernel
theorem dS_shift_60 : decode cS_shift 60 = .ok (.getfield 19, 3) := by decide +kernel
theorem dS_shift_63 : decode cS_shift 63 = .ok (.aload 4, 2) := by decide +kernel
theorem dS_shift_65 : decode cS_shift 65 = .ok (.iload_n 2, 1) := by decide +kernel
theorem dS_shift_66 : decode cS_shift 66 = .ok (.invokevirtual 158, 3) := by decide +kernel
theorem dS_shift_69 : decode cS_shift 69 = .ok (.goto 15, 3) := by decide +kernel
theorem dS_shift_72 : decode cS_shift 72 = .ok (.aload_n 0, 1) := by decide +kernel
theorem dS_shift_73 : decode cS_shift 73 = .ok (.getfield 19, 3) := by decide +kernel
theorem dS_shift_76 : decode cS_shift 76 = .ok (.aload 4, 2) := by decide +kernel
theorem dS_shift_78 : decode cS_shift 78 = .ok (.iload_n 2, 1) := by decide +kernel
theorem dS_shift_79 : decode cS_shift 79 = .ok (.i2l, 1) := by decide +kernel
theorem dS_shift_80 : decode cS_shift 80 = .ok (.lneg, 1) := by decide +kernel
theorem dS_shift_81 : decode cS_shift 81 = .ok (.invokevirtual 161, 3) := by decide +kernel
theorem dS_shift_84 : decode cS_shift 84 = .ok (.iload_n 3, 1) := by decide +kernel
theorem dS_shift_85 : decode cS_shift 85 = .ok (.invokevirtual 72, 3) := by decide +kernel
theorem dS_shift_88 : decode cS_shift 88 = .ok (.return_, 1) := by decide +kernel
abbrev cS_bit : ByteArray := prog_1_method_17_code
abbrev yS_bit : MethodName := ⟨"WholeDesk", "bit", "(II)I"⟩
theorem qS_bit : yS_bit.cls ≠ "java/lang/invoke/MethodHandle" ∧ yS_bit.cls ≠ "java/lang/invoke/VarHandle" ∧ (parseMethodDescriptor yS_bit.desc).map (fun d => d.parameters.length) = some 2 := by decide +kernel
theorem dS_bit_0 : decode cS_bit 0 = .ok (.iload_n 1, 1) := by decide +kernel
theorem dS_bit_1 : decode cS_bit 1 = .ok (.invokestatic 52, 3) := by decide +kernel
theorem dS_bit_4 : decode cS_bit 4 = .ok (.iload_n 2, 1) := by decide +kernel
theorem dS_bit_5 : decode cS_bit 5 = .ok (.ifCond .ge 13, 3) := by decide +kernel
theorem dS_bit_8 : decode cS_bit 8 = .ok (.new 37, 3) := by decide +kernel
theorem dS_bit_11 : decode cS_bit 11 = .ok (.dup, 1) := by decide +kernel
theorem dS_bit_12 : decode cS_bit 12 = .ok (.ldc 165, 2) := by decide +kernel
theorem dS_bit_14 : decode cS_bit 14 = .ok (.invokespecial 41, 3) := by decide +kernel
theorem dS_bit_17 : decode cS_bit 17 = .ok (.athrow, 1) := by decide +kernel
theorem dS_bit_18 : decode cS_bit 18 = .ok (.aload_n 0, 1) := by decide +kernel
theorem dS_bit_19 : decode cS_bit 19 = .ok (.getfield 11, 3) := by decide +kernel
theorem dS_bit_22 : decode cS_bit 22 = .ok (.iload_n 1, 1) := by decide +kernel
theorem dS_bit_23 : decode cS_bit 23 = .ok (.aaload, 1) := by decide +kernel
theorem dS_bit_24 : decode cS_bit 24 = .ok (.iload_n 2, 1) := by decide +kernel
theorem dS_bit_25 : decode cS_bit 25 = .ok (.invokevirtual 167, 3) := by decide +kernel
theorem dS_bit_28 : decode cS_bit 28 = .ok (.ireturn, 1) := by decide +kernel
abbrev cS_compare : ByteArray := prog_1_method_18_code
abbrev yS_compare : MethodName := ⟨"WholeDesk", "compare", "(II)I"⟩
theorem qS_compare : yS_compare.cls ≠ "java/lang/invoke/MethodHandle" ∧ yS_compare.cls ≠ "java/lang/invoke/VarHandle" ∧ (parseMethodDescriptor yS_compare.desc).map (fun d => d.parameters.length) = some 2 := by decide +kernel
theorem dS_compare_0 : decode cS_compare 0 = .ok (.iload_n 1, 1) := by decide +kernel
theorem dS_compare_1 : decode cS_compare 1 = .ok (.invokestatic 52, 3) := by decide +kernel
theorem dS_compare_4 : decode cS_compare 4 = .ok (.iload_n 2, 1) := by decide +kernel
theorem dS_compare_5 : decode cS_compare 5 = .ok (.invokestatic 52, 3) := by decide +kernel
theorem dS_compare_8 : decode cS_compare 8 = .ok (.aload_n 0, 1) := by decide +kernel
theorem dS_compare_9 : decode cS_compare 9 = .ok (.getfield 11, 3) := by decide +kernel
theorem dS_compare_12 : decode cS_compare 12 = .ok (.iload_n 1, 1) := by decide +kernel
theorem dS_compare_13 : decode cS_compare 13 = .ok (.aaload, 1) := by decide +kernel
theorem dS_compare_14 : decode cS_compare 14 = .ok (.aload_n 0, 1) := by decide +kernel
theorem dS_compare_15 : decode cS_compare 15 = .ok (.getfield 11, 3) := by decide +kernel
theorem dS_compare_18 : decode cS_compare 18 = .ok (.iload_n 2, 1) := by decide +kernel
theorem dS_compare_19 : decode cS_compare 19 = .ok (.aaload, 1) := by decide +kernel
theorem dS_compare_20 : decode cS_compare 20 = .ok (.invokevirtual 171, 3) := by decide +kernel
theorem dS_compare_23 : decode cS_compare 23 = .ok (.ireturn, 1) := by decide +kernel
abbrev cS_told : ByteArray := prog_1_method_19_code
abbrev yS_told : MethodName := ⟨"WholeDesk", "told", "(II)J"⟩
theorem qS_told : yS_told.cls ≠ "java/lang/invoke/MethodHandle" ∧ yS_told.cls ≠ "java/lang/invoke/VarHandle" ∧ (parseMethodDescriptor yS_told.desc).map (fun d => d.parameters.length) = some 2 := by decide +kernel
theorem dS_told_0 : decode cS_told 0 = .ok (.iload_n 1, 1) := by decide +kernel
theorem dS_told_1 : decode cS_told 1 = .ok (.invokestatic 52, 3) := by decide +kernel
theorem dS_told_4 : decode cS_told 4 = .ok (.aload_n 0, 1) := by decide +kernel
theorem dS_told_5 : decode cS_told 5 = .ok (.getfield 11, 3) := by decide +kernel
theorem dS_told_8 : decode cS_told 8 = .ok (.iload_n 1, 1) := by decide +kernel
theorem dS_told_9 : decode cS_told 9 = .ok (.aaload, 1) := by decide +kernel
theorem dS_told_10 : decode cS_told 10 = .ok (.astore_n 3, 1) := by decide +kernel
theorem dS_told_11 : decode cS_told 11 = .ok (.iload_n 2, 1) := by decide +kernel
theorem dS_told_12 : decode cS_told 12 = .ok (.tableswitch 65 0 4 #[36, 41, 47, 53, 59], 36) := by decide +kernel
theorem dS_told_48 : decode cS_told 48 = .ok (.aload_n 3, 1) := by decide +kernel
theorem dS_told_49 : decode cS_told 49 = .ok (.invokevirtual 175, 3) := by decide +kernel
theorem dS_told_52 : decode cS_told 52 = .ok (.lreturn, 1) := by decide +kernel
theorem dS_told_53 : decode cS_told 53 = .ok (.aload_n 3, 1) := by decide +kernel
theorem dS_told_54 : decode cS_told 54 = .ok (.invokevirtual 179, 3) := by decide +kernel
theorem dS_told_57 : decode cS_told 57 = .ok (.i2l, 1) := by decide +kernel
theorem dS_told_58 : decode cS_told 58 = .ok (.lreturn, 1) := by decide +kernel
theorem dS_told_59 : decode cS_told 59 = .ok (.aload_n 3, 1) := by decide +kernel
theorem dS_told_60 : decode cS_told 60 = .ok (.invokevirtual 182, 3) := by decide +kernel
theorem dS_told_63 : decode cS_told 63 = .ok (.i2l, 1) := by decide +kernel
theorem dS_told_64 : decode cS_told 64 = .ok (.lreturn, 1) := by decide +kernel
theorem dS_told_65 : decode cS_told 65 = .ok (.aload_n 3, 1) := by decide +kernel
theorem dS_told_66 : decode cS_told 66 = .ok (.invokevirtual 185, 3) := by decide +kernel
theorem dS_told_69 : decode cS_told 69 = .ok (.i2l, 1) := by decide +kernel
theorem dS_told_70 : decode cS_told 70 = .ok (.lreturn, 1) := by decide +kernel
theorem dS_told_71 : decode cS_told 71 = .ok (.aload_n 3, 1) := by decide +kernel
theorem dS_told_72 : decode cS_told 72 = .ok (.invokevirtual 188, 3) := by decide +kernel
theorem dS_told_75 : decode cS_told 75 = .ok (.i2l, 1) := by decide +kernel
theorem dS_told_76 : decode cS_told 76 = .ok (.lreturn, 1) := by decide +kernel
theorem dS_told_77 : decode cS_told 77 = .ok (.new 37, 3) := by decide +kernel
theorem dS_told_80 : decode cS_told 80 = .ok (.dup, 1) := by decide +kernel
theorem dS_told_81 : decode cS_told 81 = .ok (.ldc 191, 2) := by decide +kernel
theorem dS_told_83 : decode cS_told 83 = .ok (.invokespecial 41, 3) := by decide +kernel
theorem dS_told_86 : decode cS_told 86 = .ok (.athrow, 1) := by decide +kernel
abbrev cS_written : ByteArray := prog_1_method_20_code
abbrev yS_written : MethodName := ⟨"WholeDesk", "written", "(II)I"⟩
theorem qS_written : yS_written.cls ≠ "java/lang/invoke/MethodHandle" ∧ yS_written.cls ≠ "java/lang/invoke/VarHandle" ∧ (parseMethodDescriptor yS_written.desc).map (fun d => d.parameters.length) = some 2 := by decide +kernel
theorem dS_written_0 : decode cS_written 0 = .ok (.iload_n 1, 1) := by decide +kernel
theorem dS_written_1 : decode cS_written 1 = .ok (.invokestatic 52, 3) := by decide +kernel
theorem dS_written_4 : decode cS_written 4 = .ok (.iload_n 2, 1) := by decide +kernel
theorem dS_written_5 : decode cS_written 5 = .ok (.invokestatic 56, 3) := by decide +kernel
theorem dS_written_8 : decode cS_written 8 = .ok (.aload_n 0, 1) := by decide +kernel
theorem dS_written_9 : decode cS_written 9 = .ok (.getfield 33, 3) := by decide +kernel
theorem dS_written_12 : decode cS_written 12 = .ok (.aload_n 0, 1) := by decide +kernel
theorem dS_written_13 : decode cS_written 13 = .ok (.getfield 11, 3) := by decide +kernel
theorem dS_written_16 : decode cS_written 16 = .ok (.iload_n 1, 1) := by decide +kernel
theorem dS_written_17 : decode cS_written 17 = .ok (.aaload, 1) := by decide +kernel
theorem dS_written_18 : decode cS_written 18 = .ok (.iload_n 2, 1) := by decide +kernel
theorem dS_written_19 : decode cS_written 19 = .ok (.invokevirtual 193, 3) := by decide +kernel
theorem dS_written_22 : decode cS_written 22 = .ok (.ireturn, 1) := by decide +kernel
abbrev cS_text : ByteArray := prog_1_method_21_code
abbrev yS_text : MethodName := ⟨"WholeDesk", "text", "(I)J"⟩
theorem qS_text : yS_text.cls ≠ "java/lang/invoke/MethodHandle" ∧ yS_text.cls ≠ "java/lang/invoke/VarHandle" ∧ (parseMethodDescriptor yS_text.desc).map (fun d => d.parameters.length) = some 1 := by decide +kernel
theorem dS_text_0 : decode cS_text 0 = .ok (.aload_n 0, 1) := by decide +kernel
theorem dS_text_1 : decode cS_text 1 = .ok (.getfield 33, 3) := by decide +kernel
theorem dS_text_4 : decode cS_text 4 = .ok (.iload_n 1, 1) := by decide +kernel
theorem dS_text_5 : decode cS_text 5 = .ok (.invokevirtual 197, 3) := by decide +kernel
theorem dS_text_8 : decode cS_text 8 = .ok (.lreturn, 1) := by decide +kernel
abbrev cS_testRegister : ByteArray := prog_1_method_22_code
abbrev yS_testRegister : MethodName := ⟨"WholeDesk", "testRegister", "(I)V"⟩
theorem qS_testRegister : yS_testRegister.cls ≠ "java/lang/invoke/MethodHandle" ∧ yS_testRegister.cls ≠ "java/lang/invoke/VarHandle" ∧ (parseMethodDescriptor yS_testRegister.desc).map (fun d => d.parameters.length) = some 1 := by decide +kernel
theorem dS_testRegister_0 : decode cS_testRegister 0 = .ok (.iload_n 0, 1) := by decide +kernel
theorem dS_testRegister_1 : decode cS_testRegister 1 = .ok (.ifCond .lt 9, 3) := by decide +kernel
theorem dS_testRegister_4 : decode cS_testRegister 4 = .ok (.iload_n 0, 1) := by decide +kernel
theorem dS_testRegister_5 : decode cS_testRegister 5 = .ok (.bipush 10, 2) := by decide +kernel
theorem dS_testRegister_7 : decode cS_testRegister 7 = .ok (.if_icmp .lt 13, 3) := by decide +kernel
theorem dS_testRegister_10 : decode cS_testRegister 10 = .ok (.new 37, 3) := by decide +kernel
theorem dS_testRegister_13 : decode cS_testRegister 13 = .ok (.dup, 1) := by decide +kernel
theorem dS_testRegister_14 : decode cS_testRegister 14 = .ok (.ldc 201, 2) := by decide +kernel
theorem dS_testRegister_16 : decode cS_testRegister 16 = .ok (.invokespecial 41, 3) := by decide +kernel
theorem dS_testRegister_19 : decode cS_testRegister 19 = .ok (.athrow, 1) := by decide +kernel
theorem dS_testRegister_20 : decode cS_testRegister 20 = .ok (.return_, 1) := by decide +kernel
abbrev cS_testBase : ByteArray := prog_1_method_23_code
abbrev yS_testBase : MethodName := ⟨"WholeDesk", "testBase", "(I)V"⟩
theorem qS_testBase : yS_testBase.cls ≠ "java/lang/invoke/MethodHandle" ∧ yS_testBase.cls ≠ "java/lang/invoke/VarHandle" ∧ (parseMethodDescriptor yS_testBase.desc).map (fun d => d.parameters.length) = some 1 := by decide +kernel
theorem dS_testBase_0 : decode cS_testBase 0 = .ok (.iload_n 0, 1) := by decide +kernel
theorem dS_testBase_1 : decode cS_testBase 1 = .ok (.iconst 2, 1) := by decide +kernel
theorem dS_testBase_2 : decode cS_testBase 2 = .ok (.if_icmp .lt 9, 3) := by decide +kernel
theorem dS_testBase_5 : decode cS_testBase 5 = .ok (.iload_n 0, 1) := by decide +kernel
theorem dS_testBase_6 : decode cS_testBase 6 = .ok (.bipush 36, 2) := by decide +kernel
theorem dS_testBase_8 : decode cS_testBase 8 = .ok (.if_icmp .le 13, 3) := by decide +kernel
theorem dS_testBase_11 : decode cS_testBase 11 = .ok (.new 37, 3) := by decide +kernel
theorem dS_testBase_14 : decode cS_testBase 14 = .ok (.dup, 1) := by decide +kernel
theorem dS_testBase_15 : decode cS_testBase 15 = .ok (.ldc 203, 2) := by decide +kernel
theorem dS_testBase_17 : decode cS_testBase 17 = .ok (.invokespecial 41, 3) := by decide +kernel
theorem dS_testBase_20 : decode cS_testBase 20 = .ok (.athrow, 1) := by decide +kernel
theorem dS_testBase_21 : decode cS_testBase 21 = .ok (.return_, 1) := by decide +kernel
abbrev cS_testModulus : ByteArray := prog_1_method_24_code
abbrev yS_testModulus : MethodName := ⟨"WholeDesk", "testModulus", "(LWholeDesk$Whole;)V"⟩
theorem qS_testModulus : yS_testModulus.cls ≠ "java/lang/invoke/MethodHandle" ∧ yS_testModulus.cls ≠ "java/lang/invoke/VarHandle" ∧ (parseMethodDescriptor yS_testModulus.desc).map (fun d => d.parameters.length) = some 1 := by decide +kernel
theorem dS_testModulus_0 : decode cS_testModulus 0 = .ok (.aload_n 0, 1) := by decide +kernel
theorem dS_testModulus_1 : decode cS_testModulus 1 = .ok (.invokevirtual 179, 3) := by decide +kernel
theorem dS_testModulus_4 : decode cS_testModulus 4 = .ok (.ifCond .gt 13, 3) := by decide +kernel
theorem dS_testModulus_7 : decode cS_testModulus 7 = .ok (.new 89, 3) := by decide +kernel
theorem dS_testModulus_10 : decode cS_testModulus 10 = .ok (.dup, 1) := by decide +kernel
theorem dS_testModulus_11 : decode cS_testModulus 11 = .ok (.ldc 205, 2) := by decide +kernel
theorem dS_testModulus_13 : decode cS_testModulus 13 = .ok (.invokespecial 93, 3) := by decide +kernel
theorem dS_testModulus_16 : decode cS_testModulus 16 = .ok (.athrow, 1) := by decide +kernel
theorem dS_testModulus_17 : decode cS_testModulus 17 = .ok (.return_, 1) := by decide +kernel
abbrev cS_keep : ByteArray := prog_1_method_25_code
abbrev yS_keep : MethodName := ⟨"WholeDesk", "keep", "(LWholeDesk$Whole;I)V"⟩
theorem qS_keep : yS_keep.cls ≠ "java/lang/invoke/MethodHandle" ∧ yS_keep.cls ≠ "java/lang/invoke/VarHandle" ∧ (parseMethodDescriptor yS_keep.desc).map (fun d => d.parameters.length) = some 2 := by decide +kernel
theorem dS_keep_0 : decode cS_keep 0 = .ok (.aload_n 1, 1) := by decide +kernel
theorem dS_keep_1 : decode cS_keep 1 = .ok (.invokevirtual 114, 3) := by decide +kernel
theorem dS_keep_4 : decode cS_keep 4 = .ok (.sipush 2048, 3) := by decide +kernel
theorem dS_keep_7 : decode cS_keep 7 = .ok (.if_icmp .le 13, 3) := by decide +kernel
theorem dS_keep_10 : decode cS_keep 10 = .ok (.new 89, 3) := by decide +kernel
theorem dS_keep_13 : decode cS_keep 13 = .ok (.dup, 1) := by decide +kernel
theorem dS_keep_14 : decode cS_keep 14 = .ok (.ldc 207, 2) := by decide +kernel
theorem dS_keep_16 : decode cS_keep 16 = .ok (.invokespecial 93, 3) := by decide +kernel
theorem dS_keep_19 : decode cS_keep 19 = .ok (.athrow, 1) := by decide +kernel
theorem dS_keep_20 : decode cS_keep 20 = .ok (.aload_n 0, 1) := by decide +kernel
theorem dS_keep_21 : decode cS_keep 21 = .ok (.getfield 11, 3) := by decide +kernel
theorem dS_keep_24 : decode cS_keep 24 = .ok (.iload_n 2, 1) := by decide +kernel
theorem dS_keep_25 : decode cS_keep 25 = .ok (.aaload, 1) := by decide +kernel
theorem dS_keep_26 : decode cS_keep 26 = .ok (.aload_n 1, 1) := by decide +kernel
theorem dS_keep_27 : decode cS_keep 27 = .ok (.invokevirtual 140, 3) := by decide +kernel
theorem dS_keep_30 : decode cS_keep 30 = .ok (.return_, 1) := by decide +kernel
