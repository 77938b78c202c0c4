abbrev cL_write : ByteArray := method_3_code
abbrev yL_write : MethodName := ⟨"WholeDeskLaw", "write", "(LWholeDesk;IJ[J)I"⟩
theorem qL_write : yL_write.cls ≠ "java/lang/invoke/MethodHandle" ∧ yL_write.cls ≠ "java/lang/invoke/VarHandle" ∧ (parseMethodDescriptor yL_write.desc).map (fun d => d.parameters.length) = some 4 := by decide +kernel
theorem dL_write_0 : decode cL_write 0 = .ok (.aload 4, 2) := by decide +kernel
theorem dL_write_2 : decode cL_write 2 = .ok (.iconst 0, 1) := by decide +kernel
theorem dL_write_3 : decode cL_write 3 = .ok (.aload_n 0, 1) := by decide +kernel
theorem dL_write_4 : decode cL_write 4 = .ok (.iload_n 1, 1) := by decide +kernel
theorem dL_write_5 : decode cL_write 5 = .ok (.lload_n 2, 1) := by decide +kernel
theorem dL_write_6 : decode cL_write 6 = .ok (.invokevirtual 7, 3) := by decide +kernel
theorem dL_write_9 : decode cL_write 9 = .ok (.i2l, 1) := by decide +kernel
theorem dL_write_10 : decode cL_write 10 = .ok (.lastore, 1) := by decide +kernel
theorem dL_write_11 : decode cL_write 11 = .ok (.goto 7, 3) := by decide +kernel
theorem dL_write_14 : decode cL_write 14 = .ok (.astore 5, 2) := by decide +kernel
theorem dL_write_16 : decode cL_write 16 = .ok (.iconst 1, 1) := by decide +kernel
theorem dL_write_17 : decode cL_write 17 = .ok (.ireturn, 1) := by decide +kernel
theorem dL_write_18 : decode cL_write 18 = .ok (.iconst 0, 1) := by decide +kernel
theorem dL_write_19 : decode cL_write 19 = .ok (.ireturn, 1) := by decide +kernel
abbrev cL_read : ByteArray := method_4_code
abbrev yL_read : MethodName := ⟨"WholeDeskLaw", "read", "(LWholeDesk;II)I"⟩
theorem qL_read : yL_read.cls ≠ "java/lang/invoke/MethodHandle" ∧ yL_read.cls ≠ "java/lang/invoke/VarHandle" ∧ (parseMethodDescriptor yL_read.desc).map (fun d => d.parameters.length) = some 3 := by decide +kernel
theorem dL_read_0 : decode cL_read 0 = .ok (.aload_n 0, 1) := by decide +kernel
theorem dL_read_1 : decode cL_read 1 = .ok (.iload_n 1, 1) := by decide +kernel
theorem dL_read_2 : decode cL_read 2 = .ok (.iload_n 2, 1) := by decide +kernel
theorem dL_read_3 : decode cL_read 3 = .ok (.invokevirtual 15, 3) := by decide +kernel
theorem dL_read_6 : decode cL_read 6 = .ok (.goto 12, 3) := by decide +kernel
theorem dL_read_9 : decode cL_read 9 = .ok (.astore_n 3, 1) := by decide +kernel
theorem dL_read_10 : decode cL_read 10 = .ok (.iconst 1, 1) := by decide +kernel
theorem dL_read_11 : decode cL_read 11 = .ok (.ireturn, 1) := by decide +kernel
theorem dL_read_12 : decode cL_read 12 = .ok (.astore_n 3, 1) := by decide +kernel
theorem dL_read_13 : decode cL_read 13 = .ok (.iconst 2, 1) := by decide +kernel
theorem dL_read_14 : decode cL_read 14 = .ok (.ireturn, 1) := by decide +kernel
theorem dL_read_15 : decode cL_read 15 = .ok (.astore_n 3, 1) := by decide +kernel
theorem dL_read_16 : decode cL_read 16 = .ok (.iconst 3, 1) := by decide +kernel
theorem dL_read_17 : decode cL_read 17 = .ok (.ireturn, 1) := by decide +kernel
theorem dL_read_18 : decode cL_read 18 = .ok (.iconst 0, 1) := by decide +kernel
theorem dL_read_19 : decode cL_read 19 = .ok (.ireturn, 1) := by decide +kernel
abbrev cL_put : ByteArray := method_5_code
abbrev yL_put : MethodName := ⟨"WholeDeskLaw", "put", "(LWholeDesk;IJ)I"⟩
theorem qL_put : yL_put.cls ≠ "java/lang/invoke/MethodHandle" ∧ yL_put.cls ≠ "java/lang/invoke/VarHandle" ∧ (parseMethodDescriptor yL_put.desc).map (fun d => d.parameters.length) = some 3 := by decide +kernel
theorem dL_put_0 : decode cL_put 0 = .ok (.aload_n 0, 1) := by decide +kernel
theorem dL_put_1 : decode cL_put 1 = .ok (.iload_n 1, 1) := by decide +kernel
theorem dL_put_2 : decode cL_put 2 = .ok (.lload_n 2, 1) := by decide +kernel
theorem dL_put_3 : decode cL_put 3 = .ok (.invokevirtual 23, 3) := by decide +kernel
theorem dL_put_6 : decode cL_put 6 = .ok (.goto 7, 3) := by decide +kernel
theorem dL_put_9 : decode cL_put 9 = .ok (.astore 4, 2) := by decide +kernel
theorem dL_put_11 : decode cL_put 11 = .ok (.iconst 1, 1) := by decide +kernel
theorem dL_put_12 : decode cL_put 12 = .ok (.ireturn, 1) := by decide +kernel
theorem dL_put_13 : decode cL_put 13 = .ok (.iconst 0, 1) := by decide +kernel
theorem dL_put_14 : decode cL_put 14 = .ok (.ireturn, 1) := by decide +kernel
abbrev cL_add : ByteArray := method_6_code
abbrev yL_add : MethodName := ⟨"WholeDeskLaw", "add", "(LWholeDesk;IIIZ)I"⟩
theorem qL_add : yL_add.cls ≠ "java/lang/invoke/MethodHandle" ∧ yL_add.cls ≠ "java/lang/invoke/VarHandle" ∧ (parseMethodDescriptor yL_add.desc).map (fun d => d.parameters.length) = some 5 := by decide +kernel
theorem dL_add_0 : decode cL_add 0 = .ok (.aload_n 0, 1) := by decide +kernel
theorem dL_add_1 : decode cL_add 1 = .ok (.iload_n 1, 1) := by decide +kernel
theorem dL_add_2 : decode cL_add 2 = .ok (.iload_n 2, 1) := by decide +kernel
theorem dL_add_3 : decode cL_add 3 = .ok (.iload_n 3, 1) := by decide +kernel
theorem dL_add_4 : decode cL_add 4 = .ok (.iload 4, 2) := by decide +kernel
theorem dL_add_6 : decode cL_add 6 = .ok (.invokevirtual 27, 3) := by decide +kernel
theorem dL_add_9 : decode cL_add 9 = .ok (.goto 11, 3) := by decide +kernel
theorem dL_add_12 : decode cL_add 12 = .ok (.astore 5, 2) := by decide +kernel
theorem dL_add_14 : decode cL_add 14 = .ok (.iconst 1, 1) := by decide +kernel
theorem dL_add_15 : decode cL_add 15 = .ok (.ireturn, 1) := by decide +kernel
theorem dL_add_16 : decode cL_add 16 = .ok (.astore 5, 2) := by decide +kernel
theorem dL_add_18 : decode cL_add 18 = .ok (.iconst 2, 1) := by decide +kernel
theorem dL_add_19 : decode cL_add 19 = .ok (.ireturn, 1) := by decide +kernel
theorem dL_add_20 : decode cL_add 20 = .ok (.iconst 0, 1) := by decide +kernel
theorem dL_add_21 : decode cL_add 21 = .ok (.ireturn, 1) := by decide +kernel
abbrev cL_multiply : ByteArray := method_7_code
abbrev yL_multiply : MethodName := ⟨"WholeDeskLaw", "multiply", "(LWholeDesk;III)I"⟩
theorem qL_multiply : yL_multiply.cls ≠ "java/lang/invoke/MethodHandle" ∧ yL_multiply.cls ≠ "java/lang/invoke/VarHandle" ∧ (parseMethodDescriptor yL_multiply.desc).map (fun d => d.parameters.length) = some 4 := by decide +kernel
theorem dL_multiply_0 : decode cL_multiply 0 = .ok (.aload_n 0, 1) := by decide +kernel
theorem dL_multiply_1 : decode cL_multiply 1 = .ok (.iload_n 1, 1) := by decide +kernel
theorem dL_multiply_2 : decode cL_multiply 2 = .ok (.iload_n 2, 1) := by decide +kernel
theorem dL_multiply_3 : decode cL_multiply 3 = .ok (.iload_n 3, 1) := by decide +kernel
theorem dL_multiply_4 : decode cL_multiply 4 = .ok (.invokevirtual 31, 3) := by decide +kernel
theorem dL_multiply_7 : decode cL_multiply 7 = .ok (.goto 11, 3) := by decide +kernel
theorem dL_multiply_10 : decode cL_multiply 10 = .ok (.astore 4, 2) := by decide +kernel
theorem dL_multiply_12 : decode cL_multiply 12 = .ok (.iconst 1, 1) := by decide +kernel
theorem dL_multiply_13 : decode cL_multiply 13 = .ok (.ireturn, 1) := by decide +kernel
theorem dL_multiply_14 : decode cL_multiply 14 = .ok (.astore 4, 2) := by decide +kernel
theorem dL_multiply_16 : decode cL_multiply 16 = .ok (.iconst 2, 1) := by decide +kernel
theorem dL_multiply_17 : decode cL_multiply 17 = .ok (.ireturn, 1) := by decide +kernel
theorem dL_multiply_18 : decode cL_multiply 18 = .ok (.iconst 0, 1) := by decide +kernel
theorem dL_multiply_19 : decode cL_multiply 19 = .ok (.ireturn, 1) := by decide +kernel
abbrev cL_divide : ByteArray := method_8_code
abbrev yL_divide : MethodName := ⟨"WholeDeskLaw", "divide", "(LWholeDesk;IIII)I"⟩
theorem qL_divide : yL_divide.cls ≠ "java/lang/invoke/MethodHandle" ∧ yL_divide.cls ≠ "java/lang/invoke/VarHandle" ∧ (parseMethodDescriptor yL_divide.desc).map (fun d => d.parameters.length) = some 5 := by decide +kernel
theorem dL_divide_0 : decode cL_divide 0 = .ok (.aload_n 0, 1) := by decide +kernel
theorem dL_divide_1 : decode cL_divide 1 = .ok (.iload_n 1, 1) := by decide +kernel
theorem dL_divide_2 : decode cL_divide 2 = .ok (.iload_n 2, 1) := by decide +kernel
theorem dL_divide_3 : decode cL_divide 3 = .ok (.iload_n 3, 1) := by decide +kernel
theorem dL_divide_4 : decode cL_divide 4 = .ok (.iload 4, 2) := by decide +kernel
theorem dL_divide_6 : decode cL_divide 6 = .ok (.invokevirtual 35, 3) := by decide +kernel
theorem dL_divide_9 : decode cL_divide 9 = .ok (.goto 11, 3) := by decide +kernel
theorem dL_divide_12 : decode cL_divide 12 = .ok (.astore 5, 2) := by decide +kernel
theorem dL_divide_14 : decode cL_divide 14 = .ok (.iconst 1, 1) := by decide +kernel
theorem dL_divide_15 : decode cL_divide 15 = .ok (.ireturn, 1) := by decide +kernel
theorem dL_divide_16 : decode cL_divide 16 = .ok (.astore 5, 2) := by decide +kernel
theorem dL_divide_18 : decode cL_divide 18 = .ok (.iconst 2, 1) := by decide +kernel
theorem dL_divide_19 : decode cL_divide 19 = .ok (.ireturn, 1) := by decide +kernel
theorem dL_divide_20 : decode cL_divide 20 = .ok (.iconst 0, 1) := by decide +kernel
theorem dL_divide_21 : decode cL_divide 21 = .ok (.ireturn, 1) := by decide +kernel
abbrev cL_modulo : ByteArray := method_9_code
abbrev yL_modulo : MethodName := ⟨"WholeDeskLaw", "modulo", "(LWholeDesk;III)I"⟩
theorem qL_modulo : yL_modulo.cls ≠ "java/lang/invoke/MethodHandle" ∧ yL_modulo.cls ≠ "java/lang/invoke/VarHandle" ∧ (parseMethodDescriptor yL_modulo.desc).map (fun d => d.parameters.length) = some 4 := by decide +kernel
theorem dL_modulo_0 : decode cL_modulo 0 = .ok (.aload_n 0, 1) := by decide +kernel
theorem dL_modulo_1 : decode cL_modulo 1 = .ok (.iload_n 1, 1) := by decide +kernel
theorem dL_modulo_2 : decode cL_modulo 2 = .ok (.iload_n 2, 1) := by decide +kernel
theorem dL_modulo_3 : decode cL_modulo 3 = .ok (.iload_n 3, 1) := by decide +kernel
theorem dL_modulo_4 : decode cL_modulo 4 = .ok (.invokevirtual 39, 3) := by decide +kernel
theorem dL_modulo_7 : decode cL_modulo 7 = .ok (.goto 11, 3) := by decide +kernel
theorem dL_modulo_10 : decode cL_modulo 10 = .ok (.astore 4, 2) := by decide +kernel
theorem dL_modulo_12 : decode cL_modulo 12 = .ok (.iconst 1, 1) := by decide +kernel
theorem dL_modulo_13 : decode cL_modulo 13 = .ok (.ireturn, 1) := by decide +kernel
theorem dL_modulo_14 : decode cL_modulo 14 = .ok (.astore 4, 2) := by decide +kernel
theorem dL_modulo_16 : decode cL_modulo 16 = .ok (.iconst 2, 1) := by decide +kernel
theorem dL_modulo_17 : decode cL_modulo 17 = .ok (.ireturn, 1) := by decide +kernel
theorem dL_modulo_18 : decode cL_modulo 18 = .ok (.iconst 0, 1) := by decide +kernel
theorem dL_modulo_19 : decode cL_modulo 19 = .ok (.ireturn, 1) := by decide +kernel
abbrev cL_power : ByteArray := method_10_code
abbrev yL_power : MethodName := ⟨"WholeDeskLaw", "power", "(LWholeDesk;III)I"⟩
theorem qL_power : yL_power.cls ≠ "java/lang/invoke/MethodHandle" ∧ yL_power.cls ≠ "java/lang/invoke/VarHandle" ∧ (parseMethodDescriptor yL_power.desc).map (fun d => d.parameters.length) = some 4 := by decide +kernel
theorem dL_power_0 : decode cL_power 0 = .ok (.aload_n 0, 1) := by decide +kernel
theorem dL_power_1 : decode cL_power 1 = .ok (.iload_n 1, 1) := by decide +kernel
theorem dL_power_2 : decode cL_power 2 = .ok (.iload_n 2, 1) := by decide +kernel
theorem dL_power_3 : decode cL_power 3 = .ok (.iload_n 3, 1) := by decide +kernel
theorem dL_power_4 : decode cL_power 4 = .ok (.invokevirtual 42, 3) := by decide +kernel
theorem dL_power_7 : decode cL_power 7 = .ok (.goto 11, 3) := by decide +kernel
theorem dL_power_10 : decode cL_power 10 = .ok (.astore 4, 2) := by decide +kernel
theorem dL_power_12 : decode cL_power 12 = .ok (.iconst 1, 1) := by decide +kernel
theorem dL_power_13 : decode cL_power 13 = .ok (.ireturn, 1) := by decide +kernel
theorem dL_power_14 : decode cL_power 14 = .ok (.astore 4, 2) := by decide +kernel
theorem dL_power_16 : decode cL_power 16 = .ok (.iconst 2, 1) := by decide +kernel
theorem dL_power_17 : decode cL_power 17 = .ok (.ireturn, 1) := by decide +kernel
theorem dL_power_18 : decode cL_power 18 = .ok (.iconst 0, 1) := by decide +kernel
theorem dL_power_19 : decode cL_power 19 = .ok (.ireturn, 1) := by decide +kernel
abbrev cL_root : ByteArray := method_11_code
abbrev yL_root : MethodName := ⟨"WholeDeskLaw", "root", "(LWholeDesk;III)I"⟩
theorem qL_root : yL_root.cls ≠ "java/lang/invoke/MethodHandle" ∧ yL_root.cls ≠ "java/lang/invoke/VarHandle" ∧ (parseMethodDescriptor yL_root.desc).map (fun d => d.parameters.length) = some 4 := by decide +kernel
theorem dL_root_0 : decode cL_root 0 = .ok (.aload_n 0, 1) := by decide +kernel
theorem dL_root_1 : decode cL_root 1 = .ok (.iload_n 1, 1) := by decide +kernel
theorem dL_root_2 : decode cL_root 2 = .ok (.iload_n 2, 1) := by decide +kernel
theorem dL_root_3 : decode cL_root 3 = .ok (.iload_n 3, 1) := by decide +kernel
theorem dL_root_4 : decode cL_root 4 = .ok (.invokevirtual 45, 3) := by decide +kernel
theorem dL_root_7 : decode cL_root 7 = .ok (.goto 11, 3) := by decide +kernel
theorem dL_root_10 : decode cL_root 10 = .ok (.astore 4, 2) := by decide +kernel
theorem dL_root_12 : decode cL_root 12 = .ok (.iconst 1, 1) := by decide +kernel
theorem dL_root_13 : decode cL_root 13 = .ok (.ireturn, 1) := by decide +kernel
theorem dL_root_14 : decode cL_root 14 = .ok (.astore 4, 2) := by decide +kernel
theorem dL_root_16 : decode cL_root 16 = .ok (.iconst 2, 1) := by decide +kernel
theorem dL_root_17 : decode cL_root 17 = .ok (.ireturn, 1) := by decide +kernel
theorem dL_root_18 : decode cL_root 18 = .ok (.iconst 0, 1) := by decide +kernel
theorem dL_root_19 : decode cL_root 19 = .ok (.ireturn, 1) := by decide +kernel
abbrev cL_common : ByteArray := method_12_code
abbrev yL_common : MethodName := ⟨"WholeDeskLaw", "common", "(LWholeDesk;III)I"⟩
theorem qL_common : yL_common.cls ≠ "java/lang/invoke/MethodHandle" ∧ yL_common.cls ≠ "java/lang/invoke/VarHandle" ∧ (parseMethodDescriptor yL_common.desc).map (fun d => d.parameters.length) = some 4 := by decide +kernel
theorem dL_common_0 : decode cL_common 0 = .ok (.aload_n 0, 1) := by decide +kernel
theorem dL_common_1 : decode cL_common 1 = .ok (.iload_n 1, 1) := by decide +kernel
theorem dL_common_2 : decode cL_common 2 = .ok (.iload_n 2, 1) := by decide +kernel
theorem dL_common_3 : decode cL_common 3 = .ok (.iload_n 3, 1) := by decide +kernel
theorem dL_common_4 : decode cL_common 4 = .ok (.invokevirtual 48, 3) := by decide +kernel
theorem dL_common_7 : decode cL_common 7 = .ok (.goto 7, 3) := by decide +kernel
theorem dL_common_10 : decode cL_common 10 = .ok (.astore 4, 2) := by decide +kernel
theorem dL_common_12 : decode cL_common 12 = .ok (.iconst 1, 1) := by decide +kernel
theorem dL_common_13 : decode cL_common 13 = .ok (.ireturn, 1) := by decide +kernel
theorem dL_common_14 : decode cL_common 14 = .ok (.iconst 0, 1) := by decide +kernel
theorem dL_common_15 : decode cL_common 15 = .ok (.ireturn, 1) := by decide +kernel
abbrev cL_inverse : ByteArray := method_13_code
abbrev yL_inverse : MethodName := ⟨"WholeDeskLaw", "inverse", "(LWholeDesk;III)I"⟩
theorem qL_inverse : yL_inverse.cls ≠ "java/lang/invoke/MethodHandle" ∧ yL_inverse.cls ≠ "java/lang/invoke/VarHandle" ∧ (parseMethodDescriptor yL_inverse.desc).map (fun d => d.parameters.length) = some 4 := by decide +kernel
theorem dL_inverse_0 : decode cL_inverse 0 = .ok (.aload_n 0, 1) := by decide +kernel
theorem dL_inverse_1 : decode cL_inverse 1 = .ok (.iload_n 1, 1) := by decide +kernel
theorem dL_inverse_2 : decode cL_inverse 2 = .ok (.iload_n 2, 1) := by decide +kernel
theorem dL_inverse_3 : decode cL_inverse 3 = .ok (.iload_n 3, 1) := by decide +kernel
theorem dL_inverse_4 : decode cL_inverse 4 = .ok (.invokevirtual 51, 3) := by decide +kernel
theorem dL_inverse_7 : decode cL_inverse 7 = .ok (.goto 11, 3) := by decide +kernel
theorem dL_inverse_10 : decode cL_inverse 10 = .ok (.astore 4, 2) := by decide +kernel
theorem dL_inverse_12 : decode cL_inverse 12 = .ok (.iconst 1, 1) := by decide +kernel
theorem dL_inverse_13 : decode cL_inverse 13 = .ok (.ireturn, 1) := by decide +kernel
theorem dL_inverse_14 : decode cL_inverse 14 = .ok (.astore 4, 2) := by decide +kernel
theorem dL_inverse_16 : decode cL_inverse 16 = .ok (.iconst 2, 1) := by decide +kernel
theorem dL_inverse_17 : decode cL_inverse 17 = .ok (.ireturn, 1) := by decide +kernel
theorem dL_inverse_18 : decode cL_inverse 18 = .ok (.iconst 0, 1) := by decide +kernel
theorem dL_inverse_19 : decode cL_inverse 19 = .ok (.ireturn, 1) := by decide +kernel
abbrev cL_powerModulo : ByteArray := method_14_code
abbrev yL_powerModulo : MethodName := ⟨"WholeDeskLaw", "powerModulo", "(LWholeDesk;IIII)I"⟩
theorem qL_powerModulo : yL_powerModulo.cls ≠ "java/lang/invoke/MethodHandle" ∧ yL_powerModulo.cls ≠ "java/lang/invoke/VarHandle" ∧ (parseMethodDescriptor yL_powerModulo.desc).map (fun d => d.parameters.length) = some 5 := by decide +kernel
theorem dL_powerModulo_0 : decode cL_powerModulo 0 = .ok (.aload_n 0, 1) := by decide +kernel
theorem dL_powerModulo_1 : decode cL_powerModulo 1 = .ok (.iload_n 1, 1) := by decide +kernel
theorem dL_powerModulo_2 : decode cL_powerModulo 2 = .ok (.iload_n 2, 1) := by decide +kernel
theorem dL_powerModulo_3 : decode cL_powerModulo 3 = .ok (.iload_n 3, 1) := by decide +kernel
theorem dL_powerModulo_4 : decode cL_powerModulo 4 = .ok (.iload 4, 2) := by decide +kernel
theorem dL_powerModulo_6 : decode cL_powerModulo 6 = .ok (.invokevirtual 54, 3) := by decide +kernel
theorem dL_powerModulo_9 : decode cL_powerModulo 9 = .ok (.goto 11, 3) := by decide +kernel
theorem dL_powerModulo_12 : decode cL_powerModulo 12 = .ok (.astore 5, 2) := by decide +kernel
theorem dL_powerModulo_14 : decode cL_powerModulo 14 = .ok (.iconst 1, 1) := by decide +kernel
theorem dL_powerModulo_15 : decode cL_powerModulo 15 = .ok (.ireturn, 1) := by decide +kernel
theorem dL_powerModulo_16 : decode cL_powerModulo 16 = .ok (.astore 5, 2) := by decide +kernel
theorem dL_powerModulo_18 : decode cL_powerModulo 18 = .ok (.iconst 2, 1) := by decide +kernel
theorem dL_powerModulo_19 : decode cL_powerModulo 19 = .ok (.ireturn, 1) := by decide +kernel
theorem dL_powerModulo_20 : decode cL_powerModulo 20 = .ok (.iconst 0, 1) := by decide +kernel
theorem dL_powerModulo_21 : decode cL_powerModulo 21 = .ok (.ireturn, 1) := by decide +kernel
abbrev cL_combine : ByteArray := method_15_code
abbrev yL_combine : MethodName := ⟨"WholeDeskLaw", "combine", "(LWholeDesk;IIII)I"⟩
theorem qL_combine : yL_combine.cls ≠ "java/lang/invoke/MethodHandle" ∧ yL_combine.cls ≠ "java/lang/invoke/VarHandle" ∧ (parseMethodDescriptor yL_combine.desc).map (fun d => d.parameters.length) = some 5 := by decide +kernel
theorem dL_combine_0 : decode cL_combine 0 = .ok (.aload_n 0, 1) := by decide +kernel
theorem dL_combine_1 : decode cL_combine 1 = .ok (.iload_n 1, 1) := by decide +kernel
theorem dL_combine_2 : decode cL_combine 2 = .ok (.iload_n 2, 1) := by decide +kernel
theorem dL_combine_3 : decode cL_combine 3 = .ok (.iload_n 3, 1) := by decide +kernel
theorem dL_combine_4 : decode cL_combine 4 = .ok (.iload 4, 2) := by decide +kernel
theorem dL_combine_6 : decode cL_combine 6 = .ok (.invokevirtual 57, 3) := by decide +kernel
theorem dL_combine_9 : decode cL_combine 9 = .ok (.goto 11, 3) := by decide +kernel
theorem dL_combine_12 : decode cL_combine 12 = .ok (.astore 5, 2) := by decide +kernel
theorem dL_combine_14 : decode cL_combine 14 = .ok (.iconst 1, 1) := by decide +kernel
theorem dL_combine_15 : decode cL_combine 15 = .ok (.ireturn, 1) := by decide +kernel
theorem dL_combine_16 : decode cL_combine 16 = .ok (.astore 5, 2) := by decide +kernel
theorem dL_combine_18 : decode cL_combine 18 = .ok (.iconst 2, 1) := by decide +kernel
theorem dL_combine_19 : decode cL_combine 19 = .ok (.ireturn, 1) := by decide +kernel
theorem dL_combine_20 : decode cL_combine 20 = .ok (.iconst 0, 1) := by decide +kernel
theorem dL_combine_21 : decode cL_combine 21 = .ok (.ireturn, 1) := by decide +kernel
abbrev cL_shift : ByteArray := method_16_code
abbrev yL_shift : MethodName := ⟨"WholeDeskLaw", "shift", "(LWholeDesk;III)I"⟩
theorem qL_shift : yL_shift.cls ≠ "java/lang/invoke/MethodHandle" ∧ yL_shift.cls ≠ "java/lang/invoke/VarHandle" ∧ (parseMethodDescriptor yL_shift.desc).map (fun d => d.parameters.length) = some 4 := by decide +kernel
theorem dL_shift_0 : decode cL_shift 0 = .ok (.aload_n 0, 1) := by decide +kernel
theorem dL_shift_1 : decode cL_shift 1 = .ok (.iload_n 1, 1) := by decide +kernel
theorem dL_shift_2 : decode cL_shift 2 = .ok (.iload_n 2, 1) := by decide +kernel
theorem dL_shift_3 : decode cL_shift 3 = .ok (.iload_n 3, 1) := by decide +kernel
theorem dL_shift_4 : decode cL_shift 4 = .ok (.invokevirtual 60, 3) := by decide +kernel
theorem dL_shift_7 : decode cL_shift 7 = .ok (.goto 11, 3) := by decide +kernel
theorem dL_shift_10 : decode cL_shift 10 = .ok (.astore 4, 2) := by decide +kernel
theorem dL_shift_12 : decode cL_shift 12 = .ok (.iconst 1, 1) := by decide +kernel
theorem dL_shift_13 : decode cL_shift 13 = .ok (.ireturn, 1) := by decide +kernel
theorem dL_shift_14 : decode cL_shift 14 = .ok (.astore 4, 2) := by decide +kernel
theorem dL_shift_16 : decode cL_shift 16 = .ok (.iconst 2, 1) := by decide +kernel
theorem dL_shift_17 : decode cL_shift 17 = .ok (.ireturn, 1) := by decide +kernel
theorem dL_shift_18 : decode cL_shift 18 = .ok (.iconst 0, 1) := by decide +kernel
theorem dL_shift_19 : decode cL_shift 19 = .ok (.ireturn, 1) := by decide +kernel
abbrev cL_bit : ByteArray := method_17_code
abbrev yL_bit : MethodName := ⟨"WholeDeskLaw", "bit", "(LWholeDesk;II[J)I"⟩
theorem qL_bit : yL_bit.cls ≠ "java/lang/invoke/MethodHandle" ∧ yL_bit.cls ≠ "java/lang/invoke/VarHandle" ∧ (parseMethodDescriptor yL_bit.desc).map (fun d => d.parameters.length) = some 4 := by decide +kernel
theorem dL_bit_0 : decode cL_bit 0 = .ok (.aload_n 3, 1) := by decide +kernel
theorem dL_bit_1 : decode cL_bit 1 = .ok (.iconst 0, 1) := by decide +kernel
theorem dL_bit_2 : decode cL_bit 2 = .ok (.aload_n 0, 1) := by decide +kernel
theorem dL_bit_3 : decode cL_bit 3 = .ok (.iload_n 1, 1) := by decide +kernel
theorem dL_bit_4 : decode cL_bit 4 = .ok (.iload_n 2, 1) := by decide +kernel
theorem dL_bit_5 : decode cL_bit 5 = .ok (.invokevirtual 63, 3) := by decide +kernel
theorem dL_bit_8 : decode cL_bit 8 = .ok (.i2l, 1) := by decide +kernel
theorem dL_bit_9 : decode cL_bit 9 = .ok (.lastore, 1) := by decide +kernel
theorem dL_bit_10 : decode cL_bit 10 = .ok (.goto 7, 3) := by decide +kernel
theorem dL_bit_13 : decode cL_bit 13 = .ok (.astore 4, 2) := by decide +kernel
theorem dL_bit_15 : decode cL_bit 15 = .ok (.iconst 1, 1) := by decide +kernel
theorem dL_bit_16 : decode cL_bit 16 = .ok (.ireturn, 1) := by decide +kernel
theorem dL_bit_17 : decode cL_bit 17 = .ok (.iconst 0, 1) := by decide +kernel
theorem dL_bit_18 : decode cL_bit 18 = .ok (.ireturn, 1) := by decide +kernel
abbrev cL_compare : ByteArray := method_18_code
abbrev yL_compare : MethodName := ⟨"WholeDeskLaw", "compare", "(LWholeDesk;II[J)I"⟩
theorem qL_compare : yL_compare.cls ≠ "java/lang/invoke/MethodHandle" ∧ yL_compare.cls ≠ "java/lang/invoke/VarHandle" ∧ (parseMethodDescriptor yL_compare.desc).map (fun d => d.parameters.length) = some 4 := by decide +kernel
theorem dL_compare_0 : decode cL_compare 0 = .ok (.aload_n 3, 1) := by decide +kernel
theorem dL_compare_1 : decode cL_compare 1 = .ok (.iconst 0, 1) := by decide +kernel
theorem dL_compare_2 : decode cL_compare 2 = .ok (.aload_n 0, 1) := by decide +kernel
theorem dL_compare_3 : decode cL_compare 3 = .ok (.iload_n 1, 1) := by decide +kernel
theorem dL_compare_4 : decode cL_compare 4 = .ok (.iload_n 2, 1) := by decide +kernel
theorem dL_compare_5 : decode cL_compare 5 = .ok (.invokevirtual 67, 3) := by decide +kernel
theorem dL_compare_8 : decode cL_compare 8 = .ok (.i2l, 1) := by decide +kernel
theorem dL_compare_9 : decode cL_compare 9 = .ok (.lastore, 1) := by decide +kernel
theorem dL_compare_10 : decode cL_compare 10 = .ok (.goto 7, 3) := by decide +kernel
theorem dL_compare_13 : decode cL_compare 13 = .ok (.astore 4, 2) := by decide +kernel
theorem dL_compare_15 : decode cL_compare 15 = .ok (.iconst 1, 1) := by decide +kernel
theorem dL_compare_16 : decode cL_compare 16 = .ok (.ireturn, 1) := by decide +kernel
theorem dL_compare_17 : decode cL_compare 17 = .ok (.iconst 0, 1) := by decide +kernel
theorem dL_compare_18 : decode cL_compare 18 = .ok (.ireturn, 1) := by decide +kernel
abbrev cL_told : ByteArray := method_19_code
abbrev yL_told : MethodName := ⟨"WholeDeskLaw", "told", "(LWholeDesk;II[J)I"⟩
theorem qL_told : yL_told.cls ≠ "java/lang/invoke/MethodHandle" ∧ yL_told.cls ≠ "java/lang/invoke/VarHandle" ∧ (parseMethodDescriptor yL_told.desc).map (fun d => d.parameters.length) = some 4 := by decide +kernel
theorem dL_told_0 : decode cL_told 0 = .ok (.aload_n 3, 1) := by decide +kernel
theorem dL_told_1 : decode cL_told 1 = .ok (.iconst 0, 1) := by decide +kernel
theorem dL_told_2 : decode cL_told 2 = .ok (.aload_n 0, 1) := by decide +kernel
theorem dL_told_3 : decode cL_told 3 = .ok (.iload_n 1, 1) := by decide +kernel
theorem dL_told_4 : decode cL_told 4 = .ok (.iload_n 2, 1) := by decide +kernel
theorem dL_told_5 : decode cL_told 5 = .ok (.invokevirtual 70, 3) := by decide +kernel
theorem dL_told_8 : decode cL_told 8 = .ok (.lastore, 1) := by decide +kernel
theorem dL_told_9 : decode cL_told 9 = .ok (.goto 7, 3) := by decide +kernel
theorem dL_told_12 : decode cL_told 12 = .ok (.astore 4, 2) := by decide +kernel
theorem dL_told_14 : decode cL_told 14 = .ok (.iconst 1, 1) := by decide +kernel
theorem dL_told_15 : decode cL_told 15 = .ok (.ireturn, 1) := by decide +kernel
theorem dL_told_16 : decode cL_told 16 = .ok (.iconst 0, 1) := by decide +kernel
theorem dL_told_17 : decode cL_told 17 = .ok (.ireturn, 1) := by decide +kernel
abbrev cL_written : ByteArray := method_20_code
abbrev yL_written : MethodName := ⟨"WholeDeskLaw", "written", "(LWholeDesk;II[J)I"⟩
theorem qL_written : yL_written.cls ≠ "java/lang/invoke/MethodHandle" ∧ yL_written.cls ≠ "java/lang/invoke/VarHandle" ∧ (parseMethodDescriptor yL_written.desc).map (fun d => d.parameters.length) = some 4 := by decide +kernel
theorem dL_written_0 : decode cL_written 0 = .ok (.aload_n 3, 1) := by decide +kernel
theorem dL_written_1 : decode cL_written 1 = .ok (.iconst 0, 1) := by decide +kernel
theorem dL_written_2 : decode cL_written 2 = .ok (.aload_n 0, 1) := by decide +kernel
theorem dL_written_3 : decode cL_written 3 = .ok (.iload_n 1, 1) := by decide +kernel
theorem dL_written_4 : decode cL_written 4 = .ok (.iload_n 2, 1) := by decide +kernel
theorem dL_written_5 : decode cL_written 5 = .ok (.invokevirtual 74, 3) := by decide +kernel
theorem dL_written_8 : decode cL_written 8 = .ok (.i2l, 1) := by decide +kernel
theorem dL_written_9 : decode cL_written 9 = .ok (.lastore, 1) := by decide +kernel
theorem dL_written_10 : decode cL_written 10 = .ok (.goto 7, 3) := by decide +kernel
theorem dL_written_13 : decode cL_written 13 = .ok (.astore 4, 2) := by decide +kernel
theorem dL_written_15 : decode cL_written 15 = .ok (.iconst 1, 1) := by decide +kernel
theorem dL_written_16 : decode cL_written 16 = .ok (.ireturn, 1) := by decide +kernel
theorem dL_written_17 : decode cL_written 17 = .ok (.iconst 0, 1) := by decide +kernel
theorem dL_written_18 : decode cL_written 18 = .ok (.ireturn, 1) := by decide +kernel
