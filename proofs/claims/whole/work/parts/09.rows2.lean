theorem p2_1 : ((2 ^ 1 : Nat) : Int) = 2 := by decide +kernel
theorem p2_4 : ((2 ^ 4 : Nat) : Int) = 16 := by decide +kernel
theorem p2_8 : ((2 ^ 8 : Nat) : Int) = 256 := by decide +kernel
theorem p2_16 : ((2 ^ 16 : Nat) : Int) = 65536 := by decide +kernel
theorem p2_28 : ((2 ^ 28 : Nat) : Int) = 268435456 := by decide +kernel
theorem p2_32 : ((2 ^ 32 : Nat) : Int) = 4294967296 := by decide +kernel
theorem p2_48 : ((2 ^ 48 : Nat) : Int) = 281474976710656 := by decide +kernel
theorem p2_56 : ((2 ^ 56 : Nat) : Int) = 72057594037927936 := by decide +kernel
theorem m2_8 : lZ 255 = lN (2 ^ 8 - 1) := by decide +kernel
theorem m2_16 : lZ 65535 = lN (2 ^ 16 - 1) := by decide +kernel
theorem m2_28 : lZ 268435455 = lN (2 ^ 28 - 1) := by decide +kernel
theorem m2_32 : lZ 4294967295 = lN (2 ^ 32 - 1) := by decide +kernel
section ZR2
variable {p : Program} {l : Launch} {e : Env} {R : Room} {s : State} {m : MethodId} {args : Array Value} {below : List Frame} {meth : Method} {c : Code} {H : Heap} {locs : List Loc} {cells slots : Nat} {Q : State → Prop} {cc : ByteArray} {pc : Nat} {ls : Array Slot} {rest : List Value}
theorem zm_min {x y : Int} (h1 : zi x) (h2 : zi y) : (if iZ y < iZ x then iZ y else iZ x) = iZ (min x y) := by
  by_cases h : iZ y < iZ x
  · rw [if_pos h]; rw [iZ_lt h2 h1] at h; congr 1; omega
  · rw [if_neg h]; rw [iZ_lt h2 h1] at h; congr 1; omega
theorem zr_min (hx : p.tables.exec = Jvm.exec) (hb : c.code = cc) (hml : c.maxLocals = ls.size) {own : String} {index : Nat} (ht : ∀ w ∈ zt, w.before args s = true) (hown : s.vm.findClass own = some m.cls) (hl : Cond.methodLink own index ⟨"java/lang/Math", "min", "(II)I"⟩ ∈ zt) (hf : 1 ≤ R.frames) (hlo : (rest.map fun v => v.category).sum + 13 ≤ R.locals) (hc : cells ≤ R.cells) (hs : slots ≤ R.slots) {x y : Int} (h1 : zi x) (h2 : zi y) (hd : decode cc pc = .ok (.invokestatic index, 3)) (k : W p l e R s m args below meth c H locs cells slots Q (F0 m (pc + 3) ls (.int (iZ (min x y)) :: rest))) : W p l e R s m args below meth c H locs cells slots Q (F0 m pc ls (.int (iZ y) :: .int (iZ x) :: rest)) :=
  va_mmin hx hb hml hown (ht _ hl) (ht _ tw_306) (ht _ tw_12) (ht _ tw_307) hf hlo hc hs hd (by rw [zm_min h1 h2]; exact k)
theorem zm_max {x y : Int} (h1 : zi x) (h2 : zi y) : (if iZ x < iZ y then iZ y else iZ x) = iZ (max x y) := by
  by_cases h : iZ x < iZ y
  · rw [if_pos h]; rw [iZ_lt h1 h2] at h; congr 1; omega
  · rw [if_neg h]; rw [iZ_lt h1 h2] at h; congr 1; omega
theorem zr_max (hx : p.tables.exec = Jvm.exec) (hb : c.code = cc) (hml : c.maxLocals = ls.size) {own : String} {index : Nat} (ht : ∀ w ∈ zt, w.before args s = true) (hown : s.vm.findClass own = some m.cls) (hl : Cond.methodLink own index ⟨"java/lang/Math", "max", "(II)I"⟩ ∈ zt) (hf : 1 ≤ R.frames) (hlo : (rest.map fun v => v.category).sum + 13 ≤ R.locals) (hc : cells ≤ R.cells) (hs : slots ≤ R.slots) {x y : Int} (h1 : zi x) (h2 : zi y) (hd : decode cc pc = .ok (.invokestatic index, 3)) (k : W p l e R s m args below meth c H locs cells slots Q (F0 m (pc + 3) ls (.int (iZ (max x y)) :: rest))) : W p l e R s m args below meth c H locs cells slots Q (F0 m pc ls (.int (iZ y) :: .int (iZ x) :: rest)) :=
  va_mmax hx hb hml hown (ht _ hl) (ht _ tw_309) (ht _ tw_12) (ht _ tw_310) hf hlo hc hs hd (by rw [zm_max h1 h2]; exact k)
end ZR2
theorem cpy_lZ (f g : Nat → Nat) (a b n : Nat) : va_cpy (fun i => lZ (f i)) (fun i => lZ (g i)) a b n = fun i => lZ ((va_cpy f g a b n i : Nat) : Int) := by
  funext i
  unfold va_cpy
  split <;> rfl
theorem cpy_lt {f g : Nat → Nat} {a b n M : Nat} (hf : ∀ i, f i < M) (hg : ∀ i, g i < M) : ∀ i, va_cpy f g a b n i < M := fun i => by
  unfold va_cpy
  split
  · exact hf _
  · exact hg _
theorem zw_copy {p : Program} {l : Launch} {e : Env} {R : Room} {s : State} {m : MethodId} {args : Array Value} {below : List Frame} {meth : Method} {c : Code} {H : Heap} {locs : List Loc} {cells slots : Nat} {Q : State → Prop} {cc : ByteArray} {pc : Nat} {ls : Array Slot} {rest : List Value} {E : zE} {B : Nat} {v : Nat → zV} {o : Nat → va_E} {H0 : Heap} {own : String} {index k j : Nat} {d d2 : Nat → Nat} {n n2 : Nat} {b b2 : Bool} (hx : p.tables.exec = Jvm.exec) (hb : c.code = cc) (hml : c.maxLocals = ls.size) (ht : ∀ w ∈ zt, w.before args s = true) (hown : s.vm.findClass own = some m.cls) (hK : zK E s) (hZ : zD E B v o H) (hS : va_S (zA B 80) H0 H locs) (hk : lp k = true) (ev : v k = (d, n, b)) (hj : lp j = true) (ev2 : v j = (d2, n2, b2)) (hl : Cond.methodLink own index ⟨"java/lang/System", "arraycopy", "(Ljava/lang/Object;ILjava/lang/Object;II)V"⟩ ∈ zt)
    {z : Int} (h0 : 0 ≤ z) (h1 : z ≤ 152) (hf : 1 ≤ R.frames) (hlo : (rest.map fun v => v.category).sum + (nativeFrameWords "java/lang/System" "arraycopy" 5 + 11) ≤ R.locals) (hd : decode cc pc = .ok (.invokestatic index, 3))
    (kk : ∀ (v1 : Nat → zV) (H1 : Heap) (locs1 : List Loc), v1 k = (va_cpy d2 d 0 0 z.toNat, n, b) → (∀ j, j ≠ k → v1 j = v j) → zD E B v1 o H1 → va_S (zA B 80) H0 H1 locs1 → W p l e R s m args below meth c H1 locs1 cells slots Q (F0 m (pc + 3) ls rest)) : W p l e R s m args below meth c H locs cells slots Q (F0 m pc ls (.int (iZ z) :: .int (iZ 0) :: .ref (B + (k + 1)) :: .int (iZ 0) :: .ref (B + (j + 1)) :: rest)) := by
  have hzi : zi z := ⟨by omega, by omega⟩
  have z0 : (iZ 0).toNatClampNeg = 0 := rfl
  have n0 : ¬ iZ 0 < 0 := by decide
  have nz : ¬ iZ z < 0 := by rw [iZ_0, iZ_lt hzi ⟨by decide, by decide⟩]; omega
  have hok := hZ.2 k hk
  have hok2 := hZ.2 j hj
  rw [ev] at hok
  rw [ev2] at hok2
  refine va_copyl (D := E.1) (cl := zCl) (c0 := E.2.1) (c1 := E.2.1) (n0 := 152) (n1 := 152) (f := fun i => lZ (d2 i)) (g := fun i => lZ (d i)) (ty := .long) hx hb hml hown (ht _ hl) (ht _ tw_348) (ht _ tw_347) (ht _ tw_14) hK hZ.1 (zB_DA B 80 _) hS (j + 1) (k + 1) 0 0 (by rw [zB_at (lp_lt hj), zO_A hj, ev2]) (by rw [zB_at (lp_lt hk), zO_A hk, ev]) rfl rfl rfl n0 n0 nz (by rw [z0, iZ_clamp hzi]; omega) (by rw [z0, iZ_clamp hzi]; omega) (fun _ _ => rfl) hf hlo hd fun H1 locs1 hP hD hS1 => ?_
  refine kk (va_up v k (va_cpy d2 d 0 0 z.toNat, n, b)) H1 locs1 (va_up_self _ _ _) (fun j hj => va_up_ne _ _ hj) ⟨?_, hZ.2.up (cpy_lt hok2.1 hok.1) hok.2⟩ hS1
  rw [zB_set (lp_lt hk), z0, iZ_clamp hzi, cpy_lZ, zO_upA hk, ev] at hP
  exact hP
theorem tp_0 : Cond.selects "WholeDesk$Writing" ⟨"WholeDesk$Writing", "characterAt", "(J)I"⟩ ⟨"WholeDesk$Writing", "characterAt", "(J)I"⟩ ∈ zt := List.mem_filter.mpr ⟨List.mem_append_left _ (List.mem_of_getElem? (i := 0) rfl), by decide +kernel⟩
theorem tp_1 : Cond.selects "java/lang/Throwable" ⟨"java/lang/Throwable", "fillInStackTrace", "(I)Ljava/lang/Throwable;"⟩ ⟨"java/lang/Throwable", "fillInStackTrace", "(I)Ljava/lang/Throwable;"⟩ ∈ zt := List.mem_filter.mpr ⟨List.mem_append_left _ (List.mem_of_getElem? (i := 1) rfl), by decide +kernel⟩
theorem tp_2 : Cond.selects "WholeDesk$Draft" ⟨"WholeDesk$Draft", "start", "()I"⟩ ⟨"WholeDesk$Draft", "start", "()I"⟩ ∈ zt := List.mem_filter.mpr ⟨List.mem_append_left _ (List.mem_of_getElem? (i := 2) rfl), by decide +kernel⟩
theorem tp_3 : Cond.selects "WholeDesk$Draft" ⟨"WholeDesk$Draft", "startsWith", "(C)Z"⟩ ⟨"WholeDesk$Draft", "startsWith", "(C)Z"⟩ ∈ zt := List.mem_filter.mpr ⟨List.mem_append_left _ (List.mem_of_getElem? (i := 3) rfl), by decide +kernel⟩
theorem tp_4 : Cond.selects "WholeDesk" ⟨"WholeDesk", "keep", "(LWholeDesk$Whole;I)V"⟩ ⟨"WholeDesk", "keep", "(LWholeDesk$Whole;I)V"⟩ ∈ zt := List.mem_filter.mpr ⟨List.mem_append_left _ (List.mem_of_getElem? (i := 4) rfl), by decide +kernel⟩
theorem tp_5 : Cond.selects "WholeDesk$Whole" ⟨"WholeDesk$Whole", "guess", "(IIJJ)J"⟩ ⟨"WholeDesk$Whole", "guess", "(IIJJ)J"⟩ ∈ zt := List.mem_filter.mpr ⟨List.mem_append_left _ (List.mem_of_getElem? (i := 5) rfl), by decide +kernel⟩
theorem tp_6 : Cond.selects "WholeDesk$Reckoner" ⟨"WholeDesk$Reckoner", "times", "(LWholeDesk$Whole;)V"⟩ ⟨"WholeDesk$Reckoner", "times", "(LWholeDesk$Whole;)V"⟩ ∈ zt := List.mem_filter.mpr ⟨List.mem_append_left _ (List.mem_of_getElem? (i := 6) rfl), by decide +kernel⟩
theorem tp_7 : Cond.selects "WholeDesk$Reckoner" ⟨"WholeDesk$Reckoner", "improve", "(LWholeDesk$Whole;ILWholeDesk$Whole;LWholeDesk$Whole;)V"⟩ ⟨"WholeDesk$Reckoner", "improve", "(LWholeDesk$Whole;ILWholeDesk$Whole;LWholeDesk$Whole;)V"⟩ ∈ zt := List.mem_filter.mpr ⟨List.mem_append_left _ (List.mem_of_getElem? (i := 7) rfl), by decide +kernel⟩
theorem tp_8 : Cond.selects "WholeDesk$Reckoner" ⟨"WholeDesk$Reckoner", "fillPowers", "(LWholeDesk$Whole;LWholeDesk$Whole;)V"⟩ ⟨"WholeDesk$Reckoner", "fillPowers", "(LWholeDesk$Whole;LWholeDesk$Whole;)V"⟩ ∈ zt := List.mem_filter.mpr ⟨List.mem_append_left _ (List.mem_of_getElem? (i := 8) rfl), by decide +kernel⟩
theorem tp_9 : Cond.selects "WholeDesk$Reckoner" ⟨"WholeDesk$Reckoner", "timesModulo", "(LWholeDesk$Whole;LWholeDesk$Whole;)V"⟩ ⟨"WholeDesk$Reckoner", "timesModulo", "(LWholeDesk$Whole;LWholeDesk$Whole;)V"⟩ ∈ zt := List.mem_filter.mpr ⟨List.mem_append_left _ (List.mem_of_getElem? (i := 9) rfl), by decide +kernel⟩
theorem tp_10 : Cond.selects "WholeDesk$Writing" ⟨"WholeDesk$Writing", "prependDigits", "(JII)V"⟩ ⟨"WholeDesk$Writing", "prependDigits", "(JII)V"⟩ ∈ zt := List.mem_filter.mpr ⟨List.mem_append_left _ (List.mem_of_getElem? (i := 10) rfl), by decide +kernel⟩
theorem tp_11 : Cond.selects "WholeDesk$Writing" ⟨"WholeDesk$Writing", "prepend", "(C)V"⟩ ⟨"WholeDesk$Writing", "prepend", "(C)V"⟩ ∈ zt := List.mem_filter.mpr ⟨List.mem_append_left _ (List.mem_of_getElem? (i := 11) rfl), by decide +kernel⟩
theorem tp_12 : Cond.selects "WholeDeskModel" ⟨"WholeDeskModel", "store", "(I)V"⟩ ⟨"WholeDeskModel", "store", "(I)V"⟩ ∈ zt := List.mem_filter.mpr ⟨List.mem_append_left _ (List.mem_of_getElem? (i := 12) rfl), by decide +kernel⟩
theorem tp_13 : Cond.selects "WholeDeskModel" ⟨"WholeDeskModel", "take", "(I[I)V"⟩ ⟨"WholeDeskModel", "take", "(I[I)V"⟩ ∈ zt := List.mem_filter.mpr ⟨List.mem_append_left _ (List.mem_of_getElem? (i := 13) rfl), by decide +kernel⟩
theorem tp_14 : Cond.selects "WholeDeskModel" ⟨"WholeDeskModel", "sum", "([IZ[IZ)V"⟩ ⟨"WholeDeskModel", "sum", "([IZ[IZ)V"⟩ ∈ zt := List.mem_filter.mpr ⟨List.mem_append_left _ (List.mem_of_getElem? (i := 14) rfl), by decide +kernel⟩
theorem tp_15 : Cond.selects "WholeDeskModel" ⟨"WholeDeskModel", "multiplyRows", "([I[I[I)V"⟩ ⟨"WholeDeskModel", "multiplyRows", "([I[I[I)V"⟩ ∈ zt := List.mem_filter.mpr ⟨List.mem_append_left _ (List.mem_of_getElem? (i := 15) rfl), by decide +kernel⟩
theorem tp_16 : Cond.selects "WholeDeskModel" ⟨"WholeDeskModel", "isZero", "(I)Z"⟩ ⟨"WholeDeskModel", "isZero", "(I)Z"⟩ ∈ zt := List.mem_filter.mpr ⟨List.mem_append_left _ (List.mem_of_getElem? (i := 16) rfl), by decide +kernel⟩
theorem tp_17 : Cond.selects "WholeDeskModel" ⟨"WholeDeskModel", "divideRows", "([I[I)V"⟩ ⟨"WholeDeskModel", "divideRows", "([I[I)V"⟩ ∈ zt := List.mem_filter.mpr ⟨List.mem_append_left _ (List.mem_of_getElem? (i := 17) rfl), by decide +kernel⟩
theorem tp_18 : Cond.selects "WholeDeskModel" ⟨"WholeDeskModel", "isAbove0", "(I)Z"⟩ ⟨"WholeDeskModel", "isAbove0", "(I)Z"⟩ ∈ zt := List.mem_filter.mpr ⟨List.mem_append_left _ (List.mem_of_getElem? (i := 18) rfl), by decide +kernel⟩
theorem tp_19 : Cond.selects "WholeDeskModel" ⟨"WholeDeskModel", "reduce", "(I[I)V"⟩ ⟨"WholeDeskModel", "reduce", "(I[I)V"⟩ ∈ zt := List.mem_filter.mpr ⟨List.mem_append_left _ (List.mem_of_getElem? (i := 19) rfl), by decide +kernel⟩
theorem tp_20 : Cond.selects "WholeDeskModel" ⟨"WholeDeskModel", "setOne", "([I)V"⟩ ⟨"WholeDeskModel", "setOne", "([I)V"⟩ ∈ zt := List.mem_filter.mpr ⟨List.mem_append_left _ (List.mem_of_getElem? (i := 20) rfl), by decide +kernel⟩
theorem tp_21 : Cond.selects "WholeDeskModel" ⟨"WholeDeskModel", "fits", "(I)Z"⟩ ⟨"WholeDeskModel", "fits", "(I)Z"⟩ ∈ zt := List.mem_filter.mpr ⟨List.mem_append_left _ (List.mem_of_getElem? (i := 21) rfl), by decide +kernel⟩
theorem tp_22 : Cond.selects "WholeDeskModel" ⟨"WholeDeskModel", "inverts", "()Z"⟩ ⟨"WholeDeskModel", "inverts", "()Z"⟩ ∈ zt := List.mem_filter.mpr ⟨List.mem_append_left _ (List.mem_of_getElem? (i := 22) rfl), by decide +kernel⟩
theorem tp_23 : Cond.selects "WholeDeskModel" ⟨"WholeDeskModel", "limb", "(II)I"⟩ ⟨"WholeDeskModel", "limb", "(II)I"⟩ ∈ zt := List.mem_filter.mpr ⟨List.mem_append_left _ (List.mem_of_getElem? (i := 23) rfl), by decide +kernel⟩
