abbrev cJ_bitCount : ByteArray := prog_12_method_50_code
abbrev yJ_bitCount : MethodName := ⟨"java/lang/Long", "bitCount", "(J)I"⟩
theorem qJ_bitCount : yJ_bitCount.cls ≠ "java/lang/invoke/MethodHandle" ∧ yJ_bitCount.cls ≠ "java/lang/invoke/VarHandle" ∧ (parseMethodDescriptor yJ_bitCount.desc).map (fun d => d.parameters.length) = some 1 := by decide +kernel
theorem dJ_bitCount_0 : decode cJ_bitCount 0 = .ok (.lload_n 0, 1) := by decide +kernel
theorem dJ_bitCount_1 : decode cJ_bitCount 1 = .ok (.lload_n 0, 1) := by decide +kernel
theorem dJ_bitCount_2 : decode cJ_bitCount 2 = .ok (.iconst 1, 1) := by decide +kernel
theorem dJ_bitCount_3 : decode cJ_bitCount 3 = .ok (.lushr, 1) := by decide +kernel
theorem dJ_bitCount_4 : decode cJ_bitCount 4 = .ok (.ldc2_w 314, 3) := by decide +kernel
theorem dJ_bitCount_7 : decode cJ_bitCount 7 = .ok (.land, 1) := by decide +kernel
theorem dJ_bitCount_8 : decode cJ_bitCount 8 = .ok (.lsub, 1) := by decide +kernel
theorem dJ_bitCount_9 : decode cJ_bitCount 9 = .ok (.lstore_n 0, 1) := by decide +kernel
theorem dJ_bitCount_10 : decode cJ_bitCount 10 = .ok (.lload_n 0, 1) := by decide +kernel
theorem dJ_bitCount_11 : decode cJ_bitCount 11 = .ok (.ldc2_w 316, 3) := by decide +kernel
theorem dJ_bitCount_14 : decode cJ_bitCount 14 = .ok (.land, 1) := by decide +kernel
theorem dJ_bitCount_15 : decode cJ_bitCount 15 = .ok (.lload_n 0, 1) := by decide +kernel
theorem dJ_bitCount_16 : decode cJ_bitCount 16 = .ok (.iconst 2, 1) := by decide +kernel
theorem dJ_bitCount_17 : decode cJ_bitCount 17 = .ok (.lushr, 1) := by decide +kernel
theorem dJ_bitCount_18 : decode cJ_bitCount 18 = .ok (.ldc2_w 316, 3) := by decide +kernel
theorem dJ_bitCount_21 : decode cJ_bitCount 21 = .ok (.land, 1) := by decide +kernel
theorem dJ_bitCount_22 : decode cJ_bitCount 22 = .ok (.ladd, 1) := by decide +kernel
theorem dJ_bitCount_23 : decode cJ_bitCount 23 = .ok (.lstore_n 0, 1) := by decide +kernel
theorem dJ_bitCount_24 : decode cJ_bitCount 24 = .ok (.lload_n 0, 1) := by decide +kernel
theorem dJ_bitCount_25 : decode cJ_bitCount 25 = .ok (.lload_n 0, 1) := by decide +kernel
theorem dJ_bitCount_26 : decode cJ_bitCount 26 = .ok (.iconst 4, 1) := by decide +kernel
theorem dJ_bitCount_27 : decode cJ_bitCount 27 = .ok (.lushr, 1) := by decide +kernel
theorem dJ_bitCount_28 : decode cJ_bitCount 28 = .ok (.ladd, 1) := by decide +kernel
theorem dJ_bitCount_29 : decode cJ_bitCount 29 = .ok (.ldc2_w 318, 3) := by decide +kernel
theorem dJ_bitCount_32 : decode cJ_bitCount 32 = .ok (.land, 1) := by decide +kernel
theorem dJ_bitCount_33 : decode cJ_bitCount 33 = .ok (.lstore_n 0, 1) := by decide +kernel
theorem dJ_bitCount_34 : decode cJ_bitCount 34 = .ok (.lload_n 0, 1) := by decide +kernel
theorem dJ_bitCount_35 : decode cJ_bitCount 35 = .ok (.lload_n 0, 1) := by decide +kernel
theorem dJ_bitCount_36 : decode cJ_bitCount 36 = .ok (.bipush 8, 2) := by decide +kernel
theorem dJ_bitCount_38 : decode cJ_bitCount 38 = .ok (.lushr, 1) := by decide +kernel
theorem dJ_bitCount_39 : decode cJ_bitCount 39 = .ok (.ladd, 1) := by decide +kernel
theorem dJ_bitCount_40 : decode cJ_bitCount 40 = .ok (.lstore_n 0, 1) := by decide +kernel
theorem dJ_bitCount_41 : decode cJ_bitCount 41 = .ok (.lload_n 0, 1) := by decide +kernel
theorem dJ_bitCount_42 : decode cJ_bitCount 42 = .ok (.lload_n 0, 1) := by decide +kernel
theorem dJ_bitCount_43 : decode cJ_bitCount 43 = .ok (.bipush 16, 2) := by decide +kernel
theorem dJ_bitCount_45 : decode cJ_bitCount 45 = .ok (.lushr, 1) := by decide +kernel
theorem dJ_bitCount_46 : decode cJ_bitCount 46 = .ok (.ladd, 1) := by decide +kernel
theorem dJ_bitCount_47 : decode cJ_bitCount 47 = .ok (.lstore_n 0, 1) := by decide +kernel
theorem dJ_bitCount_48 : decode cJ_bitCount 48 = .ok (.lload_n 0, 1) := by decide +kernel
theorem dJ_bitCount_49 : decode cJ_bitCount 49 = .ok (.lload_n 0, 1) := by decide +kernel
theorem dJ_bitCount_50 : decode cJ_bitCount 50 = .ok (.bipush 32, 2) := by decide +kernel
theorem dJ_bitCount_52 : decode cJ_bitCount 52 = .ok (.lushr, 1) := by decide +kernel
theorem dJ_bitCount_53 : decode cJ_bitCount 53 = .ok (.ladd, 1) := by decide +kernel
theorem dJ_bitCount_54 : decode cJ_bitCount 54 = .ok (.lstore_n 0, 1) := by decide +kernel
theorem dJ_bitCount_55 : decode cJ_bitCount 55 = .ok (.lload_n 0, 1) := by decide +kernel
theorem dJ_bitCount_56 : decode cJ_bitCount 56 = .ok (.l2i, 1) := by decide +kernel
theorem dJ_bitCount_57 : decode cJ_bitCount 57 = .ok (.bipush 127, 2) := by decide +kernel
theorem dJ_bitCount_59 : decode cJ_bitCount 59 = .ok (.iand, 1) := by decide +kernel
theorem dJ_bitCount_60 : decode cJ_bitCount 60 = .ok (.ireturn, 1) := by decide +kernel
theorem p2_2 : ((2 ^ 2 : Nat) : Int) = 4 := by decide +kernel
theorem lZ_andN (a b : Nat) : lZ ((a : Nat) : Int) &&& lZ ((b : Nat) : Int) = lZ ((a &&& b : Nat) : Int) := by
  rw [← lZ_lN, ← lZ_lN, ← lZ_lN]
  apply wb_inj
  show BitVec.ofNat 64 a &&& BitVec.ofNat 64 b = BitVec.ofNat 64 (a &&& b)
  exact BitVec.ofNat_and.symm
theorem lZ_orN (a b : Nat) : lZ ((a : Nat) : Int) ||| lZ ((b : Nat) : Int) = lZ ((a ||| b : Nat) : Int) := by
  rw [← lZ_lN, ← lZ_lN, ← lZ_lN]
  apply wb_inj
  show BitVec.ofNat 64 a ||| BitVec.ofNat 64 b = BitVec.ofNat 64 (a ||| b)
  exact BitVec.ofNat_or.symm
theorem lZ_xorN (a b : Nat) : lZ ((a : Nat) : Int) ^^^ lZ ((b : Nat) : Int) = lZ ((a ^^^ b : Nat) : Int) := by
  rw [← lZ_lN, ← lZ_lN, ← lZ_lN]
  apply wb_inj
  show BitVec.ofNat 64 a ^^^ BitVec.ofNat 64 b = BitVec.ofNat 64 (a ^^^ b)
  exact BitVec.ofNat_xor.symm
theorem zn_land {p : Program} {l : Launch} {e : Env} {R : Room} {s : State} {m : MethodId} {args : Array Value} {below : List Frame} {meth : Method} {c : Code} {H : Heap} {locs : List Loc} {cells slots : Nat} {Q : State → Prop} {cc : ByteArray} {pc : Nat} {ls : Array Slot} {rest : List Value} (hx : p.tables.exec = Jvm.exec) (hb : c.code = cc) {a b : Nat} (hd : decode cc pc = .ok (.land, 1)) (k : W p l e R s m args below meth c H locs cells slots Q (F0 m (pc + 1) ls (.long (lZ ((a &&& b : Nat) : Int)) :: rest))) : W p l e R s m args below meth c H locs cells slots Q (F0 m pc ls (.long (lZ ((b : Nat) : Int)) :: .long (lZ ((a : Nat) : Int)) :: rest)) := lv_land hx hb hd (by rw [lZ_andN]; exact k)
theorem zn_lor {p : Program} {l : Launch} {e : Env} {R : Room} {s : State} {m : MethodId} {args : Array Value} {below : List Frame} {meth : Method} {c : Code} {H : Heap} {locs : List Loc} {cells slots : Nat} {Q : State → Prop} {cc : ByteArray} {pc : Nat} {ls : Array Slot} {rest : List Value} (hx : p.tables.exec = Jvm.exec) (hb : c.code = cc) {a b : Nat} (hd : decode cc pc = .ok (.lor, 1)) (k : W p l e R s m args below meth c H locs cells slots Q (F0 m (pc + 1) ls (.long (lZ ((a ||| b : Nat) : Int)) :: rest))) : W p l e R s m args below meth c H locs cells slots Q (F0 m pc ls (.long (lZ ((b : Nat) : Int)) :: .long (lZ ((a : Nat) : Int)) :: rest)) := lv_lor hx hb hd (by rw [lZ_orN]; exact k)
theorem zn_lxor {p : Program} {l : Launch} {e : Env} {R : Room} {s : State} {m : MethodId} {args : Array Value} {below : List Frame} {meth : Method} {c : Code} {H : Heap} {locs : List Loc} {cells slots : Nat} {Q : State → Prop} {cc : ByteArray} {pc : Nat} {ls : Array Slot} {rest : List Value} (hx : p.tables.exec = Jvm.exec) (hb : c.code = cc) {a b : Nat} (hd : decode cc pc = .ok (.lxor, 1)) (k : W p l e R s m args below meth c H locs cells slots Q (F0 m (pc + 1) ls (.long (lZ ((a ^^^ b : Nat) : Int)) :: rest))) : W p l e R s m args below meth c H locs cells slots Q (F0 m pc ls (.long (lZ ((b : Nat) : Int)) :: .long (lZ ((a : Nat) : Int)) :: rest)) := lv_lxor hx hb hd (by rw [lZ_xorN]; exact k)
set_option maxHeartbeats 4000000 in
set_option maxRecDepth 100000 in
theorem mJ_bitCount (l : Launch) (E : zE) (B : Nat) (v0 : Nat → zV) (o : Nat → va_E) (x : Nat) (hx28 : x < 268435456) :
    Met l yJ_bitCount (zws yJ_bitCount cJ_bitCount 2 (some .int)) { frames := 0, cells := 0, slots := 0, locals := 0 } (zPc E (zD E B v0 o) [.long (lZ (↑x))]) (va_Qi (fun (r : Int32) (v : Nat → zV) => v = v0 ∧ r = iZ ↑(pb x 28)) (fun v t => zD E B v o t.heap ∧ zK E t) (zA B 80)) 0 0 (zA B 80) := by
  refine zof_i (by decide) (Nat.le_of_ble_eq_true rfl) fun p e R s m args below meth c Q ls hR hx hb hml ht hown hK hZ hl hend => ?_
  have hS : va_S (zA B 80) s.heap s.heap [] := va_S.rf
  have hown : s.vm.findClass "java/lang/Long" = some m.cls := hown
  have hl : lv_has ls 2 [(0, .long (lZ (↑x)))] := hl
  refine lv_lload_n hx hb dJ_bitCount_0 rfl (lv_at hl 0 rfl) ?_
  refine lv_lload_n hx hb dJ_bitCount_1 rfl (lv_at hl 0 rfl) ?_
  refine lv_iconst (v := iZ (1)) hx hb dJ_bitCount_2 (by decide) ?_
  refine zr_lushr (n := 1) (P := 2) hx hb (by unfold zl; omega) (by omega) (Nat.le_of_ble_eq_true rfl) (p2_1) dJ_bitCount_3 ?_
  refine zc_l (y := lZ (↑(x / 2))) (congrArg lZ (Int.natCast_ediv x 2).symm) ?_
  refine lv_ldc2 (v := lZ (6148914691236517205)) hx hb hown (ht _ tw_595) dJ_bitCount_4 ?_
  refine zn_land hx hb (a := (x / 2)) (b := 6148914691236517205) dJ_bitCount_7 ?_
  refine zr_lsub hx hb dJ_bitCount_8 ?_
  have hle1 : (x / 2 &&& 6148914691236517205) ≤ x / 2 := Nat.and_le_left
  obtain ⟨y, hy⟩ : ∃ q : Nat, q = x - (x / 2 &&& 6148914691236517205) := ⟨_, rfl⟩
  refine zc_l (y := lZ ↑y) (congrArg lZ (by omega)) ?_
  have hy28 : y < 268435456 := by omega
  refine lv_lstore_n (lv' := [(0, .long (lZ (↑y)))]) hx hb dJ_bitCount_9 rfl hl (by decide) rfl (fun ls hl => ?_)
  refine lv_lload_n hx hb dJ_bitCount_10 rfl (lv_at hl 0 rfl) ?_
  refine lv_ldc2 (v := lZ (3689348814741910323)) hx hb hown (ht _ tw_596) dJ_bitCount_11 ?_
  refine zn_land hx hb (a := y) (b := 3689348814741910323) dJ_bitCount_14 ?_
  refine lv_lload_n hx hb dJ_bitCount_15 rfl (lv_at hl 0 rfl) ?_
  refine lv_iconst (v := iZ (2)) hx hb dJ_bitCount_16 (by decide) ?_
  refine zr_lushr (n := 2) (P := 4) hx hb (by unfold zl; omega) (by omega) (Nat.le_of_ble_eq_true rfl) (p2_2) dJ_bitCount_17 ?_
  refine zc_l (y := lZ (↑(y / 4))) (congrArg lZ (Int.natCast_ediv y 4).symm) ?_
  refine lv_ldc2 (v := lZ (3689348814741910323)) hx hb hown (ht _ tw_596) dJ_bitCount_18 ?_
  refine zn_land hx hb (a := (y / 4)) (b := 3689348814741910323) dJ_bitCount_21 ?_
  refine zr_ladd hx hb dJ_bitCount_22 ?_
  obtain ⟨z, hz⟩ : ∃ q : Nat, q = (y &&& 3689348814741910323) + (y / 4 &&& 3689348814741910323) := ⟨_, rfl⟩
  obtain ⟨w, hw⟩ : ∃ q : Nat, q = (z + z / 16 &&& 1085102592571150095) := ⟨_, rfl⟩
  obtain ⟨w1, hw1⟩ : ∃ q : Nat, q = w + w / 256 := ⟨_, rfl⟩
  obtain ⟨w2, hw2⟩ : ∃ q : Nat, q = w1 + w1 / 65536 := ⟨_, rfl⟩
  obtain ⟨w3, hw3⟩ : ∃ q : Nat, q = w2 + w2 / 4294967296 := ⟨_, rfl⟩
  obtain ⟨hz28, hw28, hfin⟩ := swar hx28 hy hz hw hw1 hw2 hw3
  refine zc_l (y := lZ ↑z) (congrArg lZ (by omega)) ?_
  clear hy hz
  refine lv_lstore_n (lv' := [(0, .long (lZ (↑z)))]) hx hb dJ_bitCount_23 rfl hl (by decide) rfl (fun ls hl => ?_)
  refine lv_lload_n hx hb dJ_bitCount_24 rfl (lv_at hl 0 rfl) ?_
  refine lv_lload_n hx hb dJ_bitCount_25 rfl (lv_at hl 0 rfl) ?_
  refine lv_iconst (v := iZ (4)) hx hb dJ_bitCount_26 (by decide) ?_
  refine zr_lushr (n := 4) (P := 16) hx hb (by unfold zl; omega) (by omega) (Nat.le_of_ble_eq_true rfl) (p2_4) dJ_bitCount_27 ?_
  refine zr_ladd hx hb dJ_bitCount_28 ?_
  refine zc_l (y := lZ (↑(z + z / 16))) (congrArg lZ (by omega)) ?_
  refine lv_ldc2 (v := lZ (1085102592571150095)) hx hb hown (ht _ tw_597) dJ_bitCount_29 ?_
  refine zn_land hx hb (a := (z + z / 16)) (b := 1085102592571150095) dJ_bitCount_32 ?_
  rw [← hw]
  clear hw
  refine lv_lstore_n (lv' := [(0, .long (lZ (↑w)))]) hx hb dJ_bitCount_33 rfl hl (by decide) rfl (fun ls hl => ?_)
  refine lv_lload_n hx hb dJ_bitCount_34 rfl (lv_at hl 0 rfl) ?_
  refine lv_lload_n hx hb dJ_bitCount_35 rfl (lv_at hl 0 rfl) ?_
  refine lv_bipush (v := iZ (8)) hx hb dJ_bitCount_36 (by decide) ?_
  refine zr_lushr (n := 8) (P := 256) hx hb (by unfold zl; omega) (by omega) (Nat.le_of_ble_eq_true rfl) (p2_8) dJ_bitCount_38 ?_
  refine zr_ladd hx hb dJ_bitCount_39 ?_
  refine zc_l (y := lZ ↑w1) (congrArg lZ (by omega)) ?_
  refine lv_lstore_n (lv' := [(0, .long (lZ (↑w1)))]) hx hb dJ_bitCount_40 rfl hl (by decide) rfl (fun ls hl => ?_)
  refine lv_lload_n hx hb dJ_bitCount_41 rfl (lv_at hl 0 rfl) ?_
  refine lv_lload_n hx hb dJ_bitCount_42 rfl (lv_at hl 0 rfl) ?_
  refine lv_bipush (v := iZ (16)) hx hb dJ_bitCount_43 (by decide) ?_
  refine zr_lushr (n := 16) (P := 65536) hx hb (by unfold zl; omega) (by omega) (Nat.le_of_ble_eq_true rfl) (p2_16) dJ_bitCount_45 ?_
  refine zr_ladd hx hb dJ_bitCount_46 ?_
  refine zc_l (y := lZ ↑w2) (congrArg lZ (by omega)) ?_
  refine lv_lstore_n (lv' := [(0, .long (lZ (↑w2)))]) hx hb dJ_bitCount_47 rfl hl (by decide) rfl (fun ls hl => ?_)
  refine lv_lload_n hx hb dJ_bitCount_48 rfl (lv_at hl 0 rfl) ?_
  refine lv_lload_n hx hb dJ_bitCount_49 rfl (lv_at hl 0 rfl) ?_
  refine lv_bipush (v := iZ (32)) hx hb dJ_bitCount_50 (by decide) ?_
  refine zr_lushr (n := 32) (P := 4294967296) hx hb (by unfold zl; omega) (by omega) (Nat.le_of_ble_eq_true rfl) (p2_32) dJ_bitCount_52 ?_
  refine zr_ladd hx hb dJ_bitCount_53 ?_
  refine zc_l (y := lZ ↑w3) (congrArg lZ (by omega)) ?_
  refine lv_lstore_n (lv' := [(0, .long (lZ (↑w3)))]) hx hb dJ_bitCount_54 rfl hl (by decide) rfl (fun ls hl => ?_)
  refine lv_lload_n hx hb dJ_bitCount_55 rfl (lv_at hl 0 rfl) ?_
  refine zr_l2i hx hb dJ_bitCount_56 ?_
  refine lv_bipush (v := iZ (127)) hx hb dJ_bitCount_57 (by decide) ?_
  refine zr_iand hx hb 7 (by omega) rfl dJ_bitCount_59 ?_
  rw [show (2 : Nat) ^ 7 = 128 from rfl, hfin]
  exact hend 60 (_) v0 _ _ _ dJ_bitCount_60 (⟨rfl, rfl⟩) hZ hS

theorem zn_lneg_and {x : Nat} (h0 : x ≠ 0) (hx : x < 268435456) {t : Nat} (ht : lo1 x t) : lZ ((x : Nat) : Int) &&& lZ (-((x : Nat) : Int)) = lZ ((2 ^ t : Nat) : Int) := by
  rw [show lZ (-((x : Nat) : Int)) = lZ ((18446744073709551616 - x : Nat) : Int) from lZ_congr (by omega), lZ_andN, lo1_and ht hx]
theorem lo1_wv {d : Nat → Nat} (hd : ∀ i, d i < 268435456) {n i t : Nat} (hi : i < n) (hz : ∀ j, j < i → d j = 0) (h : lo1 (d i) t) : lo1 (wv d n) (28 * i + t) := by
  have h1 := wv_digit hd hi
  have ht := lo1_le (k := 28) h (hd i)
  have h0 : wv d n % wP i = 0 := by
    obtain ⟨k, rfl⟩ : ∃ k, n = i + k := ⟨n - i, by omega⟩
    rw [wv_mod hd]
    have hz9 : ∀ q, q ≤ i → wv d q = 0 := by
      intro q
      induction q with
      | zero => intro _; rfl
      | succ q ih => intro hq; show wv d q + d q * wP q = 0; rw [ih (by omega), hz q (by omega), Nat.zero_mul]
    exact hz9 i (Nat.le_refl i)
  obtain ⟨q, hq⟩ := h
  have e1 := Nat.div_add_mod (wv d n) (wP i)
  rw [h0, Nat.add_zero] at e1
  have e2 := Nat.div_add_mod (wv d n / wP i) 268435456
  rw [h1, hq] at e2
  have e3 : (268435456 : Nat) = 2 ^ t * (2 * 2 ^ (27 - t)) := by rw [← Nat.pow_succ', ← Nat.pow_add, show t + (27 - t + 1) = 28 by omega]
  generalize wv d n / wP i / 268435456 = Z at e2
  refine ⟨2 ^ (27 - t) * Z + q, ?_⟩
  rw [← e1, ← e2, wP_two, Nat.pow_add, Nat.mul_assoc]
  congr 1
  rw [e3]
  clear e1 e2 h1 h0 hq ht hz hd e3
  generalize 2 ^ (27 - t) = A
  generalize 2 ^ t = T
  rw [Nat.mul_assoc, ← Nat.mul_add, Nat.mul_assoc, Nat.mul_add 2, Nat.add_assoc]
set_option maxHeartbeats 4000000 in
set_option maxRecDepth 100000 in
theorem mW_lowestOne (l : Launch) (E : zE) (B : Nat) (v0 : Nat → zV) (o : Nat → va_E) (k : Nat) (hk : lp k = true) (d : Nat → Nat) (n : Nat) (b : Bool) (ev : v0 k = (d, n, b)) :
    Met l yW_lowestOne (zws yW_lowestOne cW_lowestOne 2 (some .int)) { frames := 1, cells := 0, slots := 0, locals := 21 } (zPc E (zD E B v0 o) [.ref (B + k)]) (va_Qi (fun (r : Int32) (v : Nat → zV) => v = v0 ∧ ((∀ i, i < n → d i = 0) → r = iZ (-1)) ∧ ((∃ i, i < n ∧ d i ≠ 0) → ∃ t : Nat, r = iZ ↑t ∧ lo1 (wv d n) t)) (fun v t => zD E B v o t.heap ∧ zK E t) (zA B 80)) 0 0 (zA B 80) := by
  refine zof_i (by decide) (Nat.le_of_ble_eq_true rfl) fun p e R s m args below meth c Q ls hR hx hb hml ht hown hK hZ hl hend => ?_
  have hS : va_S (zA B 80) s.heap s.heap [] := va_S.rf
  have hown : s.vm.findClass "WholeDesk$Whole" = some m.cls := hown
  have hl : lv_has ls 2 [(0, .ref (B + k))] := hl
  have hd : ∀ i, d i < 268435456 := by have := (hZ.2 k hk).1; rw [ev] at this; exact this
  have hn : n ≤ 152 := by have := (hZ.2 k hk).2; rw [ev] at this; exact this
  refine lv_iconst (v := iZ (0)) hx hb dW_lowestOne_0 (by decide) ?_
  refine lv_istore_n (lv' := [(1, .int (iZ (0))), (0, .ref (B + k))]) hx hb dW_lowestOne_1 rfl hl (by decide) rfl (fun ls hl => ?_)
  have L2 : ∀ (fu : Nat) (i : Nat) (H : Heap) (locs : List Loc) (ls : Array Slot), n - i < fu → (i ≤ n) → (∀ j, j < i → d j = 0) → zD E B v0 o H → va_S (zA B 80) s.heap H locs → lv_has ls 2 [(0, .ref (B + k)), (1, .int (iZ (↑i)))] → W p l e R s m args below meth c H locs 0 0 Q (F0 m 2 ls []) := by
    intro fu
    induction fu with
    | zero => intro i H locs ls hm; exact absurd hm (Nat.not_lt_zero _)
    | succ fu ihL2 =>
      intro i H locs ls hm hi hz  hZ hS hl
      refine lv_iload_n hx hb dW_lowestOne_2 rfl (lv_at hl 1 rfl) ?_
      refine lv_aload_n hx hb dW_lowestOne_3 rfl (lv_at hl 0 rfl) ?_
      refine zw_count hx hb ht hown hK hZ hk ev tw_34 dW_lowestOne_4 ?_
      refine zr_icmp_ge (tgt := 52) hx hb (by omega) (by omega) dW_lowestOne_7 (by decide) (fun c_1 => ?_) (fun c_1 => ?_)
      · refine lv_iconst (v := iZ (-1)) hx hb dW_lowestOne_52 (by decide) ?_
        exact hend 53 (_) v0 _ _ _ dW_lowestOne_53 (⟨rfl, fun _ => rfl, fun ⟨j, hj, hj2⟩ => absurd (hz j (by omega)) hj2⟩) hZ hS
      · have hdi := hd i
        refine lv_aload_n hx hb dW_lowestOne_10 rfl (lv_at hl 0 rfl) ?_
        refine zw_limbs hx hb ht hown hK hZ hk ev tw_31 dW_lowestOne_11 ?_
        refine lv_iload_n hx hb dW_lowestOne_14 rfl (lv_at hl 1 rfl) ?_
        refine zw_ld hx hb hK hZ hk ev (by omega) (by omega) dW_lowestOne_15 ?_
        rw [show (↑i : Int).toNat = i from by omega]
        refine lv_lconst (v := lZ (0)) hx hb dW_lowestOne_16 (by decide) ?_
        refine zr_lcmp_eq (tgt := 46) hx hb (by unfold zl; omega) (by unfold zl; omega) dW_lowestOne_17 dW_lowestOne_18 (by decide) (fun c_2 => ?_) (fun c_2 => ?_)
        · have hd0 : d i = 0 := by omega
          refine lv_iinc (v := iZ (↑i + 1)) (lv' := [(1, .int (iZ (↑i + 1))), (0, .ref (B + k))]) hx hb dW_lowestOne_46 hl (k := 1) rfl (iZ_add _ _) (by decide) rfl (fun ls hl => ?_)
          refine lv_goto (tgt := 2) hx hb dW_lowestOne_49 (by decide) ?_
          rw [show (↑i + 1 : Int) = ↑(i + 1) from by omega] at hl
          exact ihL2 (i + 1)  _ _ _ (by omega) (by omega) (fun j hj => by rcases Nat.lt_or_ge j i with h9 | h9; exact hz j h9; rw [show j = i by omega]; exact hd0)  hZ hS (lv_sub hl [1, 0] rfl)
        · have hd0 : d i ≠ 0 := by omega
          obtain ⟨t, ht1⟩ := lo1_ex hd0
          have ht28 := lo1_le (k := 28) ht1 (hd i)
          refine lv_iload_n hx hb dW_lowestOne_21 rfl (lv_at hl 1 rfl) ?_
          refine lv_bipush (v := iZ (28)) hx hb dW_lowestOne_22 (by decide) ?_
          refine zr_imul hx hb dW_lowestOne_24 ?_
          refine lv_aload_n hx hb dW_lowestOne_25 rfl (lv_at hl 0 rfl) ?_
          refine zw_limbs hx hb ht hown hK hZ hk ev tw_31 dW_lowestOne_26 ?_
          refine lv_iload_n hx hb dW_lowestOne_29 rfl (lv_at hl 1 rfl) ?_
          refine zw_ld hx hb hK hZ hk ev (by omega) (by omega) dW_lowestOne_30 ?_
          rw [show (↑i : Int).toNat = i from by omega]
          refine lv_aload_n hx hb dW_lowestOne_31 rfl (lv_at hl 0 rfl) ?_
          refine zw_limbs hx hb ht hown hK hZ hk ev tw_31 dW_lowestOne_32 ?_
          refine lv_iload_n hx hb dW_lowestOne_35 rfl (lv_at hl 1 rfl) ?_
          refine zw_ld hx hb hK hZ hk ev (by omega) (by omega) dW_lowestOne_36 ?_
          rw [show (↑i : Int).toNat = i from by omega]
          refine zr_lneg hx hb dW_lowestOne_37 ?_
          refine lv_land hx hb dW_lowestOne_38 ?_
          rw [zn_lneg_and hd0 (hd i) ht1]
          refine lv_lconst (v := lZ (1)) hx hb dW_lowestOne_39 (by decide) ?_
          refine zr_lsub hx hb dW_lowestOne_40 ?_
          have hpt : 1 ≤ 2 ^ t := Nat.one_le_two_pow
          have hpt2 : 2 ^ t < 268435456 := Nat.pow_lt_pow_right (by decide) ht28
          refine zc_l (y := lZ ((2 ^ t - 1 : Nat) : Int)) (congrArg lZ (by omega)) ?_
          refine zcS_i 1 (As := [.long (lZ (((2 ^ t - 1 : Nat) : Int)))]) (rest := [.int (iZ (↑i * 28))]) ⟨hx, hb, hml, hown, ht⟩ (mJ_bitCount l E B v0 o (2 ^ t - 1) (by omega)) tw_594 tw_592 tw_593 tw_15 qJ_bitCount (by rw [hR]; decide) hZ hK hl.1 rfl rfl (Nat.le_of_ble_eq_true rfl) dW_lowestOne_41 ⟨Nat.zero_le _, Nat.zero_le _⟩ hS (fun r_3 v1 H locs hp hZ _ hS => ?_)
          obtain ⟨hv1, hr1⟩ := hp
          rw [hv1] at hZ
          subst hr1
          clear hv1 v1
          rw [pb_ones t (by omega)]
          refine zr_iadd hx hb dW_lowestOne_44 ?_
          refine zc_i (y := iZ (↑(28 * i + t))) (congrArg iZ (by omega)) ?_
          exact hend 45 (_) v0 _ _ _ dW_lowestOne_45 (⟨rfl, fun h9 => absurd (h9 i (by omega)) hd0, fun _ => ⟨28 * i + t, rfl, lo1_wv hd (by omega) hz ht1⟩⟩) hZ hS
  exact L2 _ 0  _ _ _ (Nat.lt_succ_self _) (Nat.zero_le _) (fun j hj => absurd hj (Nat.not_lt_zero _))  hZ hS (lv_sub hl [1, 0] rfl)
