set_option maxHeartbeats 4000000 in
set_option maxRecDepth 100000 in
theorem mW_bitAt (l : Launch) (E : zE) (B : Nat) (v0 : Nat → zV) (o : Nat → va_E) (k : Nat) (hk : lp k = true) (d : Nat → Nat) (n : Nat) (b : Bool) (ev : v0 k = (d, n, b)) (x : Int) (hN : zN (d, n, b) x) (i : Nat) (hi : i < 2147483648) :
    Met l yW_bitAt (zws yW_bitAt cW_bitAt 3 (some .int)) { frames := 2, cells := 0, slots := 0, locals := 42 } (zPc E (zD E B v0 o) [.ref (B + k), .int (iZ (↑i))]) (va_Qi (fun (r : Int32) (v : Nat → zV) => v = v0 ∧ r = iZ (bZ (tbz x i))) (fun v t => zD E B v o t.heap ∧ zK E t) (zA B 80)) 0 0 (zA B 80) := by
  refine zof_i (by decide) (Nat.le_of_ble_eq_true rfl) fun p e R s m args below meth c Q ls hR hx hb hml ht hown hK hZ hl hend => ?_
  have hS : va_S (zA B 80) s.heap s.heap [] := va_S.rf
  have hown : s.vm.findClass "WholeDesk$Whole" = some m.cls := hown
  have hl : lv_has ls 3 [(0, .ref (B + k)), (1, .int (iZ (↑i)))] := hl
  have hd : ∀ i, d i < 268435456 := by have := (hZ.2 k hk).1; rw [ev] at this; exact this
  have hn : n ≤ 152 := by have := (hZ.2 k hk).2; rw [ev] at this; exact this
  have hW : wv d n = x.natAbs := (zN_abs hN).symm
  have hsg : b = true ↔ x < 0 := zN_neg hN
  refine lv_aload_n hx hb dW_bitAt_0 rfl (lv_at hl 0 rfl) ?_
  refine lv_iload_n hx hb dW_bitAt_1 rfl (lv_at hl 1 rfl) ?_
  refine lv_bipush (v := iZ (28)) hx hb dW_bitAt_2 (by decide) ?_
  refine zr_idiv hx hb (by unfold zi; omega) (by unfold zi; omega) (by omega) (by omega) dW_bitAt_4 ?_
  refine zc_i (y := iZ (↑(i / 28))) (congrArg iZ (by omega)) ?_
  refine zcV_l 1 (As := [.int (iZ (↑(i / 28)))]) (rest := []) rfl ⟨hx, hb, hml, hown, ht⟩ (mW_limb l E B v0 o k hk d n b ev (↑(i / 28)) (by unfold zi; omega)) tw_322 tw_319 tw_320 tw_321 tw_2 qW_limb (by rw [hR]; decide) (zW_recv hK hZ hk) hZ hK hl.1 rfl rfl (Nat.le_of_ble_eq_true rfl) dW_bitAt_5 ⟨Nat.zero_le _, Nat.zero_le _⟩ hS (fun r_1 v1 H locs hp hZ _ hS => ?_)
  obtain ⟨hv1, hr1⟩ := hp
  rw [hv1] at hZ
  subst hr1
  clear hv1 v1
  refine lv_iload_n hx hb dW_bitAt_8 rfl (lv_at hl 1 rfl) ?_
  refine lv_bipush (v := iZ (28)) hx hb dW_bitAt_9 (by decide) ?_
  refine zr_irem hx hb (by unfold zi; omega) (by unfold zi; omega) (by omega) (by omega) dW_bitAt_11 ?_
  refine zc_i (y := iZ (↑(i % 28))) (congrArg iZ (by omega)) ?_
  have hlt := wz_lt hd n (↑(i / 28))
  have hbt := wz_bit hd n i
  generalize wz d n ↑(i / 28) = y at hlt hbt ⊢
  refine zr_lushr (n := i % 28) (P := ((2 ^ (i % 28) : Nat) : Int)) hx hb (by unfold zl; omega) (by omega) (by omega) (rfl) dW_bitAt_12 ?_
  refine zc_l (y := lZ (↑(y / 2 ^ (i % 28)))) (congrArg lZ (Int.natCast_ediv _ _).symm) ?_
  refine zr_l2i hx hb dW_bitAt_13 ?_
  refine lv_iconst (v := iZ (1)) hx hb dW_bitAt_14 (by decide) ?_
  have hle9 := Nat.div_le_self y (2 ^ (i % 28))
  refine zr_iand hx hb 1 (by omega) rfl dW_bitAt_15 ?_
  rw [show (2 : Nat) ^ 1 = 2 from rfl, hbt, hW]
  refine zc_i (y := iZ (bZ (x.natAbs.testBit i))) (congrArg iZ (by cases x.natAbs.testBit i <;> rfl)) ?_
  refine lv_istore_n (lv' := [(2, .int (iZ (bZ (x.natAbs.testBit i)))), (0, .ref (B + k)), (1, .int (iZ (↑i)))]) hx hb dW_bitAt_16 rfl hl (by decide) rfl (fun ls hl => ?_)
  refine lv_aload_n hx hb dW_bitAt_17 rfl (lv_at hl 1 rfl) ?_
  refine zw_below hx hb ht hown hK hZ hk ev tw_39 dW_bitAt_18 ?_
  refine zr_if_eq (tgt := 38) hx hb (by have := bZ_01 b; omega) dW_bitAt_21 (by decide) (fun c_2 => ?_) (fun c_2 => ?_)
  · refine lv_iload_n hx hb dW_bitAt_38 rfl (lv_at hl 0 rfl) ?_
    have hx0 : ¬ x < 0 := fun h9 => absurd (hsg.mpr h9) (by rw [show b = false from bZ_f.mp (by assumption)]; decide)
    refine zc_i (y := iZ (bZ (tbz x i))) (congrArg iZ (by rw [tbz_pos hx0, zu_pos hx0])) ?_
    exact hend 39 (_) v0 _ _ _ dW_bitAt_39 (⟨rfl, rfl⟩) hZ hS
  · have hx0 : x < 0 := hsg.mp (bZ_nf.mp (by assumption))
    refine lv_iload_n hx hb dW_bitAt_24 rfl (lv_at hl 2 rfl) ?_
    refine lv_aload_n hx hb dW_bitAt_25 rfl (lv_at hl 1 rfl) ?_
    refine zcV_i 0 (As := []) (rest := [.int (iZ (↑i))]) rfl ⟨hx, hb, hml, hown, ht⟩ (mW_lowestOne l E B v0 o k hk d n b ev) tw_591 tw_611 tw_589 tw_590 tw_2 qW_lowestOne (by rw [hR]; decide) (zW_recv hK hZ hk) hZ hK hl.1 rfl rfl (Nat.le_of_ble_eq_true rfl) dW_bitAt_26 ⟨Nat.zero_le _, Nat.zero_le _⟩ hS (fun r_3 v1 H locs hp hZ _ hS => ?_)
    obtain ⟨hv1, hr0, hr1⟩ := hp
    rw [hv1] at hZ
    obtain ⟨t, hr2, ht1⟩ := hr1 (zN_some hN (by omega))
    subst hr2
    clear hv1 hr0 hr1 v1
    rw [hW] at ht1
    have ht9 := lo1_le (k := 28 * n) ht1 (by rw [← hW, ← wP_two]; exact wv_lt hd n)
    refine zr_icmp_le (tgt := 38) hx hb (by unfold zi; omega) (by unfold zi; omega) dW_bitAt_29 (by decide) (fun c_4 => ?_) (fun c_4 => ?_)
    · refine lv_iload_n hx hb dW_bitAt_38 rfl (lv_at hl 0 rfl) ?_
      refine zc_i (y := iZ (bZ (tbz x i))) (congrArg iZ (by rw [tbz_lo hx0 ht1, if_pos (by omega)])) ?_
      exact hend 39 (_) v0 _ _ _ dW_bitAt_39 (⟨rfl, rfl⟩) hZ hS
    · refine lv_iconst (v := iZ (1)) hx hb dW_bitAt_32 (by decide) ?_
      refine lv_iload_n hx hb dW_bitAt_33 rfl (lv_at hl 0 rfl) ?_
      refine zr_isub hx hb dW_bitAt_34 ?_
      refine lv_goto (tgt := 39) hx hb dW_bitAt_35 (by decide) ?_
      refine zc_i (y := iZ (bZ (tbz x i))) (congrArg iZ (by rw [tbz_lo hx0 ht1, if_neg (by omega)]; cases x.natAbs.testBit i <;> rfl)) ?_
      exact hend 39 (_) v0 _ _ _ dW_bitAt_39 (⟨rfl, rfl⟩) hZ hS

set_option maxHeartbeats 4000000 in
set_option maxRecDepth 100000 in
theorem mW_length (l : Launch) (E : zE) (B : Nat) (v0 : Nat → zV) (o : Nat → va_E) (k : Nat) (hk : lp k = true) (d : Nat → Nat) (n : Nat) (b : Bool) (ev : v0 k = (d, n, b)) (x : Int) (hN : zN (d, n, b) x) :
    Met l yW_length (zws yW_length cW_length 2 (some .int)) { frames := 2, cells := 0, slots := 0, locals := 52 } (zPc E (zD E B v0 o) [.ref (B + k)]) (va_Qi (fun (r : Int32) (v : Nat → zV) => v = v0 ∧ ∃ q : Nat, r = iZ ↑q ∧ bl (zu x) q) (fun v t => zD E B v o t.heap ∧ zK E t) (zA B 80)) 0 0 (zA B 80) := by
  refine zof_i (by decide) (Nat.le_of_ble_eq_true rfl) fun p e R s m args below meth c Q ls hR hx hb hml ht hown hK hZ hl hend => ?_
  have hS : va_S (zA B 80) s.heap s.heap [] := va_S.rf
  have hown : s.vm.findClass "WholeDesk$Whole" = some m.cls := hown
  have hl : lv_has ls 2 [(0, .ref (B + k))] := hl
  have hd : ∀ i, d i < 268435456 := by have := (hZ.2 k hk).1; rw [ev] at this; exact this
  have hn : n ≤ 152 := by have := (hZ.2 k hk).2; rw [ev] at this; exact this
  have hW : wv d n = x.natAbs := (zN_abs hN).symm
  have hsg : b = true ↔ x < 0 := zN_neg hN
  refine lv_aload_n hx hb dW_length_0 rfl (lv_at hl 0 rfl) ?_
  refine zcV_i 0 (As := []) (rest := []) rfl ⟨hx, hb, hml, hown, ht⟩ (mW_bits l E B v0 o k hk d n b ev) tw_318 tw_639 tw_316 tw_317 tw_2 qW_bits (by rw [hR]; decide) (zW_recv hK hZ hk) hZ hK hl.1 rfl rfl (Nat.le_of_ble_eq_true rfl) dW_length_1 ⟨Nat.zero_le _, Nat.zero_le _⟩ hS (fun r_1 v1 H locs hp hZ _ hS => ?_)
  obtain ⟨hv1, q, hr1, hq8, hq9⟩ := hp
  rw [hv1] at hZ
  subst hr1
  clear hv1 v1
  have hbl : bl x.natAbs q := zN_bl (w := (d, n, b)) hd hN hq8 hq9
  have hq10 : q ≤ 28 * n := (bl_le hbl).mpr (by rw [← hW, ← wP_two]; exact wv_lt hd n)
  refine lv_istore_n (lv' := [(1, .int (iZ (↑q))), (0, .ref (B + k))]) hx hb dW_length_4 rfl hl (by decide) rfl (fun ls hl => ?_)
  refine lv_aload_n hx hb dW_length_5 rfl (lv_at hl 1 rfl) ?_
  refine zw_below hx hb ht hown hK hZ hk ev tw_39 dW_length_6 ?_
  refine zr_if_eq (tgt := 28) hx hb (by have := bZ_01 b; omega) dW_length_9 (by decide) (fun c_2 => ?_) (fun c_2 => ?_)
  · refine lv_iload_n hx hb dW_length_28 rfl (lv_at hl 0 rfl) ?_
    have hx0 : ¬ x < 0 := fun h9 => absurd (hsg.mpr h9) (by rw [show b = false from bZ_f.mp (by assumption)]; decide)
    exact hend 29 (_) v0 _ _ _ dW_length_29 (⟨rfl, q, rfl, by rw [zu_pos hx0]; exact hbl⟩) hZ hS
  · have hx0 : x < 0 := hsg.mp (bZ_nf.mp (by assumption))
    refine lv_aload_n hx hb dW_length_12 rfl (lv_at hl 1 rfl) ?_
    refine zcV_i 0 (As := []) (rest := []) rfl ⟨hx, hb, hml, hown, ht⟩ (mW_lowestOne l E B v0 o k hk d n b ev) tw_591 tw_611 tw_589 tw_590 tw_2 qW_lowestOne (by rw [hR]; decide) (zW_recv hK hZ hk) hZ hK hl.1 rfl rfl (Nat.le_of_ble_eq_true rfl) dW_length_13 ⟨Nat.zero_le _, Nat.zero_le _⟩ hS (fun r_3 v1 H locs hp hZ _ hS => ?_)
    obtain ⟨hv1, hr0, hr1⟩ := hp
    rw [hv1] at hZ
    obtain ⟨t, hr2, ht1⟩ := hr1 (zN_some hN (by omega))
    subst hr2
    clear hv1 hr0 hr1 v1
    rw [hW] at ht1
    have ht9 := lo1_le (k := 28 * n) ht1 (by rw [← hW, ← wP_two]; exact wv_lt hd n)
    have hbd := bl_dec ht1 hbl
    refine lv_iload_n hx hb dW_length_16 rfl (lv_at hl 0 rfl) ?_
    refine lv_iconst (v := iZ (1)) hx hb dW_length_17 (by decide) ?_
    refine zr_isub hx hb dW_length_18 ?_
    refine zr_icmp_ne (tgt := 28) hx hb (by unfold zi; omega) (by unfold zi; omega) dW_length_19 (by decide) (fun c_4 => ?_) (fun c_4 => ?_)
    · refine lv_iload_n hx hb dW_length_28 rfl (lv_at hl 0 rfl) ?_
      exact hend 29 (_) v0 _ _ _ dW_length_29 (⟨rfl, q, rfl, by rw [zu_neg hx0]; rw [if_neg (by omega)] at hbd; exact hbd⟩) hZ hS
    · rw [if_pos (by omega)] at hbd
      have hq0 : q ≠ 0 := by intro h9; have := hbl.1; rw [h9] at this; omega
      refine lv_iload_n hx hb dW_length_22 rfl (lv_at hl 0 rfl) ?_
      refine lv_iconst (v := iZ (1)) hx hb dW_length_23 (by decide) ?_
      refine zr_isub hx hb dW_length_24 ?_
      refine zc_i (y := iZ (↑(q - 1))) (congrArg iZ (by omega)) ?_
      refine lv_goto (tgt := 29) hx hb dW_length_25 (by decide) ?_
      exact hend 29 (_) v0 _ _ _ dW_length_29 (⟨rfl, q - 1, rfl, by rw [zu_neg hx0]; exact hbd⟩) hZ hS

set_option maxHeartbeats 4000000 in
set_option maxRecDepth 100000 in
theorem mW_unlikeBits (l : Launch) (E : zE) (B : Nat) (v0 : Nat → zV) (o : Nat → va_E) (k : Nat) (hk : lp k = true) (d : Nat → Nat) (n : Nat) (b : Bool) (ev : v0 k = (d, n, b)) (x : Int) (hN : zN (d, n, b) x) (hX : zX x) :
    Met l yW_unlikeBits (zws yW_unlikeBits cW_unlikeBits 3 (some .int)) { frames := 2, cells := 0, slots := 0, locals := 42 } (zPc E (zD E B v0 o) [.ref (B + k)]) (va_Qi (fun (r : Int32) (v : Nat → zV) => v = v0 ∧ r = iZ ↑(pb (zu x) 2048)) (fun v t => zD E B v o t.heap ∧ zK E t) (zA B 80)) 0 0 (zA B 80) := by
  refine zof_i (by decide) (Nat.le_of_ble_eq_true rfl) fun p e R s m args below meth c Q ls hR hx hb hml ht hown hK hZ hl hend => ?_
  have hS : va_S (zA B 80) s.heap s.heap [] := va_S.rf
  have hown : s.vm.findClass "WholeDesk$Whole" = some m.cls := hown
  have hl : lv_has ls 3 [(0, .ref (B + k))] := hl
  have hd : ∀ i, d i < 268435456 := by have := (hZ.2 k hk).1; rw [ev] at this; exact this
  have hn : n ≤ 152 := by have := (hZ.2 k hk).2; rw [ev] at this; exact this
  have hW : wv d n = x.natAbs := (zN_abs hN).symm
  have hsg : b = true ↔ x < 0 := zN_neg hN
  refine lv_iconst (v := iZ (0)) hx hb dW_unlikeBits_0 (by decide) ?_
  refine lv_istore_n (lv' := [(1, .int (iZ (0))), (0, .ref (B + k))]) hx hb dW_unlikeBits_1 rfl hl (by decide) rfl (fun ls hl => ?_)
  refine lv_iconst (v := iZ (0)) hx hb dW_unlikeBits_2 (by decide) ?_
  refine lv_istore_n (lv' := [(2, .int (iZ (0))), (1, .int (iZ (0))), (0, .ref (B + k))]) hx hb dW_unlikeBits_3 rfl hl (by decide) rfl (fun ls hl => ?_)
  have L4 : ∀ (fu : Nat) (i : Nat) (H : Heap) (locs : List Loc) (ls : Array Slot), n - i < fu → (i ≤ n) → zD E B v0 o H → va_S (zA B 80) s.heap H locs → lv_has ls 3 [(0, .ref (B + k)), (1, .int (iZ (↑(pb (wv d i) (28 * i))))), (2, .int (iZ (↑i)))] → W p l e R s m args below meth c H locs 0 0 Q (F0 m 4 ls []) := by
    intro fu
    induction fu with
    | zero => intro i H locs ls hm; exact absurd hm (Nat.not_lt_zero _)
    | succ fu ihL4 =>
      intro i H locs ls hm hi  hZ hS hl
      refine lv_iload_n hx hb dW_unlikeBits_4 rfl (lv_at hl 2 rfl) ?_
      refine lv_aload_n hx hb dW_unlikeBits_5 rfl (lv_at hl 0 rfl) ?_
      refine zw_count hx hb ht hown hK hZ hk ev tw_34 dW_unlikeBits_6 ?_
      refine zr_icmp_ge (tgt := 30) hx hb (by omega) (by omega) dW_unlikeBits_9 (by decide) (fun c_1 => ?_) (fun c_1 => ?_)
      · have hin : n = i := by omega
        subst hin
        rw [hW] at hl
        have hWl := wv_lt hd n
        rw [hW, wP_two] at hWl
        refine lv_aload_n hx hb dW_unlikeBits_30 rfl (lv_at hl 0 rfl) ?_
        refine zw_below hx hb ht hown hK hZ hk ev tw_39 dW_unlikeBits_31 ?_
        refine zr_if_eq (tgt := 48) hx hb (by have := bZ_01 b; omega) dW_unlikeBits_34 (by decide) (fun c_2 => ?_) (fun c_2 => ?_)
        · refine lv_iload_n hx hb dW_unlikeBits_48 rfl (lv_at hl 1 rfl) ?_
          have hx0 : ¬ x < 0 := fun h9 => absurd (hsg.mpr h9) (by rw [show b = false from bZ_f.mp (by assumption)]; decide)
          refine zc_i (y := iZ ↑(pb (zu x) 2048)) (congrArg iZ (by rw [zu_pos hx0, pb_eq (n := 2048) (m := 28 * n) hX hWl])) ?_
          exact hend 49 (_) v0 _ _ _ dW_unlikeBits_49 (⟨rfl, rfl⟩) hZ hS
        · have hx0 : x < 0 := hsg.mp (bZ_nf.mp (by assumption))
          refine lv_iload_n hx hb dW_unlikeBits_37 rfl (lv_at hl 1 rfl) ?_
          refine lv_iconst (v := iZ (1)) hx hb dW_unlikeBits_38 (by decide) ?_
          refine zr_isub hx hb dW_unlikeBits_39 ?_
          refine lv_aload_n hx hb dW_unlikeBits_40 rfl (lv_at hl 0 rfl) ?_
          refine zcV_i 0 (As := []) (rest := [.int (iZ ((↑(pb x.natAbs (28 * n))) - 1))]) rfl ⟨hx, hb, hml, hown, ht⟩ (mW_lowestOne l E B v0 o k hk d n b ev) tw_591 tw_611 tw_589 tw_590 tw_2 qW_lowestOne (by rw [hR]; decide) (zW_recv hK hZ hk) hZ hK hl.1 rfl rfl (Nat.le_of_ble_eq_true rfl) dW_unlikeBits_41 ⟨Nat.zero_le _, Nat.zero_le _⟩ hS (fun r_3 v1 H locs hp hZ _ hS => ?_)
          obtain ⟨hv1, hr0, hr1⟩ := hp
          rw [hv1] at hZ
          obtain ⟨t, hr2, ht1⟩ := hr1 (zN_some hN (by omega))
          subst hr2
          clear hv1 hr0 hr1 v1
          rw [hW] at ht1
          have ht9 := lo1_le ht1 hWl
          have hpd := pb_dec ht1 ht9
          refine zr_iadd hx hb dW_unlikeBits_44 ?_
          refine lv_goto (tgt := 49) hx hb dW_unlikeBits_45 (by decide) ?_
          refine zc_i (y := iZ ↑(pb (zu x) 2048)) (congrArg iZ (by rw [pb_eq (n := 2048) (m := 28 * n) (zX_u hX) (by rw [zu_neg hx0]; omega), zu_neg hx0]; omega)) ?_
          exact hend 49 (_) v0 _ _ _ dW_unlikeBits_49 (⟨rfl, rfl⟩) hZ hS
      · have hdi := hd i
        refine lv_iload_n hx hb dW_unlikeBits_12 rfl (lv_at hl 1 rfl) ?_
        refine lv_aload_n hx hb dW_unlikeBits_13 rfl (lv_at hl 0 rfl) ?_
        refine zw_limbs hx hb ht hown hK hZ hk ev tw_31 dW_unlikeBits_14 ?_
        refine lv_iload_n hx hb dW_unlikeBits_17 rfl (lv_at hl 2 rfl) ?_
        refine zw_ld hx hb hK hZ hk ev (by omega) (by omega) dW_unlikeBits_18 ?_
        rw [show (↑i : Int).toNat = i from by omega]
        refine zcS_i 1 (As := [.long (lZ (↑(d i)))]) (rest := [.int (iZ (↑(pb (wv d i) (28 * i))))]) ⟨hx, hb, hml, hown, ht⟩ (mJ_bitCount l E B v0 o (d i) (by omega)) tw_594 tw_592 tw_593 tw_15 qJ_bitCount (by rw [hR]; decide) hZ hK hl.1 rfl rfl (Nat.le_of_ble_eq_true rfl) dW_unlikeBits_19 ⟨Nat.zero_le _, Nat.zero_le _⟩ hS (fun r_4 v1 H locs hp hZ _ hS => ?_)
        obtain ⟨hv1, hr1⟩ := hp
        rw [hv1] at hZ
        subst hr1
        clear hv1 v1
        refine zr_iadd hx hb dW_unlikeBits_22 ?_
        have hpw := pb_wv hd i
        refine lv_istore_n (lv' := [(1, .int (iZ ((↑(pb (wv d i) (28 * i))) + (↑(pb (d i) 28))))), (0, .ref (B + k)), (2, .int (iZ (↑i)))]) hx hb dW_unlikeBits_23 rfl hl (by decide) rfl (fun ls hl => ?_)
        refine lv_iinc (v := iZ (↑i + 1)) (lv' := [(2, .int (iZ (↑i + 1))), (1, .int (iZ ((↑(pb (wv d i) (28 * i))) + (↑(pb (d i) 28))))), (0, .ref (B + k))]) hx hb dW_unlikeBits_24 hl (k := 2) rfl (iZ_add _ _) (by decide) rfl (fun ls hl => ?_)
        refine lv_goto (tgt := 4) hx hb dW_unlikeBits_27 (by decide) ?_
        rw [show (↑i + 1 : Int) = ↑(i + 1) from by omega] at hl
        rw [show ((↑(pb (wv d i) (28 * i))) + (↑(pb (d i) 28)) : Int) = ↑(pb (wv d (i + 1)) (28 * (i + 1))) from by omega] at hl
        exact ihL4 (i + 1)  _ _ _ (by omega) (by omega)  hZ hS (lv_sub hl [2, 1, 0] rfl)
  exact L4 _ 0  _ _ _ (Nat.lt_succ_self _) (Nat.zero_le _)  hZ hS (lv_sub hl [2, 1, 0] rfl)
