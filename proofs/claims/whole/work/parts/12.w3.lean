set_option maxHeartbeats 4000000 in
set_option maxRecDepth 100000 in
theorem mW_scale (l : Launch) (E : zE) (B : Nat) (v0 : Nat → zV) (o : Nat → va_E) (k : Nat) (hk : lp k = true) (d : Nat → Nat) (n : Nat) (b : Bool) (ev : v0 k = (d, n, b)) (f s0 : Nat) (hf : f < 268435456) (hs0 : s0 < 268435456) (hn1 : n + 1 ≤ 152) :
    Met l yW_scale (zws yW_scale cW_scale 10 none) { frames := 2, cells := 0, slots := 0, locals := 64 } (zPc E (zD E B v0 o) [.ref (B + k), .long (lZ (↑f)), .long (lZ (↑s0))]) (va_Qv (fun v : Nat → zV => (∀ j, j ≠ k → v j = v0 j) ∧ zN (v k) (if b = true then -((f * wv d n + s0 : Nat) : Int) else ((f * wv d n + s0 : Nat) : Int))) (fun v t => zD E B v o t.heap ∧ zK E t) (zA B 80)) 0 0 (zA B 80) := by
  refine zof_v (by decide) (Nat.le_of_ble_eq_true rfl) fun p e R s m args below meth c Q ls hR hx hb hml ht hown hK hZ hl hend => ?_
  have hS : va_S (zA B 80) s.heap s.heap [] := va_S.rf
  have hown : s.vm.findClass "WholeDesk$Whole" = some m.cls := hown
  have hl : lv_has ls 10 [(0, .ref (B + k)), (1, .long (lZ (↑f))), (3, .long (lZ (↑s0)))] := hl
  have hn : n ≤ 152 := by have := (hZ.2 k hk).2; rw [ev] at this; exact this
  have hd0 : ∀ i, d i < 268435456 := by have := (hZ.2 k hk).1; rw [ev] at this; exact this
  have fr : ∀ j, j ≠ k → v0 j = v0 j := fun j _ => rfl
  refine lv_aload_n hx hb dW_scale_0 rfl (lv_at hl 0 rfl) ?_
  refine lv_aload_n hx hb dW_scale_1 rfl (lv_at hl 0 rfl) ?_
  refine zw_count hx hb ht hown hK hZ hk ev tw_34 dW_scale_2 ?_
  refine lv_iconst (v := iZ (1)) hx hb dW_scale_5 (by decide) ?_
  refine zr_iadd hx hb dW_scale_6 ?_
  refine zcV_v 1 (As := [.int (iZ (↑n + 1))]) (rest := []) rfl ⟨hx, hb, hml, hown, ht⟩ (mW_stretch l E B v0 o k hk d n b ev (↑n + 1) (by omega)) tw_304 tw_301 tw_302 tw_303 tw_2 qW_stretch (by rw [hR]; decide) (zW_recv hK hZ hk) hZ hK hl.1 rfl rfl (Nat.le_of_ble_eq_true rfl) dW_scale_7 ⟨Nat.zero_le _, Nat.zero_le _⟩ hS (fun  v H locs hp hZ _ hS => ?_)
  obtain ⟨ho, d_2, n_1, ev, hn_1, hd_2lo, hd_2hi⟩ := hp
  have fr : ∀ j, j ≠ k → v j = v0 j := fun j h0 => (ho j h0).trans (fr j h0)
  have hnn : n_1 = n + 1 := by omega
  have hda : ∀ i, d_2 i < 268435456 := by have := (hZ.2 k hk).1; rw [ev] at this; exact this
  refine lv_lload_n hx hb dW_scale_10 rfl (lv_at hl 2 rfl) ?_
  refine lv_lstore (lv' := [(5, .long (lZ (↑s0))), (0, .ref (B + k)), (1, .long (lZ (↑f))), (3, .long (lZ (↑s0)))]) hx hb dW_scale_11 hl (by decide) rfl (fun ls hl => ?_)
  refine lv_iconst (v := iZ (0)) hx hb dW_scale_13 (by decide) ?_
  refine lv_istore (lv' := [(7, .int (iZ (0))), (5, .long (lZ (↑s0))), (0, .ref (B + k)), (1, .long (lZ (↑f))), (3, .long (lZ (↑s0)))]) hx hb dW_scale_14 hl (by decide) rfl (fun ls hl => ?_)
  have L16 : ∀ (fu : Nat) (i : Nat) (d1 : Nat → Nat) (c1 : Nat) (v : Nat → zV) (H : Heap) (locs : List Loc) (ls : Array Slot), n_1 - i < fu → (wv d1 i + c1 * wP i = f * wv d_2 i + s0) → (∀ q, i ≤ q → d1 q = d_2 q) → (c1 ≤ 268435456) → (i ≤ n_1) → v k = (d1, n_1, b) → (∀ j, j ≠ k → v j = v0 j) → zD E B v o H → va_S (zA B 80) s.heap H locs → lv_has ls 10 [(0, .ref (B + k)), (1, .long (lZ (↑f))), (5, .long (lZ (↑c1))), (7, .int (iZ (↑i)))] → W p l e R s m args below meth c H locs 0 0 Q (F0 m 16 ls []) := by
    intro fu
    induction fu with
    | zero => intro i d1 c1 v H locs ls hm; exact absurd hm (Nat.not_lt_zero _)
    | succ fu ihL16 =>
      intro i d1 c1 v H locs ls hm hI hu hc1 hi ev fr hZ hS hl
      refine lv_iload hx hb dW_scale_16 (lv_at hl 3 rfl) ?_
      refine lv_aload_n hx hb dW_scale_18 rfl (lv_at hl 0 rfl) ?_
      refine zw_count hx hb ht hown hK hZ hk ev tw_34 dW_scale_19 ?_
      refine zr_icmp_ge (tgt := 65) hx hb (by omega) (by omega) dW_scale_22 (by decide) (fun c_3 => ?_) (fun c_3 => ?_)
      · have hin : i = n + 1 := by omega
        subst hin
        have hfin := scale_end (d1 := d_2) (d2 := d1) hf hs0 hd0 hd_2lo (hd_2hi n (Nat.le_refl _) (by omega)) hI
        refine lv_aload_n hx hb dW_scale_65 rfl (lv_at hl 0 rfl) ?_
        refine zcV_v 0 (As := []) (rest := []) rfl ⟨hx, hb, hml, hown, ht⟩ (mW_trim l E B v o k hk d1 n_1 b ev) tw_295 tw_292 tw_293 tw_294 tw_2 qW_trim (by rw [hR]; decide) (zW_recv hK hZ hk) hZ hK hl.1 rfl rfl (Nat.le_of_ble_eq_true rfl) dW_scale_66 ⟨Nat.zero_le _, Nat.zero_le _⟩ hS (fun  v H locs hp hZ _ hS => ?_)
        obtain ⟨ho, n_4, ev, hn_4le, hn_4z, hn_4nz⟩ := hp
        have fr : ∀ j, j ≠ k → v j = v0 j := fun j h0 => (ho j h0).trans (fr j h0)
        exact hend 69 v _ _ _ dW_scale_69 (⟨fr, by
          rw [ev]
          have h9 := zN_trim (b := b) hn_4le hn_4z hn_4nz
          rw [hnn, hfin] at h9
          exact h9⟩) hZ hS
      · refine lv_aload_n hx hb dW_scale_25 rfl (lv_at hl 0 rfl) ?_
        refine zw_limbs hx hb ht hown hK hZ hk ev tw_31 dW_scale_26 ?_
        refine lv_iload hx hb dW_scale_29 (lv_at hl 3 rfl) ?_
        refine zw_ld hx hb hK hZ hk ev (by omega) (by omega) dW_scale_31 ?_
        rw [show (↑i : Int).toNat = i from by omega]
        refine zc_l (y := lZ (↑(d_2 i))) (congrArg lZ (by rw [hu _ (Nat.le_refl _)])) ?_
        refine lv_lload_n hx hb dW_scale_32 rfl (lv_at hl 1 rfl) ?_
        refine zr_lmul hx hb dW_scale_33 ?_
        refine lv_lload hx hb dW_scale_34 (lv_at hl 2 rfl) ?_
        refine zr_ladd hx hb dW_scale_36 ?_
        have hmf : d_2 i * f ≤ 268435455 * 268435455 := Nat.mul_le_mul (by have := hda i; omega) (by omega)
        refine zc_l (y := lZ (↑(d_2 i * f + c1))) (congrArg lZ (by rw [Int.natCast_add, Int.natCast_mul])) ?_
        refine lv_lstore (lv' := [(8, .long (lZ (↑(d_2 i * f + c1)))), (0, .ref (B + k)), (1, .long (lZ (↑f))), (5, .long (lZ (↑c1))), (7, .int (iZ (↑i)))]) hx hb dW_scale_37 hl (by decide) rfl (fun ls hl => ?_)
        refine lv_aload_n hx hb dW_scale_39 rfl (lv_at hl 1 rfl) ?_
        refine zw_limbs hx hb ht hown hK hZ hk ev tw_31 dW_scale_40 ?_
        refine lv_iload hx hb dW_scale_43 (lv_at hl 4 rfl) ?_
        refine lv_lload hx hb dW_scale_45 (lv_at hl 0 rfl) ?_
        refine lv_ldc2 (v := lZ (268435455)) hx hb hown (ht _ tw_291) dW_scale_47 ?_
        refine zr_mask (n := 28) (P := 268435456) hx hb (Nat.le_of_ble_eq_true rfl) p2_28 m2_28 dW_scale_50 ?_
        rw [show ((↑(d_2 i * f + c1)) % 268435456 : Int) = (((d_2 i * f + c1) % 268435456 : Nat) : Int) from (Int.natCast_emod _ _).symm]
        refine zw_st (x := (d_2 i * f + c1) % 268435456) hx hb hK hZ hk ev hS (by omega) (by omega) (Nat.mod_lt _ (by decide)) dW_scale_51 (fun v H locs ev ho hZ hS => ?_)
        rw [show (↑i : Int).toNat = i from by omega] at ev
        have fr : ∀ j, j ≠ k → v j = v0 j := fun j h0 => (ho j h0).trans (fr j h0)
        refine lv_lload hx hb dW_scale_52 (lv_at hl 0 rfl) ?_
        refine lv_bipush (v := iZ (28)) hx hb dW_scale_54 (by decide) ?_
        refine zr_lushr (n := 28) (P := 268435456) hx hb (by omega) (by omega) (Nat.le_of_ble_eq_true rfl) (p2_28) dW_scale_56 ?_
        refine zc_l (y := lZ (↑((d_2 i * f + c1) / 268435456))) (congrArg lZ (Int.natCast_ediv _ _).symm) ?_
        refine lv_lstore (lv' := [(5, .long (lZ (↑((d_2 i * f + c1) / 268435456)))), (8, .long (lZ (↑(d_2 i * f + c1)))), (0, .ref (B + k)), (1, .long (lZ (↑f))), (7, .int (iZ (↑i)))]) hx hb dW_scale_57 hl (by decide) rfl (fun ls hl => ?_)
        refine lv_iinc (v := iZ (↑i + 1)) (lv' := [(7, .int (iZ (↑i + 1))), (5, .long (lZ (↑((d_2 i * f + c1) / 268435456)))), (8, .long (lZ (↑(d_2 i * f + c1)))), (0, .ref (B + k)), (1, .long (lZ (↑f)))]) hx hb dW_scale_59 hl (k := 4) rfl (iZ_add _ _) (by decide) rfl (fun ls hl => ?_)
        refine lv_goto (tgt := 16) hx hb dW_scale_62 (by decide) ?_
        exact ihL16 (i + 1) (va_up d1 i ((d_2 i * f + c1) % 268435456)) ((d_2 i * f + c1) / 268435456) v _ _ _ (by omega) (scale_step hI) (fun q hq => by rw [va_up_ne _ _ (by omega)]; exact hu q (by omega)) (by omega) (by omega) ev fr hZ hS (lv_sub hl [3, 4, 1, 0] rfl)
  exact L16 _ 0 d_2 s0 v _ _ _ (Nat.lt_succ_self _) (by show 0 + s0 * 1 = f * 0 + s0; omega) (fun _ _ => rfl) (by omega) (by omega) ev fr hZ hS (lv_sub hl [2, 3, 1, 0] rfl)

theorem xor_mask {a : Nat} (h : a < 268435456) : lZ (a : Int) ^^^ lZ 268435455 = lZ ((268435455 - a : Nat) : Int) := by
  have e : a ^^^ 268435455 = 268435455 - a := by
    have h1 := BitVec.toNat_not (x := BitVec.ofNat 28 a)
    rw [← BitVec.xor_allOnes, BitVec.toNat_xor, BitVec.toNat_allOnes, BitVec.toNat_ofNat, Nat.mod_eq_of_lt h] at h1
    exact h1
  rw [← lZ_lN, show lZ 268435455 = lN 268435455 from (lZ_lN 268435455).symm, ← lZ_lN, ← e]
  apply wb_inj
  rw [Int64.toBitVec_xor, wb_tb, wb_tb, wb_tb]
  apply BitVec.eq_of_toNat_eq
  rw [BitVec.toNat_xor, BitVec.toNat_ofNat, BitVec.toNat_ofNat, BitVec.toNat_ofNat, Nat.mod_eq_of_lt (by omega : a < 2 ^ 64), Nat.mod_eq_of_lt (by decide : 268435455 < 2 ^ 64), Nat.mod_eq_of_lt (by rw [e]; omega)]
set_option maxHeartbeats 4000000 in
set_option maxRecDepth 100000 in
theorem mW_turn (l : Launch) (E : zE) (B : Nat) (v0 : Nat → zV) (o : Nat → va_E) (k : Nat) (hk : lp k = true) (d : Nat → Nat) (n : Nat) (b : Bool) (ev : v0 k = (d, n, b)) :
    Met l yW_turn (zws yW_turn cW_turn 6 none) { frames := 0, cells := 0, slots := 0, locals := 0 } (zPc E (zD E B v0 o) [.ref (B + k)]) (va_Qv (fun v : Nat → zV => (∀ j, j ≠ k → v j = v0 j) ∧ ∃ (d1 : Nat → Nat) (c : Nat), v k = (d1, n, b) ∧ c ≤ 1 ∧ wv d1 n + c * wP n + wv d n = wP n) (fun v t => zD E B v o t.heap ∧ zK E t) (zA B 80)) 0 0 (zA B 80) := by
  refine zof_v (by decide) (Nat.le_of_ble_eq_true rfl) fun p e R s m args below meth c Q ls hR hx hb hml ht hown hK hZ hl hend => ?_
  have hS : va_S (zA B 80) s.heap s.heap [] := va_S.rf
  have hown : s.vm.findClass "WholeDesk$Whole" = some m.cls := hown
  have hl : lv_has ls 6 [(0, .ref (B + k))] := hl
  have hn : n ≤ 152 := by have := (hZ.2 k hk).2; rw [ev] at this; exact this
  have hd0 : ∀ i, d i < 268435456 := by have := (hZ.2 k hk).1; rw [ev] at this; exact this
  have fr : ∀ j, j ≠ k → v0 j = v0 j := fun j _ => rfl
  refine lv_lconst (v := lZ (1)) hx hb dW_turn_0 (by decide) ?_
  refine lv_lstore_n (lv' := [(1, .long (lZ (1))), (0, .ref (B + k))]) hx hb dW_turn_1 rfl hl (by decide) rfl (fun ls hl => ?_)
  refine lv_iconst (v := iZ (0)) hx hb dW_turn_2 (by decide) ?_
  refine lv_istore_n (lv' := [(3, .int (iZ (0))), (1, .long (lZ (1))), (0, .ref (B + k))]) hx hb dW_turn_3 rfl hl (by decide) rfl (fun ls hl => ?_)
  have L4 : ∀ (fu : Nat) (i : Nat) (d1 : Nat → Nat) (c1 : Nat) (v : Nat → zV) (H : Heap) (locs : List Loc) (ls : Array Slot), n - i < fu → (wv d1 i + c1 * wP i + wv d i = wP i) → (∀ q, i ≤ q → d1 q = d q) → (c1 ≤ 1) → (i ≤ n) → v k = (d1, n, b) → (∀ j, j ≠ k → v j = v0 j) → zD E B v o H → va_S (zA B 80) s.heap H locs → lv_has ls 6 [(0, .ref (B + k)), (1, .long (lZ (↑c1))), (3, .int (iZ (↑i)))] → W p l e R s m args below meth c H locs 0 0 Q (F0 m 4 ls []) := by
    intro fu
    induction fu with
    | zero => intro i d1 c1 v H locs ls hm; exact absurd hm (Nat.not_lt_zero _)
    | succ fu ihL4 =>
      intro i d1 c1 v H locs ls hm hI hu hc1 hi ev fr hZ hS hl
      refine lv_iload_n hx hb dW_turn_4 rfl (lv_at hl 2 rfl) ?_
      refine lv_aload_n hx hb dW_turn_5 rfl (lv_at hl 0 rfl) ?_
      refine zw_count hx hb ht hown hK hZ hk ev tw_34 dW_turn_6 ?_
      refine zr_icmp_ge (tgt := 50) hx hb (by omega) (by omega) dW_turn_9 (by decide) (fun c_1 => ?_) (fun c_1 => ?_)
      · have hin : i = n := by omega
        subst hin
        exact hend 50 v _ _ _ dW_turn_50 (⟨fr, d1, c1, ev, hc1, hI⟩) hZ hS
      · refine lv_aload_n hx hb dW_turn_12 rfl (lv_at hl 0 rfl) ?_
        refine zw_limbs hx hb ht hown hK hZ hk ev tw_31 dW_turn_13 ?_
        refine lv_iload_n hx hb dW_turn_16 rfl (lv_at hl 2 rfl) ?_
        refine zw_ld hx hb hK hZ hk ev (by omega) (by omega) dW_turn_17 ?_
        rw [show (↑i : Int).toNat = i from by omega]
        refine zc_l (y := lZ (↑(d i))) (congrArg lZ (by rw [hu _ (Nat.le_refl _)])) ?_
        refine lv_ldc2 (v := lZ (268435455)) hx hb hown (ht _ tw_291) dW_turn_18 ?_
        refine lv_lxor hx hb dW_turn_21 ?_
        refine zc_l (y := lZ ↑(268435455 - d i)) (xor_mask (hd0 i)) ?_
        have hdi := hd0 i
        refine lv_lload_n hx hb dW_turn_22 rfl (lv_at hl 1 rfl) ?_
        refine zr_ladd hx hb dW_turn_23 ?_
        refine zc_l (y := lZ (↑(268435455 - d i + c1))) (congrArg lZ (Int.natCast_add _ _).symm) ?_
        refine lv_lstore (lv' := [(4, .long (lZ (↑(268435455 - d i + c1)))), (0, .ref (B + k)), (1, .long (lZ (↑c1))), (3, .int (iZ (↑i)))]) hx hb dW_turn_24 hl (by decide) rfl (fun ls hl => ?_)
        refine lv_aload_n hx hb dW_turn_26 rfl (lv_at hl 1 rfl) ?_
        refine zw_limbs hx hb ht hown hK hZ hk ev tw_31 dW_turn_27 ?_
        refine lv_iload_n hx hb dW_turn_30 rfl (lv_at hl 3 rfl) ?_
        refine lv_lload hx hb dW_turn_31 (lv_at hl 0 rfl) ?_
        refine lv_ldc2 (v := lZ (268435455)) hx hb hown (ht _ tw_291) dW_turn_33 ?_
        refine zr_mask (n := 28) (P := 268435456) hx hb (Nat.le_of_ble_eq_true rfl) p2_28 m2_28 dW_turn_36 ?_
        rw [show ((↑(268435455 - d i + c1)) % 268435456 : Int) = (((268435455 - d i + c1) % 268435456 : Nat) : Int) from (Int.natCast_emod _ _).symm]
        refine zw_st (x := (268435455 - d i + c1) % 268435456) hx hb hK hZ hk ev hS (by omega) (by omega) (Nat.mod_lt _ (by decide)) dW_turn_37 (fun v H locs ev ho hZ hS => ?_)
        rw [show (↑i : Int).toNat = i from by omega] at ev
        have fr : ∀ j, j ≠ k → v j = v0 j := fun j h0 => (ho j h0).trans (fr j h0)
        refine lv_lload hx hb dW_turn_38 (lv_at hl 0 rfl) ?_
        refine lv_bipush (v := iZ (28)) hx hb dW_turn_40 (by decide) ?_
        refine zr_lushr (n := 28) (P := 268435456) hx hb (by omega) (by omega) (Nat.le_of_ble_eq_true rfl) (p2_28) dW_turn_42 ?_
        refine zc_l (y := lZ (↑((268435455 - d i + c1) / 268435456))) (congrArg lZ (Int.natCast_ediv _ _).symm) ?_
        refine lv_lstore_n (lv' := [(1, .long (lZ (↑((268435455 - d i + c1) / 268435456)))), (4, .long (lZ (↑(268435455 - d i + c1)))), (0, .ref (B + k)), (3, .int (iZ (↑i)))]) hx hb dW_turn_43 rfl hl (by decide) rfl (fun ls hl => ?_)
        refine lv_iinc (v := iZ (↑i + 1)) (lv' := [(3, .int (iZ (↑i + 1))), (1, .long (lZ (↑((268435455 - d i + c1) / 268435456)))), (4, .long (lZ (↑(268435455 - d i + c1)))), (0, .ref (B + k))]) hx hb dW_turn_44 hl (k := 3) rfl (iZ_add _ _) (by decide) rfl (fun ls hl => ?_)
        refine lv_goto (tgt := 4) hx hb dW_turn_47 (by decide) ?_
        exact ihL4 (i + 1) (va_up d1 i ((268435455 - d i + c1) % 268435456)) ((268435455 - d i + c1) / 268435456) v _ _ _ (by omega) (turn_step (hd0 i) hI) (fun q hq => by rw [va_up_ne _ _ (by omega)]; exact hu q (by omega)) (by omega) (by omega) ev fr hZ hS (lv_sub hl [3, 1, 0] rfl)
  exact L4 _ 0 d 1 v0 _ _ _ (Nat.lt_succ_self _) (rfl) (fun _ _ => rfl) (by omega) (by omega) ev fr hZ hS (lv_sub hl [2, 1, 0] rfl)
