set_option maxHeartbeats 4000000 in
set_option maxRecDepth 100000 in
theorem mW_stretch (l : Launch) (E : zE) (B : Nat) (v0 : Nat → zV) (o : Nat → va_E) (k : Nat) (hk : lp k = true) (d : Nat → Nat) (n : Nat) (b : Bool) (ev : v0 k = (d, n, b)) (z : Int) (hz : zi z) :
    Met l yW_stretch (zws yW_stretch cW_stretch 4 none) { frames := 1, cells := 0, slots := 0, locals := 32 } (zPc E (zD E B v0 o) [.ref (B + k), .int (iZ (z))]) (va_Qv (fun v : Nat → zV => (∀ j, j ≠ k → v j = v0 j) ∧ ∃ d1 n1, v k = (d1, n1, b) ∧ n1 = max n (min z 152).toNat ∧ (∀ i, i < n → d1 i = d i) ∧ (∀ i, n ≤ i → i < n1 → d1 i = 0)) (fun v t => zD E B v o t.heap ∧ zK E t) (zA B 80)) 0 0 (zA B 80) := by
  refine zof_v (by decide) (Nat.le_of_ble_eq_true rfl) fun p e R s m args below meth c Q ls hR hx hb hml ht hown hK hZ hl hend => ?_
  have hS : va_S (zA B 80) s.heap s.heap [] := va_S.rf
  have hown : s.vm.findClass "WholeDesk$Whole" = some m.cls := hown
  have hl : lv_has ls 4 [(0, .ref (B + k)), (1, .int (iZ (z)))] := hl
  have hn : n ≤ 152 := by have := (hZ.2 k hk).2; rw [ev] at this; exact this
  have hd0 : ∀ i, d i < 268435456 := by have := (hZ.2 k hk).1; rw [ev] at this; exact this
  have fr : ∀ j, j ≠ k → v0 j = v0 j := fun j _ => rfl
  refine lv_iload_n hx hb dW_stretch_0 rfl (lv_at hl 1 rfl) ?_
  refine lv_sipush (v := iZ (152)) hx hb dW_stretch_1 (by decide) ?_
  refine zr_min hx hb (by rw [hml]; exact hl.1.symm) ht hown tw_305 (by rw [hR]; decide) (by rw [hR]; exact Nat.le_of_ble_eq_true rfl) (Nat.zero_le _) (Nat.zero_le _) (by omega) (by omega) dW_stretch_4 ?_
  refine lv_istore_n (lv' := [(2, .int (iZ (min (z : Int) (152 : Int)))), (0, .ref (B + k)), (1, .int (iZ (z)))]) hx hb dW_stretch_7 rfl hl (by decide) rfl (fun ls hl => ?_)
  refine lv_aload_n hx hb dW_stretch_8 rfl (lv_at hl 1 rfl) ?_
  refine zw_count hx hb ht hown hK hZ hk ev tw_34 dW_stretch_9 ?_
  refine lv_istore_n (lv' := [(3, .int (iZ (↑n))), (2, .int (iZ (min (z : Int) (152 : Int)))), (0, .ref (B + k)), (1, .int (iZ (z)))]) hx hb dW_stretch_12 rfl hl (by decide) rfl (fun ls hl => ?_)
  have L13 : ∀ (fu : Nat) (i : Nat) (d1 : Nat → Nat) (v : Nat → zV) (H : Heap) (locs : List Loc) (ls : Array Slot), 153 - i < fu → ((∀ q, q < n → d1 q = d q) ∧ (∀ q, n ≤ q → q < i → d1 q = 0)) → (n ≤ i ∧ (i ≤ n ∨ (i : Int) ≤ min z 152)) → v k = (d1, n, b) → (∀ j, j ≠ k → v j = v0 j) → zD E B v o H → va_S (zA B 80) s.heap H locs → lv_has ls 4 [(0, .ref (B + k)), (2, .int (iZ (min z 152))), (3, .int (iZ (↑i)))] → W p l e R s m args below meth c H locs 0 0 Q (F0 m 13 ls []) := by
    intro fu
    induction fu with
    | zero => intro i d1 v H locs ls hm; exact absurd hm (Nat.not_lt_zero _)
    | succ fu ihL13 =>
      intro i d1 v H locs ls hm hI hi ev fr hZ hS hl
      refine lv_iload_n hx hb dW_stretch_13 rfl (lv_at hl 2 rfl) ?_
      refine lv_iload_n hx hb dW_stretch_14 rfl (lv_at hl 1 rfl) ?_
      refine zr_icmp_ge (tgt := 31) hx hb (by omega) (by omega) dW_stretch_15 (by decide) (fun c_1 => ?_) (fun c_1 => ?_)
      · refine lv_aload_n hx hb dW_stretch_31 rfl (lv_at hl 0 rfl) ?_
        refine lv_aload_n hx hb dW_stretch_32 rfl (lv_at hl 0 rfl) ?_
        refine zw_count hx hb ht hown hK hZ hk ev tw_34 dW_stretch_33 ?_
        refine lv_iload_n hx hb dW_stretch_36 rfl (lv_at hl 1 rfl) ?_
        refine zr_max hx hb (by rw [hml]; exact hl.1.symm) ht hown tw_308 (by rw [hR]; decide) (by rw [hR]; exact Nat.le_of_ble_eq_true rfl) (Nat.zero_le _) (Nat.zero_le _) (by omega) (by omega) dW_stretch_37 ?_
        rw [show (max (↑n : Int) (min z 152 : Int) : Int) = ((max n (min z 152).toNat : Nat) : Int) from by omega]
        refine zw_put_count (n1 := max n (min z 152).toNat) hx hb ht hown hK hZ hk ev hS (by omega) tw_34 dW_stretch_40 (fun v H locs ev ho hZ hS => ?_)
        have fr : ∀ j, j ≠ k → v j = v0 j := fun j h0 => (ho j h0).trans (fr j h0)
        exact hend 43 v _ _ _ dW_stretch_43 (⟨fr, d1, _, ev, rfl, hI.1, fun i h1 h2 => hI.2 i h1 (by omega)⟩) hZ hS
      · refine lv_aload_n hx hb dW_stretch_18 rfl (lv_at hl 0 rfl) ?_
        refine zw_limbs hx hb ht hown hK hZ hk ev tw_31 dW_stretch_19 ?_
        refine lv_iload_n hx hb dW_stretch_22 rfl (lv_at hl 2 rfl) ?_
        refine lv_lconst (v := lZ (0)) hx hb dW_stretch_23 (by decide) ?_
        rw [show (0 : Int) = ((0 : Nat) : Int) from rfl]
        refine zw_st (x := 0) hx hb hK hZ hk ev hS (by omega) (by omega) (by omega) dW_stretch_24 (fun v H locs ev ho hZ hS => ?_)
        rw [show (↑i : Int).toNat = i from by omega] at ev
        have fr : ∀ j, j ≠ k → v j = v0 j := fun j h0 => (ho j h0).trans (fr j h0)
        refine lv_iinc (v := iZ (↑i + 1)) (lv' := [(3, .int (iZ (↑i + 1))), (0, .ref (B + k)), (2, .int (iZ (min z 152)))]) hx hb dW_stretch_25 hl (k := 2) rfl (iZ_add _ _) (by decide) rfl (fun ls hl => ?_)
        refine lv_goto (tgt := 13) hx hb dW_stretch_28 (by decide) ?_
        exact ihL13 (i + 1) (va_up d1 i 0) v _ _ _ (by omega) (⟨fun q hq => by rw [va_up_ne _ _ (by omega)]; exact hI.1 q hq, fun q h1 h2 => by
          by_cases e : q = i
          · rw [e, va_up_self]
          · rw [va_up_ne _ _ e]; exact hI.2 q h1 (by omega)⟩) (⟨by omega, by omega⟩) ev fr hZ hS (lv_sub hl [1, 2, 0] rfl)
  exact L13 _ n d v0 _ _ _ (Nat.lt_succ_self _) (⟨fun _ _ => rfl, fun q h1 h2 => absurd h1 (by omega)⟩) (⟨by omega, by omega⟩) ev fr hZ hS (lv_sub hl [2, 1, 0] rfl)

set_option maxHeartbeats 4000000 in
set_option maxRecDepth 100000 in
theorem mW_copy (l : Launch) (E : zE) (B : Nat) (v0 : Nat → zV) (o : Nat → va_E) (k : Nat) (hk : lp k = true) (d : Nat → Nat) (n : Nat) (b : Bool) (ev : v0 k = (d, n, b)) (j : Nat) (hj : lp j = true) (d2 : Nat → Nat) (n2 : Nat) (b2 : Bool) (ev2 : v0 j = (d2, n2, b2)) (hjk : j ≠ k) :
    Met l yW_copy (zws yW_copy cW_copy 3 none) { frames := 1, cells := 0, slots := 0, locals := 48 } (zPc E (zD E B v0 o) [.ref (B + k), .ref (B + j)]) (va_Qv (fun v : Nat → zV => (∀ j, j ≠ k → v j = v0 j) ∧ ∃ d1, v k = (d1, n2, b2) ∧ ∀ i, i < n2 → d1 i = d2 i) (fun v t => zD E B v o t.heap ∧ zK E t) (zA B 80)) 0 0 (zA B 80) := by
  refine zof_v (by decide) (Nat.le_of_ble_eq_true rfl) fun p e R s m args below meth c Q ls hR hx hb hml ht hown hK hZ hl hend => ?_
  have hS : va_S (zA B 80) s.heap s.heap [] := va_S.rf
  have hown : s.vm.findClass "WholeDesk$Whole" = some m.cls := hown
  have hl : lv_has ls 3 [(0, .ref (B + k)), (1, .ref (B + j))] := hl
  have hn : n ≤ 152 := by have := (hZ.2 k hk).2; rw [ev] at this; exact this
  have hd0 : ∀ i, d i < 268435456 := by have := (hZ.2 k hk).1; rw [ev] at this; exact this
  have hn2 : n2 ≤ 152 := by have := (hZ.2 j hj).2; rw [ev2] at this; exact this
  have fr : ∀ j, j ≠ k → v0 j = v0 j := fun j _ => rfl
  refine lv_aload_n hx hb dW_copy_0 rfl (lv_at hl 1 rfl) ?_
  refine zw_count hx hb ht hown hK hZ hj ev2 tw_34 dW_copy_1 ?_
  refine lv_sipush (v := iZ (152)) hx hb dW_copy_4 (by decide) ?_
  refine zr_min hx hb (by rw [hml]; exact hl.1.symm) ht hown tw_305 (by rw [hR]; decide) (by rw [hR]; exact Nat.le_of_ble_eq_true rfl) (Nat.zero_le _) (Nat.zero_le _) (by omega) (by omega) dW_copy_7 ?_
  refine lv_istore_n (lv' := [(2, .int (iZ (min (↑n2 : Int) (152 : Int)))), (0, .ref (B + k)), (1, .ref (B + j))]) hx hb dW_copy_10 rfl hl (by decide) rfl (fun ls hl => ?_)
  refine lv_aload_n hx hb dW_copy_11 rfl (lv_at hl 2 rfl) ?_
  refine zw_limbs hx hb ht hown hK hZ hj ev2 tw_31 dW_copy_12 ?_
  refine lv_iconst (v := iZ (0)) hx hb dW_copy_15 (by decide) ?_
  refine lv_aload_n hx hb dW_copy_16 rfl (lv_at hl 1 rfl) ?_
  refine zw_limbs hx hb ht hown hK hZ hk ev tw_31 dW_copy_17 ?_
  refine lv_iconst (v := iZ (0)) hx hb dW_copy_20 (by decide) ?_
  refine lv_iload_n hx hb dW_copy_21 rfl (lv_at hl 0 rfl) ?_
  refine zw_copy (z := min (↑n2 : Int) (152 : Int)) hx hb (by rw [hml]; exact hl.1.symm) ht hown hK hZ hS hk ev hj ev2 tw_346 (by omega) (by omega) (by rw [hR]; decide) (by rw [hR]; exact Nat.le_of_ble_eq_true rfl) dW_copy_22 (fun v H locs ev ho hZ hS => ?_)
  rw [show (min (↑n2 : Int) (152 : Int) : Int).toNat = n2 from by omega] at ev
  have ev2 := (ho j hjk).trans ev2
  have fr : ∀ j, j ≠ k → v j = v0 j := fun j h0 => (ho j h0).trans (fr j h0)
  refine lv_aload_n hx hb dW_copy_25 rfl (lv_at hl 1 rfl) ?_
  refine lv_iload_n hx hb dW_copy_26 rfl (lv_at hl 0 rfl) ?_
  rw [show (min (↑n2 : Int) (152 : Int) : Int) = ((n2 : Nat) : Int) from by omega]
  refine zw_put_count (n1 := n2) hx hb ht hown hK hZ hk ev hS (by omega) tw_34 dW_copy_27 (fun v H locs ev ho hZ hS => ?_)
  have ev2 := (ho j hjk).trans ev2
  have fr : ∀ j, j ≠ k → v j = v0 j := fun j h0 => (ho j h0).trans (fr j h0)
  refine lv_aload_n hx hb dW_copy_30 rfl (lv_at hl 1 rfl) ?_
  refine lv_aload_n hx hb dW_copy_31 rfl (lv_at hl 2 rfl) ?_
  refine zw_below hx hb ht hown hK hZ hj ev2 tw_39 dW_copy_32 ?_
  refine zw_put_below (b1 := b2) hx hb ht hown hK hZ hk ev hS tw_39 dW_copy_35 (fun v H locs ev ho hZ hS => ?_)
  have ev2 := (ho j hjk).trans ev2
  have fr : ∀ j, j ≠ k → v j = v0 j := fun j h0 => (ho j h0).trans (fr j h0)
  exact hend 38 v _ _ _ dW_copy_38 (⟨fr, _, ev, fun i hi => pk_cpy_in (Nat.zero_le _) (by omega) |>.trans (by rw [Nat.zero_add, Nat.sub_zero])⟩) hZ hS

set_option maxHeartbeats 4000000 in
set_option maxRecDepth 100000 in
theorem mW_become (l : Launch) (E : zE) (B : Nat) (v0 : Nat → zV) (o : Nat → va_E) (k : Nat) (hk : lp k = true) (d : Nat → Nat) (n : Nat) (b : Bool) (ev : v0 k = (d, n, b)) (x : Int) (hx64 : zl x) :
    Met l yW_become (zws yW_become cW_become 5 none) { frames := 1, cells := 0, slots := 0, locals := 20 } (zPc E (zD E B v0 o) [.ref (B + k), .long (lZ (x))]) (va_Qv (fun v : Nat → zV => (∀ j, j ≠ k → v j = v0 j) ∧ zN (v k) x) (fun v t => zD E B v o t.heap ∧ zK E t) (zA B 80)) 0 0 (zA B 80) := by
  refine zof_v (by decide) (Nat.le_of_ble_eq_true rfl) fun p e R s m args below meth c Q ls hR hx hb hml ht hown hK hZ hl hend => ?_
  have hS : va_S (zA B 80) s.heap s.heap [] := va_S.rf
  have hown : s.vm.findClass "WholeDesk$Whole" = some m.cls := hown
  have hl : lv_has ls 5 [(0, .ref (B + k)), (1, .long (lZ (x)))] := hl
  have hn : n ≤ 152 := by have := (hZ.2 k hk).2; rw [ev] at this; exact this
  have hd0 : ∀ i, d i < 268435456 := by have := (hZ.2 k hk).1; rw [ev] at this; exact this
  have fr : ∀ j, j ≠ k → v0 j = v0 j := fun j _ => rfl
  have J12 : ∀  (v : Nat → zV) (H : Heap) (locs : List Loc) (ls : Array Slot), v k = (d, n, b) → (∀ j, j ≠ k → v j = v0 j) → zD E B v o H → va_S (zA B 80) s.heap H locs → lv_has ls 5 [(0, .ref (B + k)), (1, .long (lZ (x)))] → W p l e R s m args below meth c H locs 0 0 Q (F0 m 12 ls [.long (lZ (↑x.natAbs))]) := by
    intro  v H locs ls  ev fr hZ hS hl
    refine lv_lstore_n (lv' := [(3, .long (lZ (↑x.natAbs))), (0, .ref (B + k)), (1, .long (lZ (x)))]) hx hb dW_become_12 rfl hl (by decide) rfl (fun ls hl => ?_)
    refine lv_aload_n hx hb dW_become_13 rfl (lv_at hl 1 rfl) ?_
    refine zw_limbs hx hb ht hown hK hZ hk ev tw_31 dW_become_14 ?_
    refine lv_iconst (v := iZ (0)) hx hb dW_become_17 (by decide) ?_
    refine lv_lload_n hx hb dW_become_18 rfl (lv_at hl 0 rfl) ?_
    refine lv_ldc2 (v := lZ (268435455)) hx hb hown (ht _ tw_291) dW_become_19 ?_
    refine zr_mask (n := 28) (P := 268435456) hx hb (Nat.le_of_ble_eq_true rfl) p2_28 m2_28 dW_become_22 ?_
    rw [show (↑x.natAbs % 268435456 : Int) = ((x.natAbs % 268435456 : Nat) : Int) from by omega]
    refine zw_st (x := x.natAbs % 268435456) hx hb hK hZ hk ev hS (by omega) (by omega) (by omega) dW_become_23 (fun v H locs ev ho hZ hS => ?_)
    rw [show (0 : Int).toNat = 0 from by omega] at ev
    have fr : ∀ j, j ≠ k → v j = v0 j := fun j h0 => (ho j h0).trans (fr j h0)
    refine lv_aload_n hx hb dW_become_24 rfl (lv_at hl 1 rfl) ?_
    refine zw_limbs hx hb ht hown hK hZ hk ev tw_31 dW_become_25 ?_
    refine lv_iconst (v := iZ (1)) hx hb dW_become_28 (by decide) ?_
    refine lv_lload_n hx hb dW_become_29 rfl (lv_at hl 0 rfl) ?_
    refine lv_bipush (v := iZ (28)) hx hb dW_become_30 (by decide) ?_
    refine zr_lushrU (n := 28) (P := 268435456) hx hb (Nat.le_of_ble_eq_true rfl) p2_28 dW_become_32 ?_
    refine lv_ldc2 (v := lZ (268435455)) hx hb hown (ht _ tw_291) dW_become_33 ?_
    refine zr_mask (n := 28) (P := 268435456) hx hb (Nat.le_of_ble_eq_true rfl) p2_28 m2_28 dW_become_36 ?_
    rw [show ((↑x.natAbs % 18446744073709551616 / 268435456) % 268435456 : Int) = ((x.natAbs / 268435456 % 268435456 : Nat) : Int) from by omega]
    refine zw_st (x := x.natAbs / 268435456 % 268435456) hx hb hK hZ hk ev hS (by omega) (by omega) (by omega) dW_become_37 (fun v H locs ev ho hZ hS => ?_)
    rw [show (1 : Int).toNat = 1 from by omega] at ev
    have fr : ∀ j, j ≠ k → v j = v0 j := fun j h0 => (ho j h0).trans (fr j h0)
    refine lv_aload_n hx hb dW_become_38 rfl (lv_at hl 1 rfl) ?_
    refine zw_limbs hx hb ht hown hK hZ hk ev tw_31 dW_become_39 ?_
    refine lv_iconst (v := iZ (2)) hx hb dW_become_42 (by decide) ?_
    refine lv_lload_n hx hb dW_become_43 rfl (lv_at hl 0 rfl) ?_
    refine lv_bipush (v := iZ (56)) hx hb dW_become_44 (by decide) ?_
    refine zr_lushrU (n := 56) (P := 72057594037927936) hx hb (Nat.le_of_ble_eq_true rfl) p2_56 dW_become_46 ?_
    rw [show (↑x.natAbs % 18446744073709551616 / 72057594037927936 : Int) = ((x.natAbs / 72057594037927936 : Nat) : Int) from by omega]
    refine zw_st (x := x.natAbs / 72057594037927936) hx hb hK hZ hk ev hS (by omega) (by omega) (by omega) dW_become_47 (fun v H locs ev ho hZ hS => ?_)
    rw [show (2 : Int).toNat = 2 from by omega] at ev
    have fr : ∀ j, j ≠ k → v j = v0 j := fun j h0 => (ho j h0).trans (fr j h0)
    refine lv_aload_n hx hb dW_become_48 rfl (lv_at hl 1 rfl) ?_
    refine lv_iconst (v := iZ (3)) hx hb dW_become_49 (by decide) ?_
    rw [show (3 : Int) = ((3 : Nat) : Int) from rfl]
    refine zw_put_count (n1 := 3) hx hb ht hown hK hZ hk ev hS (by omega) tw_34 dW_become_50 (fun v H locs ev ho hZ hS => ?_)
    have fr : ∀ j, j ≠ k → v j = v0 j := fun j h0 => (ho j h0).trans (fr j h0)
    refine lv_aload_n hx hb dW_become_53 rfl (lv_at hl 1 rfl) ?_
    refine lv_lload_n hx hb dW_become_54 rfl (lv_at hl 2 rfl) ?_
    refine lv_lconst (v := lZ (0)) hx hb dW_become_55 (by decide) ?_
    refine zr_lcmp_ge (tgt := 64) hx hb (by omega) (by omega) dW_become_56 dW_become_57 (by decide) (fun c_1 => ?_) (fun c_1 => ?_)
    · refine lv_iconst (v := iZ (0)) hx hb dW_become_64 (by decide) ?_
      refine W.eq (g2 := F0 m 65 ls (.int (iZ (bZ false)) :: .ref (B + k) :: [])) rfl ?_
      refine zw_put_below (b1 := false) hx hb ht hown hK hZ hk ev hS tw_39 dW_become_65 (fun v H locs ev ho hZ hS => ?_)
      have fr : ∀ j, j ≠ k → v j = v0 j := fun j h0 => (ho j h0).trans (fr j h0)
      refine lv_aload_n hx hb dW_become_68 rfl (lv_at hl 1 rfl) ?_
      refine zcV_v 0 (As := []) (rest := []) rfl ⟨hx, hb, hml, hown, ht⟩ (mW_trim l E B v o k hk (va_up (va_up (va_up d 0 (x.natAbs % 268435456)) 1 (x.natAbs / 268435456 % 268435456)) 2 (x.natAbs / 72057594037927936)) (3 : Nat) false ev) tw_295 tw_292 tw_293 tw_294 tw_2 qW_trim (by rw [hR]; decide) (zW_recv hK hZ hk) hZ hK hl.1 rfl rfl (Nat.le_of_ble_eq_true rfl) dW_become_69 ⟨Nat.zero_le _, Nat.zero_le _⟩ hS (fun  v H locs hp hZ _ hS => ?_)
      obtain ⟨ho, n_2, ev, hn_2le, hn_2z, hn_2nz⟩ := hp
      have fr : ∀ j, j ≠ k → v j = v0 j := fun j h0 => (ho j h0).trans (fr j h0)
      exact hend 72 v _ _ _ dW_become_72 (⟨fr, by
        rw [ev]
        have h9 := zN_trim (b := false) hn_2le hn_2z hn_2nz
        rw [wv3] at h9
        have e9 : (if false = true then -((x.natAbs % 268435456 + x.natAbs / 268435456 % 268435456 * 268435456 + x.natAbs / 72057594037927936 * 72057594037927936 : Nat) : Int) else ((x.natAbs % 268435456 + x.natAbs / 268435456 % 268435456 * 268435456 + x.natAbs / 72057594037927936 * 72057594037927936 : Nat) : Int)) = x := by
          rw [if_neg (by decide)]
          omega
        rw [e9] at h9
        exact h9⟩) hZ hS
    · refine lv_iconst (v := iZ (1)) hx hb dW_become_60 (by decide) ?_
      refine lv_goto (tgt := 65) hx hb dW_become_61 (by decide) ?_
      refine W.eq (g2 := F0 m 65 ls (.int (iZ (bZ true)) :: .ref (B + k) :: [])) rfl ?_
      refine zw_put_below (b1 := true) hx hb ht hown hK hZ hk ev hS tw_39 dW_become_65 (fun v H locs ev ho hZ hS => ?_)
      have fr : ∀ j, j ≠ k → v j = v0 j := fun j h0 => (ho j h0).trans (fr j h0)
      refine lv_aload_n hx hb dW_become_68 rfl (lv_at hl 1 rfl) ?_
      refine zcV_v 0 (As := []) (rest := []) rfl ⟨hx, hb, hml, hown, ht⟩ (mW_trim l E B v o k hk (va_up (va_up (va_up d 0 (x.natAbs % 268435456)) 1 (x.natAbs / 268435456 % 268435456)) 2 (x.natAbs / 72057594037927936)) (3 : Nat) true ev) tw_295 tw_292 tw_293 tw_294 tw_2 qW_trim (by rw [hR]; decide) (zW_recv hK hZ hk) hZ hK hl.1 rfl rfl (Nat.le_of_ble_eq_true rfl) dW_become_69 ⟨Nat.zero_le _, Nat.zero_le _⟩ hS (fun  v H locs hp hZ _ hS => ?_)
      obtain ⟨ho, n_3, ev, hn_3le, hn_3z, hn_3nz⟩ := hp
      have fr : ∀ j, j ≠ k → v j = v0 j := fun j h0 => (ho j h0).trans (fr j h0)
      exact hend 72 v _ _ _ dW_become_72 (⟨fr, by
        rw [ev]
        have h9 := zN_trim (b := true) hn_3le hn_3z hn_3nz
        rw [wv3] at h9
        have e9 : (if true = true then -((x.natAbs % 268435456 + x.natAbs / 268435456 % 268435456 * 268435456 + x.natAbs / 72057594037927936 * 72057594037927936 : Nat) : Int) else ((x.natAbs % 268435456 + x.natAbs / 268435456 % 268435456 * 268435456 + x.natAbs / 72057594037927936 * 72057594037927936 : Nat) : Int)) = x := by
          rw [if_pos rfl]
          omega
        rw [e9] at h9
        exact h9⟩) hZ hS
  refine lv_lload_n hx hb dW_become_0 rfl (lv_at hl 1 rfl) ?_
  refine lv_lconst (v := lZ (0)) hx hb dW_become_1 (by decide) ?_
  refine zr_lcmp_ge (tgt := 11) hx hb (by omega) (by omega) dW_become_2 dW_become_3 (by decide) (fun c_4 => ?_) (fun c_4 => ?_)
  · refine lv_lload_n hx hb dW_become_11 rfl (lv_at hl 1 rfl) ?_
    refine zc_l (y := lZ (↑x.natAbs)) (congrArg lZ (by omega)) ?_
    exact J12  v0 _ _ _  ev fr hZ hS (lv_sub hl [0, 1] rfl)
  · refine lv_lload_n hx hb dW_become_6 rfl (lv_at hl 1 rfl) ?_
    refine zr_lneg hx hb dW_become_7 ?_
    refine zc_l (y := lZ ↑x.natAbs) (congrArg lZ (by omega)) ?_
    refine lv_goto (tgt := 12) hx hb dW_become_8 (by decide) ?_
    exact J12  v0 _ _ _  ev fr hZ hS (lv_sub hl [0, 1] rfl)

set_option maxHeartbeats 4000000 in
set_option maxRecDepth 100000 in
theorem mW_mix (l : Launch) (E : zE) (B : Nat) (v0 : Nat → zV) (o : Nat → va_E) (k : Nat) (hk : lp k = true) (d : Nat → Nat) (n : Nat) (b : Bool) (ev : v0 k = (d, n, b)) (j : Nat) (hj : lp j = true) (d2 : Nat → Nat) (n2 : Nat) (b2 : Bool) (ev2 : v0 j = (d2, n2, b2)) (hjk : j ≠ k) (f : Int) (hf : -268435456 ≤ f ∧ f ≤ 268435456) (p0 : Nat) (hp0 : p0 + n2 ≤ n) :
    Met l yW_mix (zws yW_mix cW_mix 14 (some .long)) { frames := 1, cells := 0, slots := 0, locals := 32 } (zPc E (zD E B v0 o) [.ref (B + k), .ref (B + j), .long (lZ (f)), .int (iZ (↑p0))]) (va_Ql (fun (r : Int64) (v : Nat → zV) => (∀ j, j ≠ k → v j = v0 j) ∧ ∃ (d1 : Nat → Nat) (c : Int), v k = (d1, n, b) ∧ r = lZ c ∧ (wv d1 n : Int) + c * wP n = wv d n + f * wP p0 * wv d2 n2 ∧ -268435456 ≤ c ∧ c ≤ 268435456) (fun v t => zD E B v o t.heap ∧ zK E t) (zA B 80)) 0 0 (zA B 80) := by
  refine zof_l (by decide) (Nat.le_of_ble_eq_true rfl) fun p e R s m args below meth c Q ls hR hx hb hml ht hown hK hZ hl hend => ?_
  have hS : va_S (zA B 80) s.heap s.heap [] := va_S.rf
  have hown : s.vm.findClass "WholeDesk$Whole" = some m.cls := hown
  have hl : lv_has ls 14 [(0, .ref (B + k)), (1, .ref (B + j)), (2, .long (lZ (f))), (4, .int (iZ (↑p0)))] := hl
  have hn : n ≤ 152 := by have := (hZ.2 k hk).2; rw [ev] at this; exact this
  have hd0 : ∀ i, d i < 268435456 := by have := (hZ.2 k hk).1; rw [ev] at this; exact this
  have hn2 : n2 ≤ 152 := by have := (hZ.2 j hj).2; rw [ev2] at this; exact this
  have hd2 : ∀ i, d2 i < 268435456 := by have := (hZ.2 j hj).1; rw [ev2] at this; exact this
  have fr : ∀ j, j ≠ k → v0 j = v0 j := fun j _ => rfl
  refine lv_iload hx hb dW_mix_0 (lv_at hl 3 rfl) ?_
  refine zr_if_lt (tgt := 14) hx hb (by omega) dW_mix_2 (by decide) (fun c_1 => ?_) (fun c_1 => ?_)
  · exfalso; omega
  · refine lv_iload hx hb dW_mix_5 (lv_at hl 3 rfl) ?_
    refine lv_aload_n hx hb dW_mix_7 rfl (lv_at hl 0 rfl) ?_
    refine zw_count hx hb ht hown hK hZ hk ev tw_34 dW_mix_8 ?_
    refine zr_icmp_le (tgt := 16) hx hb (by omega) (by omega) dW_mix_11 (by decide) (fun c_2 => ?_) (fun c_2 => ?_)
    · refine lv_aload_n hx hb dW_mix_16 rfl (lv_at hl 0 rfl) ?_
      refine zw_limbs hx hb ht hown hK hZ hk ev tw_31 dW_mix_17 ?_
      refine lv_astore (lv' := [(5, .ref (B + (k + 1))), (0, .ref (B + k)), (1, .ref (B + j)), (2, .long (lZ (f))), (4, .int (iZ (↑p0)))]) hx hb dW_mix_20 hl (by decide) rfl (fun ls hl => ?_)
      refine lv_aload_n hx hb dW_mix_22 rfl (lv_at hl 2 rfl) ?_
      refine zw_limbs hx hb ht hown hK hZ hj ev2 tw_31 dW_mix_23 ?_
      refine lv_astore (lv' := [(6, .ref (B + (j + 1))), (5, .ref (B + (k + 1))), (0, .ref (B + k)), (1, .ref (B + j)), (2, .long (lZ (f))), (4, .int (iZ (↑p0)))]) hx hb dW_mix_26 hl (by decide) rfl (fun ls hl => ?_)
      refine lv_aload_n hx hb dW_mix_28 rfl (lv_at hl 3 rfl) ?_
      refine zw_count hx hb ht hown hK hZ hj ev2 tw_34 dW_mix_29 ?_
      refine lv_aload_n hx hb dW_mix_32 rfl (lv_at hl 2 rfl) ?_
      refine zw_count hx hb ht hown hK hZ hk ev tw_34 dW_mix_33 ?_
      refine lv_iload hx hb dW_mix_36 (lv_at hl 5 rfl) ?_
      refine zr_isub hx hb dW_mix_38 ?_
      refine zr_min hx hb (by rw [hml]; exact hl.1.symm) ht hown tw_305 (by rw [hR]; decide) (by rw [hR]; exact Nat.le_of_ble_eq_true rfl) (Nat.zero_le _) (Nat.zero_le _) (by omega) (by omega) dW_mix_39 ?_
      refine lv_istore (lv' := [(7, .int (iZ (min (↑n2 : Int) (↑n - ↑p0 : Int)))), (6, .ref (B + (j + 1))), (5, .ref (B + (k + 1))), (0, .ref (B + k)), (1, .ref (B + j)), (2, .long (lZ (f))), (4, .int (iZ (↑p0)))]) hx hb dW_mix_42 hl (by decide) rfl (fun ls hl => ?_)
      refine lv_iload hx hb dW_mix_44 (lv_at hl 6 rfl) ?_
      refine lv_istore (lv' := [(8, .int (iZ (↑p0))), (7, .int (iZ (min (↑n2 : Int) (↑n - ↑p0 : Int)))), (6, .ref (B + (j + 1))), (5, .ref (B + (k + 1))), (0, .ref (B + k)), (1, .ref (B + j)), (2, .long (lZ (f))), (4, .int (iZ (↑p0)))]) hx hb dW_mix_46 hl (by decide) rfl (fun ls hl => ?_)
      refine lv_lconst (v := lZ (0)) hx hb dW_mix_48 (by decide) ?_
      refine lv_lstore (lv' := [(9, .long (lZ (0))), (8, .int (iZ (↑p0))), (7, .int (iZ (min (↑n2 : Int) (↑n - ↑p0 : Int)))), (6, .ref (B + (j + 1))), (5, .ref (B + (k + 1))), (0, .ref (B + k)), (1, .ref (B + j)), (2, .long (lZ (f))), (4, .int (iZ (↑p0)))]) hx hb dW_mix_49 hl (by decide) rfl (fun ls hl => ?_)
      refine lv_iconst (v := iZ (0)) hx hb dW_mix_51 (by decide) ?_
      refine lv_istore (lv' := [(11, .int (iZ (0))), (9, .long (lZ (0))), (8, .int (iZ (↑p0))), (7, .int (iZ (min (↑n2 : Int) (↑n - ↑p0 : Int)))), (6, .ref (B + (j + 1))), (5, .ref (B + (k + 1))), (0, .ref (B + k)), (1, .ref (B + j)), (2, .long (lZ (f))), (4, .int (iZ (↑p0)))]) hx hb dW_mix_52 hl (by decide) rfl (fun ls hl => ?_)
      have L54 : ∀ (fu : Nat) (i : Nat) (d1 : Nat → Nat) (c1 : Int) (v : Nat → zV) (H : Heap) (locs : List Loc) (ls : Array Slot), n2 - i < fu → ((wv d1 (p0 + i) : Int) + c1 * wP (p0 + i) = wv d (p0 + i) + f * wP p0 * wv d2 i) → (∀ q, p0 + i ≤ q → d1 q = d q) → (-268435456 ≤ c1 ∧ c1 ≤ 268435456) → (i ≤ n2) → v k = (d1, n, b) → v j = (d2, n2, b2) → (∀ j, j ≠ k → v j = v0 j) → zD E B v o H → va_S (zA B 80) s.heap H locs → lv_has ls 14 [(0, .ref (B + k)), (1, .ref (B + j)), (2, .long (lZ (f))), (5, .ref (B + (k + 1))), (6, .ref (B + (j + 1))), (7, .int (iZ (min ↑n2 (↑n - ↑p0)))), (8, .int (iZ (↑p0 + ↑i))), (9, .long (lZ (c1))), (11, .int (iZ (↑i)))] → W p l e R s m args below meth c H locs 0 0 Q (F0 m 54 ls []) := by
        intro fu
        induction fu with
        | zero => intro i d1 c1 v H locs ls hm; exact absurd hm (Nat.not_lt_zero _)
        | succ fu ihL54 =>
          intro i d1 c1 v H locs ls hm hI hu hc1 hi ev ev2 fr hZ hS hl
          refine lv_iload hx hb dW_mix_54 (lv_at hl 8 rfl) ?_
          refine lv_iload hx hb dW_mix_56 (lv_at hl 5 rfl) ?_
          refine zr_icmp_ge (tgt := 106) hx hb (by omega) (by omega) dW_mix_58 (by decide) (fun c_3 => ?_) (fun c_3 => ?_)
          · have L106 : ∀ (fu : Nat) (a : Nat) (d1 : Nat → Nat) (c1 : Int) (v : Nat → zV) (H : Heap) (locs : List Loc) (ls : Array Slot), n - a < fu → ((wv d1 a : Int) + c1 * wP a = wv d a + f * wP p0 * wv d2 n2) → (∀ q, a ≤ q → d1 q = d q) → (-268435456 ≤ c1 ∧ c1 ≤ 268435456) → (a ≤ n) → v k = (d1, n, b) → v j = (d2, n2, b2) → (∀ j, j ≠ k → v j = v0 j) → zD E B v o H → va_S (zA B 80) s.heap H locs → lv_has ls 14 [(0, .ref (B + k)), (5, .ref (B + (k + 1))), (8, .int (iZ (↑a))), (9, .long (lZ (c1)))] → W p l e R s m args below meth c H locs 0 0 Q (F0 m 106 ls []) := by
              intro fu
              induction fu with
              | zero => intro a d1 c1 v H locs ls hm; exact absurd hm (Nat.not_lt_zero _)
              | succ fu ihL106 =>
                intro a d1 c1 v H locs ls hm hI hu hc1 ha ev ev2 fr hZ hS hl
                have J156 : ∀  (v : Nat → zV) (H : Heap) (locs : List Loc) (ls : Array Slot), ((wv d1 n : Int) + c1 * wP n = wv d n + f * wP p0 * wv d2 n2) → v k = (d1, n, b) → v j = (d2, n2, b2) → (∀ j, j ≠ k → v j = v0 j) → zD E B v o H → va_S (zA B 80) s.heap H locs → lv_has ls 14 [(9, .long (lZ (c1)))] → W p l e R s m args below meth c H locs 0 0 Q (F0 m 156 ls []) := by
                  intro  v H locs ls hF ev ev2 fr hZ hS hl
                  refine lv_lload hx hb dW_mix_156 (lv_at hl 0 rfl) ?_
                  exact hend 158 (_) v _ _ _ dW_mix_158 (⟨fr, d1, c1, ev, rfl, hF, hc1.1, hc1.2⟩) hZ hS
                refine lv_iload hx hb dW_mix_106 (lv_at hl 2 rfl) ?_
                refine lv_aload_n hx hb dW_mix_108 rfl (lv_at hl 0 rfl) ?_
                refine zw_count hx hb ht hown hK hZ hk ev tw_34 dW_mix_109 ?_
                refine zr_icmp_ge (tgt := 156) hx hb (by omega) (by omega) dW_mix_112 (by decide) (fun c_4 => ?_) (fun c_4 => ?_)
                · exact J156  v _ _ _ (by first | exact mixA hI (by omega) | exact mixB hI hu (by omega) (by omega)) ev ev2 fr hZ hS (lv_sub hl [3] rfl)
                · refine lv_lload hx hb dW_mix_115 (lv_at hl 3 rfl) ?_
                  refine lv_lconst (v := lZ (0)) hx hb dW_mix_117 (by decide) ?_
                  refine zr_lcmp_eq (tgt := 156) hx hb (by omega) (by omega) dW_mix_118 dW_mix_119 (by decide) (fun c_5 => ?_) (fun c_5 => ?_)
                  · exact J156  v _ _ _ (by first | exact mixA hI (by omega) | exact mixB hI hu (by omega) (by omega)) ev ev2 fr hZ hS (lv_sub hl [3] rfl)
                  · refine lv_aload hx hb dW_mix_122 (lv_at hl 1 rfl) ?_
                    refine lv_iload hx hb dW_mix_124 (lv_at hl 2 rfl) ?_
                    refine zw_ld hx hb hK hZ hk ev (by omega) (by omega) dW_mix_126 ?_
                    rw [show (↑a : Int).toNat = a from by omega]
                    refine zc_l (y := lZ (↑(d a))) (congrArg lZ (by rw [hu _ (Nat.le_refl _)])) ?_
                    refine lv_lload hx hb dW_mix_127 (lv_at hl 3 rfl) ?_
                    refine zr_ladd hx hb dW_mix_129 ?_
                    obtain ⟨zz, hzz⟩ : ∃ t : Int, t = (↑(d a)) + c1 := ⟨_, rfl⟩
                    have hda := hd0 a
                    refine zc_l (y := lZ (zz)) (congrArg lZ hzz.symm) ?_
                    refine lv_lstore (lv' := [(11, .long (lZ (zz))), (0, .ref (B + k)), (5, .ref (B + (k + 1))), (8, .int (iZ (↑a))), (9, .long (lZ (c1)))]) hx hb dW_mix_130 hl (by decide) rfl (fun ls hl => ?_)
                    refine lv_aload hx hb dW_mix_132 (lv_at hl 2 rfl) ?_
                    refine lv_iload hx hb dW_mix_134 (lv_at hl 3 rfl) ?_
                    refine lv_lload hx hb dW_mix_136 (lv_at hl 0 rfl) ?_
                    refine lv_ldc2 (v := lZ (268435455)) hx hb hown (ht _ tw_291) dW_mix_138 ?_
                    refine zr_mask (n := 28) (P := 268435456) hx hb (Nat.le_of_ble_eq_true rfl) p2_28 m2_28 dW_mix_141 ?_
                    rw [show (zz % 268435456 : Int) = (((zz % 268435456).toNat : Nat) : Int) from by omega]
                    refine zw_st (x := (zz % 268435456).toNat) hx hb hK hZ hk ev hS (by omega) (by omega) (by omega) dW_mix_142 (fun v H locs ev ho hZ hS => ?_)
                    rw [show (↑a : Int).toNat = a from by omega] at ev
                    have ev2 := (ho j hjk).trans ev2
                    have fr : ∀ j, j ≠ k → v j = v0 j := fun j h0 => (ho j h0).trans (fr j h0)
                    refine lv_lload hx hb dW_mix_143 (lv_at hl 0 rfl) ?_
                    refine lv_bipush (v := iZ (28)) hx hb dW_mix_145 (by decide) ?_
                    refine zr_lshr (n := 28) (P := 268435456) hx hb (by omega) (Nat.le_of_ble_eq_true rfl) (p2_28) dW_mix_147 ?_
                    refine lv_lstore (lv' := [(9, .long (lZ (zz / 268435456))), (11, .long (lZ (zz))), (0, .ref (B + k)), (5, .ref (B + (k + 1))), (8, .int (iZ (↑a)))]) hx hb dW_mix_148 hl (by decide) rfl (fun ls hl => ?_)
                    refine lv_iinc (v := iZ (↑a + 1)) (lv' := [(8, .int (iZ (↑a + 1))), (9, .long (lZ (zz / 268435456))), (11, .long (lZ (zz))), (0, .ref (B + k)), (5, .ref (B + (k + 1)))]) hx hb dW_mix_150 hl (k := 4) rfl (iZ_add _ _) (by decide) rfl (fun ls hl => ?_)
                    refine lv_goto (tgt := 106) hx hb dW_mix_153 (by decide) ?_
                    exact ihL106 (a + 1) (va_up d1 a (zz % 268435456).toNat) (zz / 268435456) v _ _ _ (by omega) (carry_step hI hzz) (fun q hq => by rw [va_up_ne _ _ (by omega)]; exact hu q (by omega)) (by omega) (by omega) ev ev2 fr hZ hS (lv_sub hl [3, 4, 0, 1] rfl)
            exact L106 _ (p0 + i) d1 c1 v _ _ _ (Nat.lt_succ_self _) (by have e : i = n2 := (by omega); rw [e] at hI ⊢; exact hI) (hu) (hc1) (by omega) ev ev2 fr hZ hS (lv_sub hl [0, 3, 6, 7] rfl)
          · refine lv_aload hx hb dW_mix_61 (lv_at hl 3 rfl) ?_
            refine lv_iload hx hb dW_mix_63 (lv_at hl 6 rfl) ?_
            refine zw_ld hx hb hK hZ hk ev (by omega) (by omega) dW_mix_65 ?_
            rw [show (↑p0 + ↑i : Int).toNat = p0 + i from by omega]
            refine zc_l (y := lZ (↑(d (p0 + i)))) (congrArg lZ (by rw [hu _ (Nat.le_refl _)])) ?_
            refine lv_lload_n hx hb dW_mix_66 rfl (lv_at hl 2 rfl) ?_
            refine lv_aload hx hb dW_mix_67 (lv_at hl 4 rfl) ?_
            refine lv_iload hx hb dW_mix_69 (lv_at hl 8 rfl) ?_
            refine zw_ld hx hb hK hZ hj ev2 (by omega) (by omega) dW_mix_71 ?_
            rw [show (↑i : Int).toNat = i from by omega]
            refine zr_lmul hx hb dW_mix_72 ?_
            refine zr_ladd hx hb dW_mix_73 ?_
            refine lv_lload hx hb dW_mix_74 (lv_at hl 7 rfl) ?_
            refine zr_ladd hx hb dW_mix_76 ?_
            obtain ⟨zz, hzz⟩ : ∃ t : Int, t = ((↑(d (p0 + i))) + (f * (↑(d2 i)))) + c1 := ⟨_, rfl⟩
            have hbd := mix_bd (c := c1) (hd0 (p0 + i)) (hd2 i) hf.1 hf.2 hc1.1 hc1.2
            rw [← hzz] at hbd
            refine zc_l (y := lZ (zz)) (congrArg lZ hzz.symm) ?_
            refine lv_lstore (lv' := [(12, .long (lZ (zz))), (0, .ref (B + k)), (1, .ref (B + j)), (2, .long (lZ (f))), (5, .ref (B + (k + 1))), (6, .ref (B + (j + 1))), (7, .int (iZ (min ↑n2 (↑n - ↑p0)))), (8, .int (iZ (↑p0 + ↑i))), (9, .long (lZ (c1))), (11, .int (iZ (↑i)))]) hx hb dW_mix_77 hl (by decide) rfl (fun ls hl => ?_)
            refine lv_aload hx hb dW_mix_79 (lv_at hl 4 rfl) ?_
            refine lv_iload hx hb dW_mix_81 (lv_at hl 7 rfl) ?_
            refine lv_lload hx hb dW_mix_83 (lv_at hl 0 rfl) ?_
            refine lv_ldc2 (v := lZ (268435455)) hx hb hown (ht _ tw_291) dW_mix_85 ?_
            refine zr_mask (n := 28) (P := 268435456) hx hb (Nat.le_of_ble_eq_true rfl) p2_28 m2_28 dW_mix_88 ?_
            rw [show (zz % 268435456 : Int) = (((zz % 268435456).toNat : Nat) : Int) from by omega]
            refine zw_st (x := (zz % 268435456).toNat) hx hb hK hZ hk ev hS (by omega) (by omega) (by omega) dW_mix_89 (fun v H locs ev ho hZ hS => ?_)
            rw [show (↑p0 + ↑i : Int).toNat = p0 + i from by omega] at ev
            have ev2 := (ho j hjk).trans ev2
            have fr : ∀ j, j ≠ k → v j = v0 j := fun j h0 => (ho j h0).trans (fr j h0)
            refine lv_lload hx hb dW_mix_90 (lv_at hl 0 rfl) ?_
            refine lv_bipush (v := iZ (28)) hx hb dW_mix_92 (by decide) ?_
            refine zr_lshr (n := 28) (P := 268435456) hx hb (hbd.1) (Nat.le_of_ble_eq_true rfl) (p2_28) dW_mix_94 ?_
            refine lv_lstore (lv' := [(9, .long (lZ (zz / 268435456))), (12, .long (lZ (zz))), (0, .ref (B + k)), (1, .ref (B + j)), (2, .long (lZ (f))), (5, .ref (B + (k + 1))), (6, .ref (B + (j + 1))), (7, .int (iZ (min ↑n2 (↑n - ↑p0)))), (8, .int (iZ (↑p0 + ↑i))), (11, .int (iZ (↑i)))]) hx hb dW_mix_95 hl (by decide) rfl (fun ls hl => ?_)
            refine lv_iinc (v := iZ (↑p0 + ↑i + 1)) (lv' := [(8, .int (iZ (↑p0 + ↑i + 1))), (9, .long (lZ (zz / 268435456))), (12, .long (lZ (zz))), (0, .ref (B + k)), (1, .ref (B + j)), (2, .long (lZ (f))), (5, .ref (B + (k + 1))), (6, .ref (B + (j + 1))), (7, .int (iZ (min ↑n2 (↑n - ↑p0)))), (11, .int (iZ (↑i)))]) hx hb dW_mix_97 hl (k := 8) rfl (iZ_add _ _) (by decide) rfl (fun ls hl => ?_)
            refine lv_iinc (v := iZ (↑i + 1)) (lv' := [(11, .int (iZ (↑i + 1))), (8, .int (iZ (↑p0 + ↑i + 1))), (9, .long (lZ (zz / 268435456))), (12, .long (lZ (zz))), (0, .ref (B + k)), (1, .ref (B + j)), (2, .long (lZ (f))), (5, .ref (B + (k + 1))), (6, .ref (B + (j + 1))), (7, .int (iZ (min ↑n2 (↑n - ↑p0))))]) hx hb dW_mix_100 hl (k := 9) rfl (iZ_add _ _) (by decide) rfl (fun ls hl => ?_)
            refine lv_goto (tgt := 54) hx hb dW_mix_103 (by decide) ?_
            exact ihL54 (i + 1) (va_up d1 (p0 + i) (zz % 268435456).toNat) (zz / 268435456) v _ _ _ (by omega) (mix_step hI hzz) (fun q hq => by rw [va_up_ne _ _ (by omega)]; exact hu q (by omega)) (⟨hbd.2.1, hbd.2.2⟩) (by omega) ev ev2 fr hZ hS (lv_sub hl [4, 5, 6, 7, 8, 9, 1, 2, 0] rfl)
      exact L54 _ 0 d 0 v0 _ _ _ (Nat.lt_succ_self _) (by rw [wv_0, Int.zero_mul]; simp) (fun _ _ => rfl) (by omega) (by omega) ev ev2 fr hZ hS (lv_sub hl [6, 7, 8, 5, 4, 3, 2, 1, 0] rfl)
    · exfalso; omega
