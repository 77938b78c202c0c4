theorem tb_f1 {b : Bool} {n1 : Nat} (h : bZ b = 0) : (b && decide (n1 ≠ 0)) = false := by rw [bZ_f.mp h]; rfl
theorem tb_f2 {b : Bool} {n1 : Nat} (h : (n1 : Int) ≤ 0) : (b && decide (n1 ≠ 0)) = false := by
  have : n1 = 0 := by omega
  subst this
  simp
theorem tb_t {b : Bool} {n1 : Nat} (h : ¬ bZ b = 0) (h2 : (0 : Int) < n1) : (b && decide (n1 ≠ 0)) = true := by
  rw [bZ_nf.mp h]
  simp
  omega
set_option maxHeartbeats 4000000 in
set_option maxRecDepth 100000 in
theorem mW_trim (l : Launch) (E : zE) (B : Nat) (v0 : Nat → zV) (o : Nat → va_E) (k : Nat) (hk : lp k = true) (d : Nat → Nat) (n : Nat) (b : Bool) (ev : v0 k = (d, n, b)) :
    Met l yW_trim (zws yW_trim cW_trim 1 none) { frames := 0, cells := 0, slots := 0, locals := 0 } (zPc E (zD E B v0 o) [.ref (B + k)]) (va_Qv (fun v : Nat → zV => (∀ j, j ≠ k → v j = v0 j) ∧ ∃ n1, v k = (d, n1, b && decide (n1 ≠ 0)) ∧ n1 ≤ n ∧ (∀ i, n1 ≤ i → i < n → d i = 0) ∧ nz d n1) (fun v t => zD E B v o t.heap ∧ zK E t) (zA B 80)) 0 0 (zA B 80) := by
  refine zof_v (by decide) (Nat.le_of_ble_eq_true rfl) fun p e R s m args below meth c Q ls hR hx hb hml ht hown hK hZ hl hend => ?_
  have hS : va_S (zA B 80) s.heap s.heap [] := va_S.rf
  have hown : s.vm.findClass "WholeDesk$Whole" = some m.cls := hown
  have hl : lv_has ls 1 [(0, .ref (B + k))] := hl
  have hn : n ≤ 152 := by have := (hZ.2 k hk).2; rw [ev] at this; exact this
  have hd0 : ∀ i, d i < 268435456 := by have := (hZ.2 k hk).1; rw [ev] at this; exact this
  have fr : ∀ j, j ≠ k → v0 j = v0 j := fun j _ => rfl
  have L0 : ∀ (fu : Nat) (n1 : Nat) (v : Nat → zV) (H : Heap) (locs : List Loc) (ls : Array Slot), n1 < fu → (n1 ≤ n ∧ ∀ i, n1 ≤ i → i < n → d i = 0) → v k = (d, n1, b) → (∀ j, j ≠ k → v j = v0 j) → zD E B v o H → va_S (zA B 80) s.heap H locs → lv_has ls 1 [(0, .ref (B + k))] → W p l e R s m args below meth c H locs 0 0 Q (F0 m 0 ls []) := by
    intro fu
    induction fu with
    | zero => intro n1 v H locs ls hm; exact absurd hm (Nat.not_lt_zero _)
    | succ fu ihL0 =>
      intro n1 v H locs ls hm hI ev fr hZ hS hl
      have J36 : ∀  (v : Nat → zV) (H : Heap) (locs : List Loc) (ls : Array Slot), (nz d n1) → v k = (d, n1, b) → (∀ j, j ≠ k → v j = v0 j) → zD E B v o H → va_S (zA B 80) s.heap H locs → lv_has ls 1 [(0, .ref (B + k))] → W p l e R s m args below meth c H locs 0 0 Q (F0 m 36 ls []) := by
        intro  v H locs ls hT ev fr hZ hS hl
        refine lv_aload_n hx hb dW_trim_36 rfl (lv_at hl 0 rfl) ?_
        refine lv_aload_n hx hb dW_trim_37 rfl (lv_at hl 0 rfl) ?_
        refine zw_below hx hb ht hown hK hZ hk ev tw_39 dW_trim_38 ?_
        refine zr_if_eq (tgt := 55) hx hb (by have := bZ_01 b; omega) dW_trim_41 (by decide) (fun c_1 => ?_) (fun c_1 => ?_)
        · refine lv_iconst (v := iZ (0)) hx hb dW_trim_55 (by decide) ?_
          refine W.eq (g2 := F0 m 56 ls (.int (iZ (bZ false)) :: .ref (B + k) :: [])) rfl ?_
          refine zw_put_below (b1 := false) hx hb ht hown hK hZ hk ev hS tw_39 dW_trim_56 (fun v H locs ev ho hZ hS => ?_)
          have fr : ∀ j, j ≠ k → v j = v0 j := fun j h0 => (ho j h0).trans (fr j h0)
          exact hend 59 v _ _ _ dW_trim_59 (⟨fr, n1, by rw [ev]; first | rw [tb_t (by assumption) (by assumption)] | rw [tb_f1 (by assumption)] | rw [tb_f2 (by assumption)], hI.1, hI.2, hT⟩) hZ hS
        · refine lv_aload_n hx hb dW_trim_44 rfl (lv_at hl 0 rfl) ?_
          refine zw_count hx hb ht hown hK hZ hk ev tw_34 dW_trim_45 ?_
          refine zr_if_le (tgt := 55) hx hb (by omega) dW_trim_48 (by decide) (fun c_2 => ?_) (fun c_2 => ?_)
          · refine lv_iconst (v := iZ (0)) hx hb dW_trim_55 (by decide) ?_
            refine W.eq (g2 := F0 m 56 ls (.int (iZ (bZ false)) :: .ref (B + k) :: [])) rfl ?_
            refine zw_put_below (b1 := false) hx hb ht hown hK hZ hk ev hS tw_39 dW_trim_56 (fun v H locs ev ho hZ hS => ?_)
            have fr : ∀ j, j ≠ k → v j = v0 j := fun j h0 => (ho j h0).trans (fr j h0)
            exact hend 59 v _ _ _ dW_trim_59 (⟨fr, n1, by rw [ev]; first | rw [tb_t (by assumption) (by assumption)] | rw [tb_f1 (by assumption)] | rw [tb_f2 (by assumption)], hI.1, hI.2, hT⟩) hZ hS
          · refine lv_iconst (v := iZ (1)) hx hb dW_trim_51 (by decide) ?_
            refine lv_goto (tgt := 56) hx hb dW_trim_52 (by decide) ?_
            refine W.eq (g2 := F0 m 56 ls (.int (iZ (bZ true)) :: .ref (B + k) :: [])) rfl ?_
            refine zw_put_below (b1 := true) hx hb ht hown hK hZ hk ev hS tw_39 dW_trim_56 (fun v H locs ev ho hZ hS => ?_)
            have fr : ∀ j, j ≠ k → v j = v0 j := fun j h0 => (ho j h0).trans (fr j h0)
            exact hend 59 v _ _ _ dW_trim_59 (⟨fr, n1, by rw [ev]; first | rw [tb_t (by assumption) (by assumption)] | rw [tb_f1 (by assumption)] | rw [tb_f2 (by assumption)], hI.1, hI.2, hT⟩) hZ hS
      refine lv_aload_n hx hb dW_trim_0 rfl (lv_at hl 0 rfl) ?_
      refine zw_count hx hb ht hown hK hZ hk ev tw_34 dW_trim_1 ?_
      refine zr_if_le (tgt := 36) hx hb (by omega) dW_trim_4 (by decide) (fun c_3 => ?_) (fun c_3 => ?_)
      · exact J36  v _ _ _ (fun h0 => by omega) ev fr hZ hS (lv_sub hl [0] rfl)
      · refine lv_aload_n hx hb dW_trim_7 rfl (lv_at hl 0 rfl) ?_
        refine zw_limbs hx hb ht hown hK hZ hk ev tw_31 dW_trim_8 ?_
        refine lv_aload_n hx hb dW_trim_11 rfl (lv_at hl 0 rfl) ?_
        refine zw_count hx hb ht hown hK hZ hk ev tw_34 dW_trim_12 ?_
        refine lv_iconst (v := iZ (1)) hx hb dW_trim_15 (by decide) ?_
        refine zr_isub hx hb dW_trim_16 ?_
        refine zw_ld hx hb hK hZ hk ev (by omega) (by omega) dW_trim_17 ?_
        rw [show (↑n1 - 1 : Int).toNat = n1 - 1 from by omega]
        refine lv_lconst (v := lZ (0)) hx hb dW_trim_18 (by decide) ?_
        refine zr_lcmp_ne (tgt := 36) hx hb ⟨by omega, by have := hd0 (n1 - 1); omega⟩ (by omega) dW_trim_19 dW_trim_20 (by decide) (fun c_4 => ?_) (fun c_4 => ?_)
        · exact J36  v _ _ _ (fun h0 => by omega) ev fr hZ hS (lv_sub hl [0] rfl)
        · refine lv_aload_n hx hb dW_trim_23 rfl (lv_at hl 0 rfl) ?_
          refine lv_dup hx hb dW_trim_24 rfl ?_
          refine zw_count hx hb ht hown hK hZ hk ev tw_34 dW_trim_25 ?_
          refine lv_iconst (v := iZ (1)) hx hb dW_trim_28 (by decide) ?_
          refine zr_isub hx hb dW_trim_29 ?_
          rw [show (↑n1 - 1 : Int) = ((n1 - 1 : Nat) : Int) from by omega]
          refine zw_put_count (n1 := n1 - 1) hx hb ht hown hK hZ hk ev hS (by omega) tw_34 dW_trim_30 (fun v H locs ev ho hZ hS => ?_)
          have fr : ∀ j, j ≠ k → v j = v0 j := fun j h0 => (ho j h0).trans (fr j h0)
          refine lv_goto (tgt := 0) hx hb dW_trim_33 (by decide) ?_
          exact ihL0 (n1 - 1) v _ _ _ (by omega) (⟨by omega, fun i h1 h2 => by
            by_cases e : i = n1 - 1
            · rw [e]; omega
            · exact hI.2 i (by omega) h2⟩) ev fr hZ hS (lv_sub hl [0] rfl)
  exact L0 _ n v0 _ _ _ (Nat.lt_succ_self _) (⟨Nat.le_refl _, fun i h1 h2 => absurd h1 (by omega)⟩) ev fr hZ hS (lv_sub hl [0] rfl)

set_option maxHeartbeats 4000000 in
set_option maxRecDepth 100000 in
theorem mW_limb (l : Launch) (E : zE) (B : Nat) (v0 : Nat → zV) (o : Nat → va_E) (k : Nat) (hk : lp k = true) (d : Nat → Nat) (n : Nat) (b : Bool) (ev : v0 k = (d, n, b)) (z : Int) (hz : zi z) :
    Met l yW_limb (zws yW_limb cW_limb 2 (some .long)) { frames := 0, cells := 0, slots := 0, locals := 0 } (zPc E (zD E B v0 o) [.ref (B + k), .int (iZ (z))]) (va_Ql (fun (r : Int64) (v : Nat → zV) => v = v0 ∧ r = lZ (wz d n z)) (fun v t => zD E B v o t.heap ∧ zK E t) (zA B 80)) 0 0 (zA B 80) := by
  refine zof_l (by decide) (Nat.le_of_ble_eq_true rfl) fun p e R s m args below meth c Q ls hR hx hb hml ht hown hK hZ hl hend => ?_
  have hS : va_S (zA B 80) s.heap s.heap [] := va_S.rf
  have hown : s.vm.findClass "WholeDesk$Whole" = some m.cls := hown
  have hl : lv_has ls 2 [(0, .ref (B + k)), (1, .int (iZ (z)))] := hl
  have hn : n ≤ 152 := by have := (hZ.2 k hk).2; rw [ev] at this; exact this
  refine lv_iload_n hx hb dW_limb_0 rfl (lv_at hl 1 rfl) ?_
  refine zr_if_lt (tgt := 21) hx hb (by omega) dW_limb_1 (by decide) (fun c_1 => ?_) (fun c_1 => ?_)
  · refine lv_lconst (v := lZ (0)) hx hb dW_limb_21 (by decide) ?_
    exact hend 22 (_) v0 _ _ _ dW_limb_22 (⟨rfl, by rw [wz_out (by omega)]; rfl⟩) hZ hS
  · refine lv_iload_n hx hb dW_limb_4 rfl (lv_at hl 1 rfl) ?_
    refine lv_aload_n hx hb dW_limb_5 rfl (lv_at hl 0 rfl) ?_
    refine zw_count hx hb ht hown hK hZ hk ev tw_34 dW_limb_6 ?_
    refine zr_icmp_ge (tgt := 21) hx hb (by omega) (by omega) dW_limb_9 (by decide) (fun c_2 => ?_) (fun c_2 => ?_)
    · refine lv_lconst (v := lZ (0)) hx hb dW_limb_21 (by decide) ?_
      exact hend 22 (_) v0 _ _ _ dW_limb_22 (⟨rfl, by rw [wz_out (by omega)]; rfl⟩) hZ hS
    · refine lv_aload_n hx hb dW_limb_12 rfl (lv_at hl 0 rfl) ?_
      refine zw_limbs hx hb ht hown hK hZ hk ev tw_31 dW_limb_13 ?_
      refine lv_iload_n hx hb dW_limb_16 rfl (lv_at hl 1 rfl) ?_
      refine zw_ld hx hb hK hZ hk ev (by omega) (by omega) dW_limb_17 ?_
      refine lv_goto (tgt := 22) hx hb dW_limb_18 (by decide) ?_
      exact hend 22 (_) v0 _ _ _ dW_limb_22 (⟨rfl, by rw [wz_in (by omega) (by omega)]⟩) hZ hS

set_option maxHeartbeats 4000000 in
set_option maxRecDepth 100000 in
theorem mW_limbShifted (l : Launch) (E : zE) (B : Nat) (v0 : Nat → zV) (o : Nat → va_E) (k : Nat) (hk : lp k = true) (d : Nat → Nat) (n : Nat) (b : Bool) (ev : v0 k = (d, n, b)) (z : Int) (hz : -1 ≤ z ∧ z ≤ 1000) (up : Nat) (hup : up ≤ 28) :
    Met l yW_limbShifted (zws yW_limbShifted cW_limbShifted 7 (some .long)) { frames := 0, cells := 0, slots := 0, locals := 0 } (zPc E (zD E B v0 o) [.ref (B + k), .int (iZ (z)), .int (iZ (↑up))]) (va_Ql (fun (r : Int64) (v : Nat → zV) => v = v0 ∧ r = lZ (lsh d n up (z + 1).toNat)) (fun v t => zD E B v o t.heap ∧ zK E t) (zA B 80)) 0 0 (zA B 80) := by
  refine zof_l (by decide) (Nat.le_of_ble_eq_true rfl) fun p e R s m args below meth c Q ls hR hx hb hml ht hown hK hZ hl hend => ?_
  have hS : va_S (zA B 80) s.heap s.heap [] := va_S.rf
  have hown : s.vm.findClass "WholeDesk$Whole" = some m.cls := hown
  have hl : lv_has ls 7 [(0, .ref (B + k)), (1, .int (iZ (z))), (2, .int (iZ (↑up)))] := hl
  have hn : n ≤ 152 := by have := (hZ.2 k hk).2; rw [ev] at this; exact this
  have hd0 : ∀ i, d i < 268435456 := by have := (hZ.2 k hk).1; rw [ev] at this; exact this
  have J22 : ∀ (h : Nat) (H : Heap) (locs : List Loc) (ls : Array Slot), (h = wz d n z) → zD E B v0 o H → va_S (zA B 80) s.heap H locs → lv_has ls 7 [(0, .ref (B + k)), (1, .int (iZ (z))), (2, .int (iZ (↑up)))] → W p l e R s m args below meth c H locs 0 0 Q (F0 m 22 ls [.long (lZ (↑h))]) := by
    intro h H locs ls eh  hZ hS hl
    have J48 : ∀ (u : Nat) (H : Heap) (locs : List Loc) (ls : Array Slot), (u = wz d n (z - 1)) → zD E B v0 o H → va_S (zA B 80) s.heap H locs → lv_has ls 7 [(0, .ref (B + k)), (1, .int (iZ (z))), (2, .int (iZ (↑up))), (3, .long (lZ (↑h)))] → W p l e R s m args below meth c H locs 0 0 Q (F0 m 48 ls [.long (lZ (↑u))]) := by
      intro u H locs ls eu  hZ hS hl
      refine lv_lstore (lv' := [(5, .long (lZ (↑u))), (0, .ref (B + k)), (1, .int (iZ (z))), (2, .int (iZ (↑up))), (3, .long (lZ (↑h)))]) hx hb dW_limbShifted_48 hl (by decide) rfl (fun ls hl => ?_)
      refine lv_lload_n hx hb dW_limbShifted_50 rfl (lv_at hl 4 rfl) ?_
      refine lv_iload_n hx hb dW_limbShifted_51 rfl (lv_at hl 3 rfl) ?_
      refine zr_lshl (n := up) (P := ((2 ^ up : Nat) : Int)) hx hb (by omega) (rfl) dW_limbShifted_52 ?_
      refine lv_lload hx hb dW_limbShifted_53 (lv_at hl 0 rfl) ?_
      refine lv_bipush (v := iZ (28)) hx hb dW_limbShifted_55 (by decide) ?_
      refine lv_iload_n hx hb dW_limbShifted_57 rfl (lv_at hl 3 rfl) ?_
      refine zr_isub hx hb dW_limbShifted_58 ?_
      refine zc_i (y := iZ (↑(28 - up))) (congrArg iZ (by omega)) ?_
      have hu28 : u < 268435456 := by rw [eu]; exact wz_lt hd0 n _
      have hh28 : h < 268435456 := by rw [eh]; exact wz_lt hd0 n _
      refine zr_lushr (n := 28 - up) (P := ((2 ^ (28 - up) : Nat) : Int)) hx hb (by omega) (by omega) (by omega) (rfl) dW_limbShifted_59 ?_
      have hST : 2 ^ up * 2 ^ (28 - up) = 268435456 := by rw [← Nat.pow_add, show up + (28 - up) = 28 by omega]
      have hq : u / 2 ^ (28 - up) < 2 ^ up := (Nat.div_lt_iff_lt_mul (Nat.two_pow_pos _)).mpr (by rw [hST]; exact hu28)
      have hp28 : 2 ^ up ≤ 268435456 := Nat.pow_le_pow_right (n := 2) (by decide) hup
      have hm : h * 2 ^ up ≤ 268435455 * 268435456 := Nat.mul_le_mul (by omega) hp28
      have eq1 : (u : Int) / ((2 ^ (28 - up) : Nat) : Int) = ((u / 2 ^ (28 - up) : Nat) : Int) := (Int.natCast_ediv _ _).symm
      have eq2 : (h : Int) * ((2 ^ up : Nat) : Int) = ((h * 2 ^ up : Nat) : Int) := (Int.natCast_mul _ _).symm
      have h9 : h * 2 ^ up + u / 2 ^ (28 - up) < 18446744073709551616 := Nat.lt_of_le_of_lt (Nat.add_le_add hm (Nat.le_of_lt hq)) (by omega)
      refine zr_lor (n := up) (P := ((2 ^ up : Nat) : Int)) hx hb rfl (by rw [eq1]; exact Int.natCast_nonneg _) (by rw [eq1]; exact Int.ofNat_lt.mpr hq) (Int.natCast_nonneg _) (by rw [eq1, eq2, ← Int.natCast_add]; exact Int.ofNat_lt.mpr h9) dW_limbShifted_60 ?_
      refine lv_ldc2 (v := lZ (268435455)) hx hb hown (ht _ tw_291) dW_limbShifted_61 ?_
      refine zr_mask (n := 28) (P := 268435456) hx hb (Nat.le_of_ble_eq_true rfl) p2_28 m2_28 dW_limbShifted_64 ?_
      exact hend 65 (_) v0 _ _ _ dW_limbShifted_65 (⟨rfl, congrArg lZ (by rw [eh, eu]; exact (lsh_z d n hz.1).symm)⟩) hZ hS
    refine lv_lstore_n (lv' := [(3, .long (lZ (↑h))), (0, .ref (B + k)), (1, .int (iZ (z))), (2, .int (iZ (↑up)))]) hx hb dW_limbShifted_22 rfl hl (by decide) rfl (fun ls hl => ?_)
    refine lv_iload_n hx hb dW_limbShifted_23 rfl (lv_at hl 2 rfl) ?_
    refine lv_iconst (v := iZ (1)) hx hb dW_limbShifted_24 (by decide) ?_
    refine zr_icmp_lt (tgt := 47) hx hb (by omega) (by omega) dW_limbShifted_25 (by decide) (fun c_1 => ?_) (fun c_1 => ?_)
    · refine lv_lconst (v := lZ (0)) hx hb dW_limbShifted_47 (by decide) ?_
      exact J48 0  _ _ _ ((wz_out (by omega)).symm)  hZ hS (lv_sub hl [1, 2, 3, 0] rfl)
    · refine lv_iload_n hx hb dW_limbShifted_28 rfl (lv_at hl 2 rfl) ?_
      refine lv_aload_n hx hb dW_limbShifted_29 rfl (lv_at hl 1 rfl) ?_
      refine zw_count hx hb ht hown hK hZ hk ev tw_34 dW_limbShifted_30 ?_
      refine zr_icmp_gt (tgt := 47) hx hb (by omega) (by omega) dW_limbShifted_33 (by decide) (fun c_2 => ?_) (fun c_2 => ?_)
      · refine lv_lconst (v := lZ (0)) hx hb dW_limbShifted_47 (by decide) ?_
        exact J48 0  _ _ _ ((wz_out (by omega)).symm)  hZ hS (lv_sub hl [1, 2, 3, 0] rfl)
      · refine lv_aload_n hx hb dW_limbShifted_36 rfl (lv_at hl 1 rfl) ?_
        refine zw_limbs hx hb ht hown hK hZ hk ev tw_31 dW_limbShifted_37 ?_
        refine lv_iload_n hx hb dW_limbShifted_40 rfl (lv_at hl 2 rfl) ?_
        refine lv_iconst (v := iZ (1)) hx hb dW_limbShifted_41 (by decide) ?_
        refine zr_isub hx hb dW_limbShifted_42 ?_
        refine zw_ld hx hb hK hZ hk ev (by omega) (by omega) dW_limbShifted_43 ?_
        refine lv_goto (tgt := 48) hx hb dW_limbShifted_44 (by decide) ?_
        exact J48 (d (z - 1).toNat)  _ _ _ ((wz_in (by omega) (by omega)).symm)  hZ hS (lv_sub hl [1, 2, 3, 0] rfl)
  refine lv_iload_n hx hb dW_limbShifted_0 rfl (lv_at hl 1 rfl) ?_
  refine zr_if_lt (tgt := 21) hx hb (by omega) dW_limbShifted_1 (by decide) (fun c_3 => ?_) (fun c_3 => ?_)
  · refine lv_lconst (v := lZ (0)) hx hb dW_limbShifted_21 (by decide) ?_
    exact J22 0  _ _ _ ((wz_out (by omega)).symm)  hZ hS (lv_sub hl [0, 1, 2] rfl)
  · refine lv_iload_n hx hb dW_limbShifted_4 rfl (lv_at hl 1 rfl) ?_
    refine lv_aload_n hx hb dW_limbShifted_5 rfl (lv_at hl 0 rfl) ?_
    refine zw_count hx hb ht hown hK hZ hk ev tw_34 dW_limbShifted_6 ?_
    refine zr_icmp_ge (tgt := 21) hx hb (by omega) (by omega) dW_limbShifted_9 (by decide) (fun c_4 => ?_) (fun c_4 => ?_)
    · refine lv_lconst (v := lZ (0)) hx hb dW_limbShifted_21 (by decide) ?_
      exact J22 0  _ _ _ ((wz_out (by omega)).symm)  hZ hS (lv_sub hl [0, 1, 2] rfl)
    · refine lv_aload_n hx hb dW_limbShifted_12 rfl (lv_at hl 0 rfl) ?_
      refine zw_limbs hx hb ht hown hK hZ hk ev tw_31 dW_limbShifted_13 ?_
      refine lv_iload_n hx hb dW_limbShifted_16 rfl (lv_at hl 1 rfl) ?_
      refine zw_ld hx hb hK hZ hk ev (by omega) (by omega) dW_limbShifted_17 ?_
      refine lv_goto (tgt := 22) hx hb dW_limbShifted_18 (by decide) ?_
      exact J22 (d z.toNat)  _ _ _ ((wz_in (by omega) (by omega)).symm)  hZ hS (lv_sub hl [0, 1, 2] rfl)

set_option maxHeartbeats 4000000 in
set_option maxRecDepth 100000 in
theorem mW_digitsOf (l : Launch) (E : zE) (B : Nat) (v0 : Nat → zV) (o : Nat → va_E) (x : Nat) (hx28 : x < 268435456) :
    Met l yW_digitsOf (zws yW_digitsOf cW_digitsOf 5 (some .int)) { frames := 0, cells := 0, slots := 0, locals := 0 } (zPc E (zD E B v0 o) [.long (lZ (↑x))]) (va_Qi (fun (r : Int32) (v : Nat → zV) => v = v0 ∧ ∃ q : Nat, r = iZ q ∧ bl x q) (fun v t => zD E B v o t.heap ∧ zK E t) (zA B 80)) 0 0 (zA B 80) := by
  refine zof_i (by decide) (Nat.le_of_ble_eq_true rfl) fun p e R s m args below meth c Q ls hR hx hb hml ht hown hK hZ hl hend => ?_
  have hS : va_S (zA B 80) s.heap s.heap [] := va_S.rf
  have hown : s.vm.findClass "WholeDesk$Whole" = some m.cls := hown
  have hl : lv_has ls 5 [(0, .long (lZ (↑x)))] := hl
  refine lv_iconst (v := iZ (0)) hx hb dW_digitsOf_0 (by decide) ?_
  refine lv_istore_n (lv' := [(2, .int (iZ (0))), (0, .long (lZ (↑x)))]) hx hb dW_digitsOf_1 rfl hl (by decide) rfl (fun ls hl => ?_)
  refine lv_lload_n hx hb dW_digitsOf_2 rfl (lv_at hl 1 rfl) ?_
  refine lv_lstore_n (lv' := [(3, .long (lZ (↑x))), (2, .int (iZ (0))), (0, .long (lZ (↑x)))]) hx hb dW_digitsOf_3 rfl hl (by decide) rfl (fun ls hl => ?_)
  have L4 : ∀ (fu : Nat) (q : Nat) (y : Nat) (H : Heap) (locs : List Loc) (ls : Array Slot), 28 - q < fu → ((q ≠ 0 → 2 ^ (q - 1) ≤ x) ∧ q ≤ 28) → (y = x / 2 ^ q) → zD E B v0 o H → va_S (zA B 80) s.heap H locs → lv_has ls 5 [(0, .long (lZ (↑x))), (2, .int (iZ (↑q))), (3, .long (lZ (↑y)))] → W p l e R s m args below meth c H locs 0 0 Q (F0 m 4 ls []) := by
    intro fu
    induction fu with
    | zero => intro q y H locs ls hm; exact absurd hm (Nat.not_lt_zero _)
    | succ fu ihL4 =>
      intro q y H locs ls hm hq hy  hZ hS hl
      have hyx : y ≤ x := by rw [hy]; exact Nat.div_le_self _ _
      refine lv_lload_n hx hb dW_digitsOf_4 rfl (lv_at hl 2 rfl) ?_
      refine lv_lconst (v := lZ (0)) hx hb dW_digitsOf_5 (by decide) ?_
      refine zr_lcmp_eq (tgt := 26) hx hb (by omega) (by omega) dW_digitsOf_6 dW_digitsOf_7 (by decide) (fun c_1 => ?_) (fun c_1 => ?_)
      · have hlt : x < 2 ^ q := by
          by_cases h28 : q = 28
          · rw [h28]; exact hx28
          · have h0 : y = 0 := by omega
            rw [hy] at h0
            rcases Nat.lt_or_ge x (2 ^ q) with h2 | h2
            · exact h2
            · have := Nat.div_pos h2 (Nat.two_pow_pos q)
              omega
        refine lv_iload_n hx hb dW_digitsOf_26 rfl (lv_at hl 1 rfl) ?_
        exact hend 27 (_) v0 _ _ _ dW_digitsOf_27 (⟨rfl, q, rfl, bl_of hlt hq.1⟩) hZ hS
      · refine lv_iload_n hx hb dW_digitsOf_10 rfl (lv_at hl 1 rfl) ?_
        refine lv_bipush (v := iZ (28)) hx hb dW_digitsOf_11 (by decide) ?_
        refine zr_icmp_ge (tgt := 26) hx hb (by omega) (by omega) dW_digitsOf_13 (by decide) (fun c_2 => ?_) (fun c_2 => ?_)
        · have hlt : x < 2 ^ q := by
            by_cases h28 : q = 28
            · rw [h28]; exact hx28
            · have h0 : y = 0 := by omega
              rw [hy] at h0
              rcases Nat.lt_or_ge x (2 ^ q) with h2 | h2
              · exact h2
              · have := Nat.div_pos h2 (Nat.two_pow_pos q)
                omega
          refine lv_iload_n hx hb dW_digitsOf_26 rfl (lv_at hl 1 rfl) ?_
          exact hend 27 (_) v0 _ _ _ dW_digitsOf_27 (⟨rfl, q, rfl, bl_of hlt hq.1⟩) hZ hS
        · have hy2 : 2 ^ q ≤ x := by
            have h1 : y ≠ 0 := by omega
            rw [hy] at h1
            rcases Nat.lt_or_ge x (2 ^ q) with h2 | h2
            · exact absurd (Nat.div_eq_of_lt h2) h1
            · exact h2
          refine lv_iinc (v := iZ (↑q + 1)) (lv' := [(2, .int (iZ (↑q + 1))), (0, .long (lZ (↑x))), (3, .long (lZ (↑y)))]) hx hb dW_digitsOf_16 hl (k := 1) rfl (iZ_add _ _) (by decide) rfl (fun ls hl => ?_)
          refine lv_lload_n hx hb dW_digitsOf_19 rfl (lv_at hl 2 rfl) ?_
          refine lv_iconst (v := iZ (1)) hx hb dW_digitsOf_20 (by decide) ?_
          refine zr_lushr (n := 1) (P := 2) hx hb (by omega) (by omega) (Nat.le_of_ble_eq_true rfl) (p2_1) dW_digitsOf_21 ?_
          refine zc_l (y := lZ (↑(y / 2))) (congrArg lZ (Int.natCast_ediv y 2).symm) ?_
          refine lv_lstore_n (lv' := [(3, .long (lZ (↑(y / 2)))), (2, .int (iZ (↑q + 1))), (0, .long (lZ (↑x)))]) hx hb dW_digitsOf_22 rfl hl (by decide) rfl (fun ls hl => ?_)
          refine lv_goto (tgt := 4) hx hb dW_digitsOf_23 (by decide) ?_
          exact ihL4 (q + 1) (y / 2)  _ _ _ (by omega) (⟨fun _ => hy2, by omega⟩) (by rw [hy, Nat.div_div_eq_div_mul, ← Nat.pow_succ])  hZ hS (lv_sub hl [2, 1, 0] rfl)
  exact L4 _ 0 x  _ _ _ (Nat.lt_succ_self _) (⟨fun h => absurd rfl h, by omega⟩) (by rw [Nat.pow_zero, Nat.div_one])  hZ hS (lv_sub hl [2, 1, 0] rfl)

set_option maxHeartbeats 4000000 in
set_option maxRecDepth 100000 in
theorem mW_bits (l : Launch) (E : zE) (B : Nat) (v0 : Nat → zV) (o : Nat → va_E) (k : Nat) (hk : lp k = true) (d : Nat → Nat) (n : Nat) (b : Bool) (ev : v0 k = (d, n, b)) :
    Met l yW_bits (zws yW_bits cW_bits 1 (some .int)) { frames := 1, cells := 0, slots := 0, locals := 30 } (zPc E (zD E B v0 o) [.ref (B + k)]) (va_Qi (fun (r : Int32) (v : Nat → zV) => v = v0 ∧ ∃ q : Nat, r = iZ q ∧ (n = 0 → q = 0) ∧ (n ≠ 0 → ∃ t, bl (d (n - 1)) t ∧ q = 28 * (n - 1) + t)) (fun v t => zD E B v o t.heap ∧ zK E t) (zA B 80)) 0 0 (zA B 80) := by
  refine zof_i (by decide) (Nat.le_of_ble_eq_true rfl) fun p e R s m args below meth c Q ls hR hx hb hml ht hown hK hZ hl hend => ?_
  have hS : va_S (zA B 80) s.heap s.heap [] := va_S.rf
  have hown : s.vm.findClass "WholeDesk$Whole" = some m.cls := hown
  have hl : lv_has ls 1 [(0, .ref (B + k))] := hl
  have hn : n ≤ 152 := by have := (hZ.2 k hk).2; rw [ev] at this; exact this
  have hd0 : ∀ i, d i < 268435456 := by have := (hZ.2 k hk).1; rw [ev] at this; exact this
  refine lv_aload_n hx hb dW_bits_0 rfl (lv_at hl 0 rfl) ?_
  refine zw_count hx hb ht hown hK hZ hk ev tw_34 dW_bits_1 ?_
  refine zr_if_ne (tgt := 11) hx hb (by omega) dW_bits_4 (by decide) (fun c_1 => ?_) (fun c_1 => ?_)
  · refine lv_aload_n hx hb dW_bits_11 rfl (lv_at hl 0 rfl) ?_
    refine zw_count hx hb ht hown hK hZ hk ev tw_34 dW_bits_12 ?_
    refine lv_iconst (v := iZ (1)) hx hb dW_bits_15 (by decide) ?_
    refine zr_isub hx hb dW_bits_16 ?_
    refine lv_bipush (v := iZ (28)) hx hb dW_bits_17 (by decide) ?_
    refine zr_imul hx hb dW_bits_19 ?_
    refine lv_aload_n hx hb dW_bits_20 rfl (lv_at hl 0 rfl) ?_
    refine lv_aload_n hx hb dW_bits_21 rfl (lv_at hl 0 rfl) ?_
    refine zw_count hx hb ht hown hK hZ hk ev tw_34 dW_bits_22 ?_
    refine lv_iconst (v := iZ (1)) hx hb dW_bits_25 (by decide) ?_
    refine zr_isub hx hb dW_bits_26 ?_
    refine zcV_l 1 (As := [.int (iZ (↑n - 1))]) (rest := [.int (iZ ((↑n - 1) * 28))]) rfl ⟨hx, hb, hml, hown, ht⟩ (mW_limb l E B v0 o k hk d n b ev (↑n - 1) (by omega)) tw_322 tw_319 tw_320 tw_321 tw_2 qW_limb (by rw [hR]; decide) (zW_recv hK hZ hk) hZ hK hl.1 rfl rfl (Nat.le_of_ble_eq_true rfl) dW_bits_27 ⟨Nat.zero_le _, Nat.zero_le _⟩ hS (fun r_2 v1 H locs hp hZ _ hS => ?_)
    obtain ⟨hv1, hr1⟩ := hp
    rw [hv1] at hZ
    subst hr1
    clear hv1 v1
    refine zcS_i 1 (As := [.long (lZ (↑(wz d n (↑n - 1))))]) (rest := [.int (iZ ((↑n - 1) * 28))]) ⟨hx, hb, hml, hown, ht⟩ (mW_digitsOf l E B v0 o (wz d n (↑n - 1)) (wz_lt hd0 n _)) tw_325 tw_323 tw_324 tw_2 qW_digitsOf (by rw [hR]; decide) hZ hK hl.1 rfl rfl (Nat.le_of_ble_eq_true rfl) dW_bits_30 ⟨Nat.zero_le _, Nat.zero_le _⟩ hS (fun r_4 v1 H locs hp hZ _ hS => ?_)
    obtain ⟨hv1, q_3, hr1, hq_3⟩ := hp
    rw [hv1] at hZ
    subst hr1
    clear hv1 v1
    refine zr_iadd hx hb dW_bits_33 ?_
    exact hend 34 (_) v0 _ _ _ dW_bits_34 (⟨rfl, 28 * (n - 1) + q_3, congrArg iZ (by omega), fun h => absurd h (by omega), fun _ => ⟨q_3, by rw [wz_in (by omega) (by omega), show ((n : Int) - 1).toNat = n - 1 by omega] at hq_3; exact hq_3, rfl⟩⟩) hZ hS
  · refine lv_iconst (v := iZ (0)) hx hb dW_bits_7 (by decide) ?_
    refine lv_goto (tgt := 34) hx hb dW_bits_8 (by decide) ?_
    exact hend 34 (_) v0 _ _ _ dW_bits_34 (⟨rfl, 0, rfl, fun _ => rfl, fun h => absurd (show n = 0 by omega) h⟩) hZ hS

set_option maxHeartbeats 4000000 in
set_option maxRecDepth 100000 in
theorem mW_sign (l : Launch) (E : zE) (B : Nat) (v0 : Nat → zV) (o : Nat → va_E) (k : Nat) (hk : lp k = true) (d : Nat → Nat) (n : Nat) (b : Bool) (ev : v0 k = (d, n, b)) :
    Met l yW_sign (zws yW_sign cW_sign 1 (some .int)) { frames := 0, cells := 0, slots := 0, locals := 0 } (zPc E (zD E B v0 o) [.ref (B + k)]) (va_Qi (fun (r : Int32) (v : Nat → zV) => v = v0 ∧ r = iZ (if n = 0 then 0 else if b = true then -1 else 1)) (fun v t => zD E B v o t.heap ∧ zK E t) (zA B 80)) 0 0 (zA B 80) := by
  refine zof_i (by decide) (Nat.le_of_ble_eq_true rfl) fun p e R s m args below meth c Q ls hR hx hb hml ht hown hK hZ hl hend => ?_
  have hS : va_S (zA B 80) s.heap s.heap [] := va_S.rf
  have hown : s.vm.findClass "WholeDesk$Whole" = some m.cls := hown
  have hl : lv_has ls 1 [(0, .ref (B + k))] := hl
  have hn : n ≤ 152 := by have := (hZ.2 k hk).2; rw [ev] at this; exact this
  refine lv_aload_n hx hb dW_sign_0 rfl (lv_at hl 0 rfl) ?_
  refine zw_count hx hb ht hown hK hZ hk ev tw_34 dW_sign_1 ?_
  refine zr_if_ne (tgt := 9) hx hb (by omega) dW_sign_4 (by decide) (fun c_1 => ?_) (fun c_1 => ?_)
  · refine lv_aload_n hx hb dW_sign_9 rfl (lv_at hl 0 rfl) ?_
    refine zw_below hx hb ht hown hK hZ hk ev tw_39 dW_sign_10 ?_
    refine zr_if_eq (tgt := 20) hx hb (by have := bZ_01 b; omega) dW_sign_13 (by decide) (fun c_2 => ?_) (fun c_2 => ?_)
    · refine lv_iconst (v := iZ (1)) hx hb dW_sign_20 (by decide) ?_
      exact hend 21 (_) v0 _ _ _ dW_sign_21 (⟨rfl, by rw [if_neg (by omega), if_neg (fun h9 => absurd (bZ_t.mpr h9) (by omega))]⟩) hZ hS
    · refine lv_iconst (v := iZ (-1)) hx hb dW_sign_16 (by decide) ?_
      refine lv_goto (tgt := 21) hx hb dW_sign_17 (by decide) ?_
      exact hend 21 (_) v0 _ _ _ dW_sign_21 (⟨rfl, by rw [if_neg (by omega), if_pos (bZ_nf.mp (by assumption))]⟩) hZ hS
  · refine lv_iconst (v := iZ (0)) hx hb dW_sign_7 (by decide) ?_
    exact hend 8 (_) v0 _ _ _ dW_sign_8 (⟨rfl, by rw [if_pos (by omega)]⟩) hZ hS

set_option maxHeartbeats 4000000 in
set_option maxRecDepth 100000 in
theorem mW_isOne (l : Launch) (E : zE) (B : Nat) (v0 : Nat → zV) (o : Nat → va_E) (k : Nat) (hk : lp k = true) (d : Nat → Nat) (n : Nat) (b : Bool) (ev : v0 k = (d, n, b)) :
    Met l yW_isOne (zws yW_isOne cW_isOne 1 (some .boolean)) { frames := 0, cells := 0, slots := 0, locals := 0 } (zPc E (zD E B v0 o) [.ref (B + k)]) (va_Qi (fun (r : Int32) (v : Nat → zV) => v = v0 ∧ r = iZ (bZ (decide (n = 1 ∧ d 0 = 1 ∧ b = false)))) (fun v t => zD E B v o t.heap ∧ zK E t) (zA B 80)) 0 0 (zA B 80) := by
  refine zof_z (by decide) (Nat.le_of_ble_eq_true rfl) fun p e R s m args below meth c Q ls hR hx hb hml ht hown hK hZ hl hend => ?_
  have hS : va_S (zA B 80) s.heap s.heap [] := va_S.rf
  have hown : s.vm.findClass "WholeDesk$Whole" = some m.cls := hown
  have hl : lv_has ls 1 [(0, .ref (B + k))] := hl
  have hn : n ≤ 152 := by have := (hZ.2 k hk).2; rw [ev] at this; exact this
  have hd0 : ∀ i, d i < 268435456 := by have := (hZ.2 k hk).1; rw [ev] at this; exact this
  refine lv_aload_n hx hb dW_isOne_0 rfl (lv_at hl 0 rfl) ?_
  refine zw_count hx hb ht hown hK hZ hk ev tw_34 dW_isOne_1 ?_
  refine lv_iconst (v := iZ (1)) hx hb dW_isOne_4 (by decide) ?_
  refine zr_icmp_ne (tgt := 30) hx hb (by omega) (by omega) dW_isOne_5 (by decide) (fun c_1 => ?_) (fun c_1 => ?_)
  · refine lv_iconst (v := iZ (0)) hx hb dW_isOne_30 (by decide) ?_
    exact hend 31 (false) v0 _ _ _ dW_isOne_31 (⟨rfl, by rw [show decide (n = 1 ∧ d 0 = 1 ∧ b = false) = false from decide_eq_false (fun h9 => by obtain ⟨h1, h2, h3⟩ := h9; subst h3; first | omega | (have : bZ false = 0 := rfl; omega))]⟩) hZ hS
  · refine lv_aload_n hx hb dW_isOne_8 rfl (lv_at hl 0 rfl) ?_
    refine zw_limbs hx hb ht hown hK hZ hk ev tw_31 dW_isOne_9 ?_
    refine lv_iconst (v := iZ (0)) hx hb dW_isOne_12 (by decide) ?_
    refine zw_ld hx hb hK hZ hk ev (by omega) (by omega) dW_isOne_13 ?_
    rw [show (0 : Int).toNat = 0 from by omega]
    refine lv_lconst (v := lZ (1)) hx hb dW_isOne_14 (by decide) ?_
    refine zr_lcmp_ne (tgt := 30) hx hb ⟨by omega, by have := hd0 0; omega⟩ (by omega) dW_isOne_15 dW_isOne_16 (by decide) (fun c_2 => ?_) (fun c_2 => ?_)
    · refine lv_iconst (v := iZ (0)) hx hb dW_isOne_30 (by decide) ?_
      exact hend 31 (false) v0 _ _ _ dW_isOne_31 (⟨rfl, by rw [show decide (n = 1 ∧ d 0 = 1 ∧ b = false) = false from decide_eq_false (fun h9 => by obtain ⟨h1, h2, h3⟩ := h9; subst h3; first | omega | (have : bZ false = 0 := rfl; omega))]⟩) hZ hS
    · refine lv_aload_n hx hb dW_isOne_19 rfl (lv_at hl 0 rfl) ?_
      refine zw_below hx hb ht hown hK hZ hk ev tw_39 dW_isOne_20 ?_
      refine zr_if_ne (tgt := 30) hx hb (by have := bZ_01 b; omega) dW_isOne_23 (by decide) (fun c_3 => ?_) (fun c_3 => ?_)
      · refine lv_iconst (v := iZ (0)) hx hb dW_isOne_30 (by decide) ?_
        exact hend 31 (false) v0 _ _ _ dW_isOne_31 (⟨rfl, by rw [show decide (n = 1 ∧ d 0 = 1 ∧ b = false) = false from decide_eq_false (fun h9 => by obtain ⟨h1, h2, h3⟩ := h9; subst h3; first | omega | (have : bZ false = 0 := rfl; omega))]⟩) hZ hS
      · refine lv_iconst (v := iZ (1)) hx hb dW_isOne_26 (by decide) ?_
        refine lv_goto (tgt := 31) hx hb dW_isOne_27 (by decide) ?_
        exact hend 31 (true) v0 _ _ _ dW_isOne_31 (⟨rfl, by rw [show decide (n = 1 ∧ d 0 = 1 ∧ b = false) = true from decide_eq_true ⟨by omega, by omega, bZ_f.mp (by assumption)⟩]⟩) hZ hS

theorem cmp_lt {a b : Nat} (h : a < b) : cmpZ a b = -1 := by unfold cmpZ; rw [if_pos (by omega)]
theorem cmp_gt {a b : Nat} (h : b < a) : cmpZ a b = 1 := by unfold cmpZ; rw [if_neg (by omega), if_neg (by omega)]
theorem cmp_eq {a b : Nat} (h : a = b) : cmpZ a b = 0 := by unfold cmpZ; rw [if_neg (by omega), if_pos (by omega)]
theorem lex3 {d d2 : Nat → Nat} {n n2 : Nat} {z : Int} (hd : ∀ i, d i < 268435456) (hI : ∀ i : Nat, z < i → i < n → d i = d2 i) (he : n = n2) (hz : 0 ≤ z ∧ z < n) (hlt : d z.toNat < d2 z.toNat) : wv d n < wv d2 n2 := by
  subst he
  exact wv_lex hd hlt n (by omega) (fun j h1 h2 => hI j (by omega) h2)
theorem lex4 {d d2 : Nat → Nat} {n n2 : Nat} {z : Int} (hd : ∀ i, d2 i < 268435456) (hI : ∀ i : Nat, z < i → i < n → d i = d2 i) (he : n = n2) (hz : 0 ≤ z ∧ z < n) (hlt : d2 z.toNat < d z.toNat) : wv d2 n2 < wv d n := by
  subst he
  exact wv_lex hd hlt n (by omega) (fun j h1 h2 => (hI j (by omega) h2).symm)
theorem lex5 {d d2 : Nat → Nat} {n n2 : Nat} {z : Int} (hI : ∀ i : Nat, z < i → i < n → d i = d2 i) (he : n = n2) (hz : z < 0) : wv d n = wv d2 n2 := by
  subst he
  exact wv_congr fun i hi => hI i (by omega) hi
set_option maxHeartbeats 4000000 in
set_option maxRecDepth 100000 in
theorem mW_sizeAgainst (l : Launch) (E : zE) (B : Nat) (v0 : Nat → zV) (o : Nat → va_E) (k : Nat) (hk : lp k = true) (d : Nat → Nat) (n : Nat) (b : Bool) (ev : v0 k = (d, n, b)) (j : Nat) (hj : lp j = true) (d2 : Nat → Nat) (n2 : Nat) (b2 : Bool) (ev2 : v0 j = (d2, n2, b2)) (hz1 : nz d n) (hz2 : nz d2 n2) :
    Met l yW_sizeAgainst (zws yW_sizeAgainst cW_sizeAgainst 3 (some .int)) { frames := 0, cells := 0, slots := 0, locals := 0 } (zPc E (zD E B v0 o) [.ref (B + k), .ref (B + j)]) (va_Qi (fun (r : Int32) (v : Nat → zV) => v = v0 ∧ r = iZ (cmpZ (wv d n) (wv d2 n2))) (fun v t => zD E B v o t.heap ∧ zK E t) (zA B 80)) 0 0 (zA B 80) := by
  refine zof_i (by decide) (Nat.le_of_ble_eq_true rfl) fun p e R s m args below meth c Q ls hR hx hb hml ht hown hK hZ hl hend => ?_
  have hS : va_S (zA B 80) s.heap s.heap [] := va_S.rf
  have hown : s.vm.findClass "WholeDesk$Whole" = some m.cls := hown
  have hl : lv_has ls 3 [(0, .ref (B + k)), (1, .ref (B + j))] := hl
  have hn : n ≤ 152 := by have := (hZ.2 k hk).2; rw [ev] at this; exact this
  have hd0 : ∀ i, d i < 268435456 := by have := (hZ.2 k hk).1; rw [ev] at this; exact this
  have hn2 : n2 ≤ 152 := by have := (hZ.2 j hj).2; rw [ev2] at this; exact this
  have hd2 : ∀ i, d2 i < 268435456 := by have := (hZ.2 j hj).1; rw [ev2] at this; exact this
  refine lv_aload_n hx hb dW_sizeAgainst_0 rfl (lv_at hl 0 rfl) ?_
  refine zw_count hx hb ht hown hK hZ hk ev tw_34 dW_sizeAgainst_1 ?_
  refine lv_aload_n hx hb dW_sizeAgainst_4 rfl (lv_at hl 1 rfl) ?_
  refine zw_count hx hb ht hown hK hZ hj ev2 tw_34 dW_sizeAgainst_5 ?_
  refine zr_icmp_eq (tgt := 28) hx hb (by omega) (by omega) dW_sizeAgainst_8 (by decide) (fun c_1 => ?_) (fun c_1 => ?_)
  · refine lv_aload_n hx hb dW_sizeAgainst_28 rfl (lv_at hl 0 rfl) ?_
    refine zw_count hx hb ht hown hK hZ hk ev tw_34 dW_sizeAgainst_29 ?_
    refine lv_iconst (v := iZ (1)) hx hb dW_sizeAgainst_32 (by decide) ?_
    refine zr_isub hx hb dW_sizeAgainst_33 ?_
    refine lv_istore_n (lv' := [(2, .int (iZ (↑n - 1))), (0, .ref (B + k)), (1, .ref (B + j))]) hx hb dW_sizeAgainst_34 rfl hl (by decide) rfl (fun ls hl => ?_)
    have L35 : ∀ (fu : Nat) (z : Int) (H : Heap) (locs : List Loc) (ls : Array Slot), (z + 1).toNat < fu → (∀ i : Nat, z < i → i < n → d i = d2 i) → (-1 ≤ z ∧ z < n) → (n = n2) → zD E B v0 o H → va_S (zA B 80) s.heap H locs → lv_has ls 3 [(0, .ref (B + k)), (1, .ref (B + j)), (2, .int (iZ (z)))] → W p l e R s m args below meth c H locs 0 0 Q (F0 m 35 ls []) := by
      intro fu
      induction fu with
      | zero => intro z H locs ls hm; exact absurd hm (Nat.not_lt_zero _)
      | succ fu ihL35 =>
        intro z H locs ls hm hI hzn hnn  hZ hS hl
        refine lv_iload_n hx hb dW_sizeAgainst_35 rfl (lv_at hl 2 rfl) ?_
        refine zr_if_lt (tgt := 83) hx hb (by omega) dW_sizeAgainst_36 (by decide) (fun c_2 => ?_) (fun c_2 => ?_)
        · refine lv_iconst (v := iZ (0)) hx hb dW_sizeAgainst_83 (by decide) ?_
          exact hend 84 (_) v0 _ _ _ dW_sizeAgainst_84 (⟨rfl, by rw [cmp_eq (lex5 hI (by omega) (by omega))]⟩) hZ hS
        · refine lv_aload_n hx hb dW_sizeAgainst_39 rfl (lv_at hl 0 rfl) ?_
          refine zw_limbs hx hb ht hown hK hZ hk ev tw_31 dW_sizeAgainst_40 ?_
          refine lv_iload_n hx hb dW_sizeAgainst_43 rfl (lv_at hl 2 rfl) ?_
          refine zw_ld hx hb hK hZ hk ev (by omega) (by omega) dW_sizeAgainst_44 ?_
          refine lv_aload_n hx hb dW_sizeAgainst_45 rfl (lv_at hl 1 rfl) ?_
          refine zw_limbs hx hb ht hown hK hZ hj ev2 tw_31 dW_sizeAgainst_46 ?_
          refine lv_iload_n hx hb dW_sizeAgainst_49 rfl (lv_at hl 2 rfl) ?_
          refine zw_ld hx hb hK hZ hj ev2 (by omega) (by omega) dW_sizeAgainst_50 ?_
          refine zr_lcmp_eq (tgt := 77) hx hb ⟨by omega, by have := hd0 z.toNat; omega⟩ ⟨by omega, by have := hd2 z.toNat; omega⟩ dW_sizeAgainst_51 dW_sizeAgainst_52 (by decide) (fun c_3 => ?_) (fun c_3 => ?_)
          · refine lv_iinc (v := iZ (z - 1)) (lv' := [(2, .int (iZ (z - 1))), (0, .ref (B + k)), (1, .ref (B + j))]) hx hb dW_sizeAgainst_77 hl (k := 2) rfl (iZ_dec _ _) (by decide) rfl (fun ls hl => ?_)
            refine lv_goto (tgt := 35) hx hb dW_sizeAgainst_80 (by decide) ?_
            exact ihL35 (z - 1)  _ _ _ (by omega) (fun i h1 h2 => by
              by_cases e : z = i
              · rw [← show z.toNat = i by omega]; omega
              · exact hI i (by omega) h2) (⟨by omega, by omega⟩) (hnn)  hZ hS (lv_sub hl [1, 2, 0] rfl)
          · refine lv_aload_n hx hb dW_sizeAgainst_55 rfl (lv_at hl 0 rfl) ?_
            refine zw_limbs hx hb ht hown hK hZ hk ev tw_31 dW_sizeAgainst_56 ?_
            refine lv_iload_n hx hb dW_sizeAgainst_59 rfl (lv_at hl 2 rfl) ?_
            refine zw_ld hx hb hK hZ hk ev (by omega) (by omega) dW_sizeAgainst_60 ?_
            refine lv_aload_n hx hb dW_sizeAgainst_61 rfl (lv_at hl 1 rfl) ?_
            refine zw_limbs hx hb ht hown hK hZ hj ev2 tw_31 dW_sizeAgainst_62 ?_
            refine lv_iload_n hx hb dW_sizeAgainst_65 rfl (lv_at hl 2 rfl) ?_
            refine zw_ld hx hb hK hZ hj ev2 (by omega) (by omega) dW_sizeAgainst_66 ?_
            refine zr_lcmp_ge (tgt := 75) hx hb ⟨by omega, by have := hd0 z.toNat; omega⟩ ⟨by omega, by have := hd2 z.toNat; omega⟩ dW_sizeAgainst_67 dW_sizeAgainst_68 (by decide) (fun c_4 => ?_) (fun c_4 => ?_)
            · refine lv_iconst (v := iZ (1)) hx hb dW_sizeAgainst_75 (by decide) ?_
              exact hend 76 (_) v0 _ _ _ dW_sizeAgainst_76 (⟨rfl, by rw [cmp_gt (lex4 hd2 hI (by omega) (by omega) (by omega))]⟩) hZ hS
            · refine lv_iconst (v := iZ (-1)) hx hb dW_sizeAgainst_71 (by decide) ?_
              refine lv_goto (tgt := 76) hx hb dW_sizeAgainst_72 (by decide) ?_
              exact hend 76 (_) v0 _ _ _ dW_sizeAgainst_76 (⟨rfl, by rw [cmp_lt (lex3 hd0 hI (by omega) (by omega) (by omega))]⟩) hZ hS
    exact L35 _ (↑n - 1)  _ _ _ (Nat.lt_succ_self _) (fun i h1 h2 => absurd h1 (by omega)) (⟨by omega, by omega⟩) (by omega)  hZ hS (lv_sub hl [1, 2, 0] rfl)
  · refine lv_aload_n hx hb dW_sizeAgainst_11 rfl (lv_at hl 0 rfl) ?_
    refine zw_count hx hb ht hown hK hZ hk ev tw_34 dW_sizeAgainst_12 ?_
    refine lv_aload_n hx hb dW_sizeAgainst_15 rfl (lv_at hl 1 rfl) ?_
    refine zw_count hx hb ht hown hK hZ hj ev2 tw_34 dW_sizeAgainst_16 ?_
    refine zr_icmp_ge (tgt := 26) hx hb (by omega) (by omega) dW_sizeAgainst_19 (by decide) (fun c_5 => ?_) (fun c_5 => ?_)
    · refine lv_iconst (v := iZ (1)) hx hb dW_sizeAgainst_26 (by decide) ?_
      exact hend 27 (_) v0 _ _ _ dW_sizeAgainst_27 (⟨rfl, by rw [cmp_gt (wv_len hd2 hz1 (by omega))]⟩) hZ hS
    · refine lv_iconst (v := iZ (-1)) hx hb dW_sizeAgainst_22 (by decide) ?_
      refine lv_goto (tgt := 27) hx hb dW_sizeAgainst_23 (by decide) ?_
      exact hend 27 (_) v0 _ _ _ dW_sizeAgainst_27 (⟨rfl, by rw [cmp_lt (wv_len hd0 hz2 (by omega))]⟩) hZ hS
