set_option maxHeartbeats 4000000 in
set_option maxRecDepth 100000 in
theorem mW_shrink (l : Launch) (E : zE) (B : Nat) (v0 : Nat → zV) (o : Nat → va_E) (k : Nat) (hk : lp k = true) (d : Nat → Nat) (n : Nat) (b : Bool) (ev : v0 k = (d, n, b)) (dv : Nat) (hdv0 : 0 < dv) (hdv : dv ≤ 268435456) :
    Met l yW_shrink (zws yW_shrink cW_shrink 8 (some .long)) { frames := 1, cells := 0, slots := 0, locals := 20 } (zPc E (zD E B v0 o) [.ref (B + k), .long (lZ (↑dv))]) (va_Ql (fun (r : Int64) (v : Nat → zV) => (∀ j, j ≠ k → v j = v0 j) ∧ ∃ q r0 : Nat, r = lZ r0 ∧ r0 < dv ∧ q * dv + r0 = wv d n ∧ zN (v k) (if b = true then -(q : Int) else (q : Int))) (fun v t => zD E B v o t.heap ∧ zK E t) (zA B 80)) 0 0 (zA B 80) := by
  refine zof_l (by decide) (Nat.le_of_ble_eq_true rfl) fun p e R s m args below meth c Q ls hR hx hb hml ht hown hK hZ hl hend => ?_
  have hS : va_S (zA B 80) s.heap s.heap [] := va_S.rf
  have hown : s.vm.findClass "WholeDesk$Whole" = some m.cls := hown
  have hl : lv_has ls 8 [(0, .ref (B + k)), (1, .long (lZ (↑dv)))] := hl
  have hn : n ≤ 152 := by have := (hZ.2 k hk).2; rw [ev] at this; exact this
  have hd0 : ∀ i, d i < 268435456 := by have := (hZ.2 k hk).1; rw [ev] at this; exact this
  have fr : ∀ j, j ≠ k → v0 j = v0 j := fun j _ => rfl
  refine lv_lload_n hx hb dW_shrink_0 rfl (lv_at hl 1 rfl) ?_
  refine lv_lconst (v := lZ (0)) hx hb dW_shrink_1 (by decide) ?_
  refine zr_lcmp_gt (tgt := 8) hx hb (by omega) (by omega) dW_shrink_2 dW_shrink_3 (by decide) (fun c_1 => ?_) (fun c_1 => ?_)
  · refine lv_lconst (v := lZ (0)) hx hb dW_shrink_8 (by decide) ?_
    refine lv_lstore_n (lv' := [(3, .long (lZ (0))), (0, .ref (B + k)), (1, .long (lZ (↑dv)))]) hx hb dW_shrink_9 rfl hl (by decide) rfl (fun ls hl => ?_)
    refine lv_aload_n hx hb dW_shrink_10 rfl (lv_at hl 1 rfl) ?_
    refine zw_count hx hb ht hown hK hZ hk ev tw_34 dW_shrink_11 ?_
    refine lv_iconst (v := iZ (1)) hx hb dW_shrink_14 (by decide) ?_
    refine zr_isub hx hb dW_shrink_15 ?_
    refine lv_istore (lv' := [(5, .int (iZ (↑n - 1))), (3, .long (lZ (0))), (0, .ref (B + k)), (1, .long (lZ (↑dv)))]) hx hb dW_shrink_16 hl (by decide) rfl (fun ls hl => ?_)
    have L18 : ∀ (fu : Nat) (i : Nat) (d1 : Nat → Nat) (r1 : Nat) (v : Nat → zV) (H : Heap) (locs : List Loc) (ls : Array Slot), i < fu → (wv d1 n * dv + r1 * wP i + wv d i = wv d n + wv d i * dv) → (∀ q, q < i → d1 q = d q) → (r1 < dv) → (i ≤ n) → v k = (d1, n, b) → (∀ j, j ≠ k → v j = v0 j) → zD E B v o H → va_S (zA B 80) s.heap H locs → lv_has ls 8 [(0, .ref (B + k)), (1, .long (lZ (↑dv))), (3, .long (lZ (↑r1))), (5, .int (iZ (↑i - 1)))] → W p l e R s m args below meth c H locs 0 0 Q (F0 m 18 ls []) := by
      intro fu
      induction fu with
      | zero => intro i d1 r1 v H locs ls hm; exact absurd hm (Nat.not_lt_zero _)
      | succ fu ihL18 =>
        intro i d1 r1 v H locs ls hm hI hu hr1 hi ev fr hZ hS hl
        refine lv_iload hx hb dW_shrink_18 (lv_at hl 3 rfl) ?_
        refine zr_if_lt (tgt := 67) hx hb (by omega) dW_shrink_20 (by decide) (fun c_2 => ?_) (fun c_2 => ?_)
        · have hi0 : i = 0 := by omega
          subst hi0
          rw [wv_0, wP_0, Nat.mul_one, Nat.add_zero, Nat.zero_mul, Nat.add_zero] at hI
          refine lv_aload_n hx hb dW_shrink_67 rfl (lv_at hl 0 rfl) ?_
          refine zcV_v 0 (As := []) (rest := []) rfl ⟨hx, hb, hml, hown, ht⟩ (mW_trim l E B v o k hk d1 n b ev) tw_295 tw_292 tw_293 tw_294 tw_2 qW_trim (by rw [hR]; decide) (zW_recv hK hZ hk) hZ hK hl.1 rfl rfl (Nat.le_of_ble_eq_true rfl) dW_shrink_68 ⟨Nat.zero_le _, Nat.zero_le _⟩ hS (fun  v H locs hp hZ _ hS => ?_)
          obtain ⟨ho, n_3, ev, hn_3le, hn_3z, hn_3nz⟩ := hp
          have fr : ∀ j, j ≠ k → v j = v0 j := fun j h0 => (ho j h0).trans (fr j h0)
          refine lv_lload_n hx hb dW_shrink_71 rfl (lv_at hl 2 rfl) ?_
          exact hend 72 (_) v _ _ _ dW_shrink_72 (⟨fr, wv d1 n, r1, rfl, hr1, hI, by rw [ev]; exact zN_trim (b := b) hn_3le hn_3z hn_3nz⟩) hZ hS
        · refine lv_lload_n hx hb dW_shrink_23 rfl (lv_at hl 2 rfl) ?_
          refine lv_bipush (v := iZ (28)) hx hb dW_shrink_24 (by decide) ?_
          refine zr_lshl (n := 28) (P := 268435456) hx hb (Nat.le_of_ble_eq_true rfl) (p2_28) dW_shrink_26 ?_
          refine lv_aload_n hx hb dW_shrink_27 rfl (lv_at hl 0 rfl) ?_
          refine zw_limbs hx hb ht hown hK hZ hk ev tw_31 dW_shrink_28 ?_
          refine lv_iload hx hb dW_shrink_31 (lv_at hl 3 rfl) ?_
          refine zw_ld hx hb hK hZ hk ev (by omega) (by omega) dW_shrink_33 ?_
          rw [show (↑i - 1 : Int).toNat = i - 1 from by omega]
          refine zc_l (y := lZ (↑(d (i - 1)))) (congrArg lZ (by rw [hu _ (by omega)])) ?_
          have hdi := hd0 (i - 1)
          refine zr_lor (n := 28) (P := 268435456) hx hb p2_28 (by omega) (by omega) (by omega) (by omega) dW_shrink_34 ?_
          obtain ⟨pt, hpt⟩ : ∃ t : Nat, t = r1 * 268435456 + d (i - 1) := ⟨_, rfl⟩
          refine zc_l (y := lZ ↑pt) (congrArg lZ (by omega)) ?_
          have hpl : pt / dv < 268435456 := (Nat.div_lt_iff_lt_mul hdv0).mpr (by rw [hpt]; have h9 : r1 * 268435456 + 268435456 ≤ dv * 268435456 := (by rw [← Nat.succ_mul]; exact Nat.mul_le_mul_right _ hr1); omega)
          refine lv_lstore (lv' := [(6, .long (lZ (↑pt))), (0, .ref (B + k)), (1, .long (lZ (↑dv))), (3, .long (lZ (↑r1))), (5, .int (iZ (↑i - 1)))]) hx hb dW_shrink_35 hl (by decide) rfl (fun ls hl => ?_)
          refine lv_aload_n hx hb dW_shrink_37 rfl (lv_at hl 1 rfl) ?_
          refine zw_limbs hx hb ht hown hK hZ hk ev tw_31 dW_shrink_38 ?_
          refine lv_iload hx hb dW_shrink_41 (lv_at hl 4 rfl) ?_
          refine lv_lload hx hb dW_shrink_43 (lv_at hl 0 rfl) ?_
          refine lv_lload_n hx hb dW_shrink_45 rfl (lv_at hl 2 rfl) ?_
          refine zr_ldiv hx hb (by omega) (by omega) (by omega) (by omega) dW_shrink_46 ?_
          rw [show (↑pt / ↑dv : Int) = ((pt / dv : Nat) : Int) from (Int.natCast_ediv _ _).symm]
          refine zw_st (x := pt / dv) hx hb hK hZ hk ev hS (by omega) (by omega) (hpl) dW_shrink_47 (fun v H locs ev ho hZ hS => ?_)
          rw [show (↑i - 1 : Int).toNat = i - 1 from by omega] at ev
          have fr : ∀ j, j ≠ k → v j = v0 j := fun j h0 => (ho j h0).trans (fr j h0)
          refine lv_lload hx hb dW_shrink_48 (lv_at hl 0 rfl) ?_
          refine lv_aload_n hx hb dW_shrink_50 rfl (lv_at hl 1 rfl) ?_
          refine zw_limbs hx hb ht hown hK hZ hk ev tw_31 dW_shrink_51 ?_
          refine lv_iload hx hb dW_shrink_54 (lv_at hl 4 rfl) ?_
          refine zw_ld hx hb hK hZ hk ev (by omega) (by omega) dW_shrink_56 ?_
          rw [show (↑i - 1 : Int).toNat = i - 1 from by omega]
          refine zc_l (y := lZ (↑(pt / dv))) (congrArg lZ (by rw [va_up_self])) ?_
          refine lv_lload_n hx hb dW_shrink_57 rfl (lv_at hl 2 rfl) ?_
          refine zr_lmul hx hb dW_shrink_58 ?_
          refine zr_lsub hx hb dW_shrink_59 ?_
          refine zc_l (y := lZ (↑(pt % dv))) (congrArg lZ (by have h9 := Nat.div_add_mod pt dv; rw [Nat.mul_comm] at h9; have h8 : ((pt / dv : Nat) : Int) * (dv : Int) = ((pt / dv * dv : Nat) : Int) := (Int.natCast_mul _ _).symm; rw [h8]; omega)) ?_
          refine lv_lstore_n (lv' := [(3, .long (lZ (↑(pt % dv)))), (6, .long (lZ (↑pt))), (0, .ref (B + k)), (1, .long (lZ (↑dv))), (5, .int (iZ (↑i - 1)))]) hx hb dW_shrink_60 rfl hl (by decide) rfl (fun ls hl => ?_)
          refine lv_iinc (v := iZ (↑i - 1 - 1)) (lv' := [(5, .int (iZ (↑i - 1 - 1))), (3, .long (lZ (↑(pt % dv)))), (6, .long (lZ (↑pt))), (0, .ref (B + k)), (1, .long (lZ (↑dv)))]) hx hb dW_shrink_61 hl (k := 4) rfl (iZ_dec _ _) (by decide) rfl (fun ls hl => ?_)
          refine lv_goto (tgt := 18) hx hb dW_shrink_64 (by decide) ?_
          rw [show (↑i - 1 - 1 : Int) = ↑(i - 1) - 1 from by omega] at hl
          exact ihL18 (i - 1) (va_up d1 (i - 1) (pt / dv)) (pt % dv) v _ _ _ (by omega) (shrink_step2 (by omega) hi hu hI (by rw [← hpt, Nat.mul_comm]; exact (Nat.div_add_mod pt dv).symm)) (fun q hq => by rw [va_up_ne _ _ (by omega)]; exact hu q (by omega)) (Nat.mod_lt _ hdv0) (by omega) ev fr hZ hS (lv_sub hl [3, 4, 1, 0] rfl)
    exact L18 _ n d 0 v0 _ _ _ (Nat.lt_succ_self _) (by rw [Nat.zero_mul, Nat.add_zero, Nat.add_comm]) (fun _ _ => rfl) (hdv0) (Nat.le_refl _) ev fr hZ hS (lv_sub hl [2, 3, 1, 0] rfl)
  · exfalso; omega

set_option maxHeartbeats 4000000 in
set_option maxRecDepth 100000 in
theorem mW_becomeLackTo (l : Launch) (E : zE) (B : Nat) (v0 : Nat → zV) (o : Nat → va_E) (k : Nat) (hk : lp k = true) (d : Nat → Nat) (n : Nat) (b : Bool) (ev : v0 k = (d, n, b)) (j : Nat) (hj : lp j = true) (d2 : Nat → Nat) (n2 : Nat) (b2 : Bool) (ev2 : v0 j = (d2, n2, b2)) (hjk : j ≠ k) (hle : wv d n ≤ wv d2 n2) :
    Met l yW_becomeLackTo (zws yW_becomeLackTo cW_becomeLackTo 7 none) { frames := 2, cells := 0, slots := 0, locals := 60 } (zPc E (zD E B v0 o) [.ref (B + k), .ref (B + j)]) (va_Qv (fun v : Nat → zV => (∀ j, j ≠ k → v j = v0 j) ∧ zN (v k) ((wv d2 n2 : Int) - wv d n)) (fun v t => zD E B v o t.heap ∧ zK E t) (zA B 80)) 0 0 (zA B 80) := by
  refine zof_v (by decide) (Nat.le_of_ble_eq_true rfl) fun p e R s m args below meth c Q ls hR hx hb hml ht hown hK hZ hl hend => ?_
  have hS : va_S (zA B 80) s.heap s.heap [] := va_S.rf
  have hown : s.vm.findClass "WholeDesk$Whole" = some m.cls := hown
  have hl : lv_has ls 7 [(0, .ref (B + k)), (1, .ref (B + j))] := hl
  have hn : n ≤ 152 := by have := (hZ.2 k hk).2; rw [ev] at this; exact this
  have hd0 : ∀ i, d i < 268435456 := by have := (hZ.2 k hk).1; rw [ev] at this; exact this
  have hn2 : n2 ≤ 152 := by have := (hZ.2 j hj).2; rw [ev2] at this; exact this
  have hd2 : ∀ i, d2 i < 268435456 := by have := (hZ.2 j hj).1; rw [ev2] at this; exact this
  have fr : ∀ j, j ≠ k → v0 j = v0 j := fun j _ => rfl
  refine lv_aload_n hx hb dW_becomeLackTo_0 rfl (lv_at hl 0 rfl) ?_
  refine lv_aload_n hx hb dW_becomeLackTo_1 rfl (lv_at hl 1 rfl) ?_
  refine zw_count hx hb ht hown hK hZ hj ev2 tw_34 dW_becomeLackTo_2 ?_
  refine zcV_v 1 (As := [.int (iZ (↑n2))]) (rest := []) rfl ⟨hx, hb, hml, hown, ht⟩ (mW_stretch l E B v0 o k hk d n b ev (↑n2) (by omega)) tw_304 tw_301 tw_302 tw_303 tw_2 qW_stretch (by rw [hR]; decide) (zW_recv hK hZ hk) hZ hK hl.1 rfl rfl (Nat.le_of_ble_eq_true rfl) dW_becomeLackTo_5 ⟨Nat.zero_le _, Nat.zero_le _⟩ hS (fun  v H locs hp hZ _ hS => ?_)
  obtain ⟨ho, d_2, n_1, ev, hn_1, hd_2lo, hd_2hi⟩ := hp
  have ev2 := (ho j hjk).trans ev2
  have fr : ∀ j, j ≠ k → v j = v0 j := fun j h0 => (ho j h0).trans (fr j h0)
  have hda : ∀ i, d_2 i < 268435456 := by have := (hZ.2 k hk).1; rw [ev] at this; exact this
  refine lv_lconst (v := lZ (0)) hx hb dW_becomeLackTo_8 (by decide) ?_
  refine lv_lstore_n (lv' := [(2, .long (lZ (0))), (0, .ref (B + k)), (1, .ref (B + j))]) hx hb dW_becomeLackTo_9 rfl hl (by decide) rfl (fun ls hl => ?_)
  refine lv_iconst (v := iZ (0)) hx hb dW_becomeLackTo_10 (by decide) ?_
  refine lv_istore (lv' := [(4, .int (iZ (0))), (2, .long (lZ (0))), (0, .ref (B + k)), (1, .ref (B + j))]) hx hb dW_becomeLackTo_11 hl (by decide) rfl (fun ls hl => ?_)
  have L13 : ∀ (fu : Nat) (i : Nat) (d1 : Nat → Nat) (c1 : Int) (v : Nat → zV) (H : Heap) (locs : List Loc) (ls : Array Slot), n_1 - i < fu → ((wv d1 i : Int) + c1 * wP i = wv (wx d2 n2) i - wv d_2 i) → (∀ q, i ≤ q → d1 q = d_2 q) → (-1 ≤ c1 ∧ c1 ≤ 0) → (i ≤ n_1) → v k = (d1, n_1, b) → v j = (d2, n2, b2) → (∀ j, j ≠ k → v j = v0 j) → zD E B v o H → va_S (zA B 80) s.heap H locs → lv_has ls 7 [(0, .ref (B + k)), (1, .ref (B + j)), (2, .long (lZ (c1))), (4, .int (iZ (↑i)))] → W p l e R s m args below meth c H locs 0 0 Q (F0 m 13 ls []) := by
    intro fu
    induction fu with
    | zero => intro i d1 c1 v H locs ls hm; exact absurd hm (Nat.not_lt_zero _)
    | succ fu ihL13 =>
      intro i d1 c1 v H locs ls hm hI hu hc1 hi ev ev2 fr hZ hS hl
      refine lv_iload hx hb dW_becomeLackTo_13 (lv_at hl 3 rfl) ?_
      refine lv_aload_n hx hb dW_becomeLackTo_15 rfl (lv_at hl 0 rfl) ?_
      refine zw_count hx hb ht hown hK hZ hk ev tw_34 dW_becomeLackTo_16 ?_
      refine zr_icmp_ge (tgt := 65) hx hb (by omega) (by omega) dW_becomeLackTo_19 (by decide) (fun c_3 => ?_) (fun c_3 => ?_)
      · have hin : i = n_1 := by omega
        rw [hin] at hI
        have hd1b : ∀ i, d1 i < 268435456 := by have := (hZ.2 k hk).1; rw [ev] at this; exact this
        have hfin := lack_end hd1b hd2 hd_2lo hd_2hi (by omega) (by omega) hle hI
        refine lv_aload_n hx hb dW_becomeLackTo_65 rfl (lv_at hl 0 rfl) ?_
        refine lv_iconst (v := iZ (0)) hx hb dW_becomeLackTo_66 (by decide) ?_
        refine W.eq (g2 := F0 m 67 ls (.int (iZ (bZ false)) :: .ref (B + k) :: [])) rfl ?_
        refine zw_put_below (b1 := false) hx hb ht hown hK hZ hk ev hS tw_39 dW_becomeLackTo_67 (fun v H locs ev ho hZ hS => ?_)
        have ev2 := (ho j hjk).trans ev2
        have fr : ∀ j, j ≠ k → v j = v0 j := fun j h0 => (ho j h0).trans (fr j h0)
        refine lv_aload_n hx hb dW_becomeLackTo_70 rfl (lv_at hl 0 rfl) ?_
        refine zcV_v 0 (As := []) (rest := []) rfl ⟨hx, hb, hml, hown, ht⟩ (mW_trim l E B v o k hk d1 n_1 false ev) tw_295 tw_292 tw_293 tw_294 tw_2 qW_trim (by rw [hR]; decide) (zW_recv hK hZ hk) hZ hK hl.1 rfl rfl (Nat.le_of_ble_eq_true rfl) dW_becomeLackTo_71 ⟨Nat.zero_le _, Nat.zero_le _⟩ hS (fun  v H locs hp hZ _ hS => ?_)
        obtain ⟨ho, n_4, ev, hn_4le, hn_4z, hn_4nz⟩ := hp
        have ev2 := (ho j hjk).trans ev2
        have fr : ∀ j, j ≠ k → v j = v0 j := fun j h0 => (ho j h0).trans (fr j h0)
        exact hend 74 v _ _ _ dW_becomeLackTo_74 (⟨fr, by
          rw [ev]
          have h9 := zN_trim (b := false) hn_4le hn_4z hn_4nz
          rw [if_neg (by decide), hfin] at h9
          exact h9⟩) hZ hS
      · refine lv_aload_n hx hb dW_becomeLackTo_22 rfl (lv_at hl 1 rfl) ?_
        refine lv_iload hx hb dW_becomeLackTo_23 (lv_at hl 3 rfl) ?_
        refine zcV_l 1 (As := [.int (iZ (↑i))]) (rest := []) rfl ⟨hx, hb, hml, hown, ht⟩ (mW_limb l E B v o j hj d2 n2 b2 ev2 (↑i) (by omega)) tw_322 tw_319 tw_320 tw_321 tw_2 qW_limb (by rw [hR]; decide) (zW_recv hK hZ hj) hZ hK hl.1 rfl rfl (Nat.le_of_ble_eq_true rfl) dW_becomeLackTo_25 ⟨Nat.zero_le _, Nat.zero_le _⟩ hS (fun r_5 v1 H locs hp hZ _ hS => ?_)
        obtain ⟨hv1, hr1⟩ := hp
        rw [hv1] at hZ
        subst hr1
        clear hv1 v1
        refine zc_l (y := lZ (↑(wx d2 n2 i))) (congrArg lZ (by rw [wz_nat])) ?_
        refine lv_aload_n hx hb dW_becomeLackTo_28 rfl (lv_at hl 0 rfl) ?_
        refine zw_limbs hx hb ht hown hK hZ hk ev tw_31 dW_becomeLackTo_29 ?_
        refine lv_iload hx hb dW_becomeLackTo_32 (lv_at hl 3 rfl) ?_
        refine zw_ld hx hb hK hZ hk ev (by omega) (by omega) dW_becomeLackTo_34 ?_
        rw [show (↑i : Int).toNat = i from by omega]
        refine zc_l (y := lZ (↑(d_2 i))) (congrArg lZ (by rw [hu _ (Nat.le_refl _)])) ?_
        refine zr_lsub hx hb dW_becomeLackTo_35 ?_
        refine lv_lload_n hx hb dW_becomeLackTo_36 rfl (lv_at hl 2 rfl) ?_
        refine zr_ladd hx hb dW_becomeLackTo_37 ?_
        obtain ⟨zz, hzz⟩ : ∃ t : Int, t = ((↑(wx d2 n2 i)) - (↑(d_2 i))) + c1 := ⟨_, rfl⟩
        have hda1 := hda i
        have hda2 := wx_lt hd2 n2 i
        refine zc_l (y := lZ (zz)) (congrArg lZ hzz.symm) ?_
        refine lv_lstore (lv' := [(5, .long (lZ (zz))), (0, .ref (B + k)), (1, .ref (B + j)), (2, .long (lZ (c1))), (4, .int (iZ (↑i)))]) hx hb dW_becomeLackTo_38 hl (by decide) rfl (fun ls hl => ?_)
        refine lv_aload_n hx hb dW_becomeLackTo_40 rfl (lv_at hl 1 rfl) ?_
        refine zw_limbs hx hb ht hown hK hZ hk ev tw_31 dW_becomeLackTo_41 ?_
        refine lv_iload hx hb dW_becomeLackTo_44 (lv_at hl 4 rfl) ?_
        refine lv_lload hx hb dW_becomeLackTo_46 (lv_at hl 0 rfl) ?_
        refine lv_ldc2 (v := lZ (268435455)) hx hb hown (ht _ tw_291) dW_becomeLackTo_48 ?_
        refine zr_mask (n := 28) (P := 268435456) hx hb (Nat.le_of_ble_eq_true rfl) p2_28 m2_28 dW_becomeLackTo_51 ?_
        rw [show (zz % 268435456 : Int) = (((zz % 268435456).toNat : Nat) : Int) from by omega]
        refine zw_st (x := (zz % 268435456).toNat) hx hb hK hZ hk ev hS (by omega) (by omega) (by omega) dW_becomeLackTo_52 (fun v H locs ev ho hZ hS => ?_)
        rw [show (↑i : Int).toNat = i from by omega] at ev
        have ev2 := (ho j hjk).trans ev2
        have fr : ∀ j, j ≠ k → v j = v0 j := fun j h0 => (ho j h0).trans (fr j h0)
        refine lv_lload hx hb dW_becomeLackTo_53 (lv_at hl 0 rfl) ?_
        refine lv_bipush (v := iZ (28)) hx hb dW_becomeLackTo_55 (by decide) ?_
        refine zr_lshr (n := 28) (P := 268435456) hx hb (by omega) (Nat.le_of_ble_eq_true rfl) (p2_28) dW_becomeLackTo_57 ?_
        refine lv_lstore_n (lv' := [(2, .long (lZ (zz / 268435456))), (5, .long (lZ (zz))), (0, .ref (B + k)), (1, .ref (B + j)), (4, .int (iZ (↑i)))]) hx hb dW_becomeLackTo_58 rfl hl (by decide) rfl (fun ls hl => ?_)
        refine lv_iinc (v := iZ (↑i + 1)) (lv' := [(4, .int (iZ (↑i + 1))), (2, .long (lZ (zz / 268435456))), (5, .long (lZ (zz))), (0, .ref (B + k)), (1, .ref (B + j))]) hx hb dW_becomeLackTo_59 hl (k := 4) rfl (iZ_add _ _) (by decide) rfl (fun ls hl => ?_)
        refine lv_goto (tgt := 13) hx hb dW_becomeLackTo_62 (by decide) ?_
        exact ihL13 (i + 1) (va_up d1 i (zz % 268435456).toNat) (zz / 268435456) v _ _ _ (by omega) (lack_step hI hzz) (fun q hq => by rw [va_up_ne _ _ (by omega)]; exact hu q (by omega)) (by omega) (by omega) ev ev2 fr hZ hS (lv_sub hl [3, 4, 1, 0] rfl)
  exact L13 _ 0 d_2 0 v _ _ _ (Nat.lt_succ_self _) (by simp [wv]) (fun _ _ => rfl) (by omega) (by omega) ev ev2 fr hZ hS (lv_sub hl [2, 3, 1, 0] rfl)

set_option maxHeartbeats 4000000 in
set_option maxRecDepth 100000 in
theorem mW_becomeProduct (l : Launch) (E : zE) (B : Nat) (v0 : Nat → zV) (o : Nat → va_E) (k : Nat) (hk : lp k = true) (d : Nat → Nat) (n : Nat) (b : Bool) (ev : v0 k = (d, n, b)) (j : Nat) (hj : lp j = true) (d2 : Nat → Nat) (n2 : Nat) (b2 : Bool) (ev2 : v0 j = (d2, n2, b2)) (t : Nat) (htt : lp t = true) (d3 : Nat → Nat) (n3 : Nat) (b3 : Bool) (ev3 : v0 t = (d3, n3, b3)) (hjk : j ≠ k) (htk : t ≠ k) (hnn : n2 + n3 ≤ 152) :
    Met l yW_becomeProduct (zws yW_becomeProduct cW_becomeProduct 13 none) { frames := 1, cells := 0, slots := 0, locals := 32 } (zPc E (zD E B v0 o) [.ref (B + k), .ref (B + j), .ref (B + t)]) (va_Qv (fun v : Nat → zV => (∀ j, j ≠ k → v j = v0 j) ∧ zN (v k) (if (b2 != b3) = true then -((wv d2 n2 * wv d3 n3 : Nat) : Int) else ((wv d2 n2 * wv d3 n3 : Nat) : Int))) (fun v t => zD E B v o t.heap ∧ zK E t) (zA B 80)) 0 0 (zA B 80) := by
  refine zof_v (by decide) (Nat.le_of_ble_eq_true rfl) fun p e R s m args below meth c Q ls hR hx hb hml ht hown hK hZ hl hend => ?_
  have hS : va_S (zA B 80) s.heap s.heap [] := va_S.rf
  have hown : s.vm.findClass "WholeDesk$Whole" = some m.cls := hown
  have hl : lv_has ls 13 [(0, .ref (B + k)), (1, .ref (B + j)), (2, .ref (B + t))] := hl
  have hn : n ≤ 152 := by have := (hZ.2 k hk).2; rw [ev] at this; exact this
  have hd0 : ∀ i, d i < 268435456 := by have := (hZ.2 k hk).1; rw [ev] at this; exact this
  have hn2 : n2 ≤ 152 := by have := (hZ.2 j hj).2; rw [ev2] at this; exact this
  have hd2 : ∀ i, d2 i < 268435456 := by have := (hZ.2 j hj).1; rw [ev2] at this; exact this
  have hn3 : n3 ≤ 152 := by have := (hZ.2 t htt).2; rw [ev3] at this; exact this
  have hd3 : ∀ i, d3 i < 268435456 := by have := (hZ.2 t htt).1; rw [ev3] at this; exact this
  have fr : ∀ j, j ≠ k → v0 j = v0 j := fun j _ => rfl
  refine lv_aload_n hx hb dW_becomeProduct_0 rfl (lv_at hl 1 rfl) ?_
  refine zw_limbs hx hb ht hown hK hZ hj ev2 tw_31 dW_becomeProduct_1 ?_
  refine lv_astore_n (lv' := [(3, .ref (B + (j + 1))), (0, .ref (B + k)), (1, .ref (B + j)), (2, .ref (B + t))]) hx hb dW_becomeProduct_4 rfl hl (by decide) rfl (fun ls hl => ?_)
  refine lv_aload_n hx hb dW_becomeProduct_5 rfl (lv_at hl 3 rfl) ?_
  refine zw_limbs hx hb ht hown hK hZ htt ev3 tw_31 dW_becomeProduct_6 ?_
  refine lv_astore (lv' := [(4, .ref (B + (t + 1))), (3, .ref (B + (j + 1))), (0, .ref (B + k)), (1, .ref (B + j)), (2, .ref (B + t))]) hx hb dW_becomeProduct_9 hl (by decide) rfl (fun ls hl => ?_)
  refine lv_aload_n hx hb dW_becomeProduct_11 rfl (lv_at hl 3 rfl) ?_
  refine zw_count hx hb ht hown hK hZ hj ev2 tw_34 dW_becomeProduct_12 ?_
  refine lv_aload_n hx hb dW_becomeProduct_15 rfl (lv_at hl 4 rfl) ?_
  refine zw_count hx hb ht hown hK hZ htt ev3 tw_34 dW_becomeProduct_16 ?_
  refine zr_iadd hx hb dW_becomeProduct_19 ?_
  refine lv_sipush (v := iZ (152)) hx hb dW_becomeProduct_20 (by decide) ?_
  refine zr_min hx hb (by rw [hml]; exact hl.1.symm) ht hown tw_305 (by rw [hR]; decide) (by rw [hR]; exact Nat.le_of_ble_eq_true rfl) (Nat.zero_le _) (Nat.zero_le _) (by omega) (by omega) dW_becomeProduct_23 ?_
  refine lv_istore (lv' := [(5, .int (iZ (min (↑n2 + ↑n3 : Int) (152 : Int)))), (4, .ref (B + (t + 1))), (3, .ref (B + (j + 1))), (0, .ref (B + k)), (1, .ref (B + j)), (2, .ref (B + t))]) hx hb dW_becomeProduct_26 hl (by decide) rfl (fun ls hl => ?_)
  refine lv_lconst (v := lZ (0)) hx hb dW_becomeProduct_28 (by decide) ?_
  refine lv_lstore (lv' := [(6, .long (lZ (0))), (5, .int (iZ (min (↑n2 + ↑n3 : Int) (152 : Int)))), (4, .ref (B + (t + 1))), (3, .ref (B + (j + 1))), (0, .ref (B + k)), (1, .ref (B + j)), (2, .ref (B + t))]) hx hb dW_becomeProduct_29 hl (by decide) rfl (fun ls hl => ?_)
  refine lv_iconst (v := iZ (0)) hx hb dW_becomeProduct_31 (by decide) ?_
  refine lv_istore (lv' := [(8, .int (iZ (0))), (6, .long (lZ (0))), (5, .int (iZ (min (↑n2 + ↑n3 : Int) (152 : Int)))), (4, .ref (B + (t + 1))), (3, .ref (B + (j + 1))), (0, .ref (B + k)), (1, .ref (B + j)), (2, .ref (B + t))]) hx hb dW_becomeProduct_32 hl (by decide) rfl (fun ls hl => ?_)
  have L34 : ∀ (fu : Nat) (q : Nat) (d1 : Nat → Nat) (c1 : Nat) (v : Nat → zV) (H : Heap) (locs : List Loc) (ls : Array Slot), n2 + n3 - q < fu → (wv d1 q + c1 * wP q = wv (cv d2 d3 n3 n2) q) → (c1 ≤ 34359738368) → (q ≤ n2 + n3) → v k = (d1, n, b) → v j = (d2, n2, b2) → v t = (d3, n3, b3) → (∀ j, j ≠ k → v j = v0 j) → zD E B v o H → va_S (zA B 80) s.heap H locs → lv_has ls 13 [(0, .ref (B + k)), (1, .ref (B + j)), (2, .ref (B + t)), (3, .ref (B + (j + 1))), (4, .ref (B + (t + 1))), (5, .int (iZ (min (↑n2 + ↑n3) 152))), (6, .long (lZ (↑c1))), (8, .int (iZ (↑q)))] → W p l e R s m args below meth c H locs 0 0 Q (F0 m 34 ls []) := by
    intro fu
    induction fu with
    | zero => intro q d1 c1 v H locs ls hm; exact absurd hm (Nat.not_lt_zero _)
    | succ fu ihL34 =>
      intro q d1 c1 v H locs ls hm hI hc1 hq ev ev2 ev3 fr hZ hS hl
      refine lv_iload hx hb dW_becomeProduct_34 (lv_at hl 7 rfl) ?_
      refine lv_iload hx hb dW_becomeProduct_36 (lv_at hl 5 rfl) ?_
      refine zr_icmp_ge (tgt := 130) hx hb (by omega) (by omega) dW_becomeProduct_38 (by decide) (fun c_1 => ?_) (fun c_1 => ?_)
      · have hqq : q = n2 + n3 := by omega
        subst hqq
        have hfin := prod_end hd2 hd3 hI
        have J153 : ∀ (bb : Bool) (v : Nat → zV) (H : Heap) (locs : List Loc) (ls : Array Slot), (bb = (b2 != b3)) → v k = (d1, (n2 + n3), b) → v j = (d2, n2, b2) → v t = (d3, n3, b3) → (∀ j, j ≠ k → v j = v0 j) → zD E B v o H → va_S (zA B 80) s.heap H locs → lv_has ls 13 [(0, .ref (B + k))] → W p l e R s m args below meth c H locs 0 0 Q (F0 m 153 ls [.int (iZ (bZ bb)), .ref (B + k)]) := by
          intro bb v H locs ls hbb ev ev2 ev3 fr hZ hS hl
          refine zw_put_below (b1 := bb) hx hb ht hown hK hZ hk ev hS tw_39 dW_becomeProduct_153 (fun v H locs ev ho hZ hS => ?_)
          have ev2 := (ho j hjk).trans ev2
          have ev3 := (ho t htk).trans ev3
          have fr : ∀ j, j ≠ k → v j = v0 j := fun j h0 => (ho j h0).trans (fr j h0)
          refine lv_aload_n hx hb dW_becomeProduct_156 rfl (lv_at hl 0 rfl) ?_
          refine zcV_v 0 (As := []) (rest := []) rfl ⟨hx, hb, hml, hown, ht⟩ (mW_trim l E B v o k hk d1 (n2 + n3) bb ev) tw_295 tw_292 tw_293 tw_294 tw_2 qW_trim (by rw [hR]; decide) (zW_recv hK hZ hk) hZ hK hl.1 rfl rfl (Nat.le_of_ble_eq_true rfl) dW_becomeProduct_157 ⟨Nat.zero_le _, Nat.zero_le _⟩ hS (fun  v H locs hp hZ _ hS => ?_)
          obtain ⟨ho, n_2, ev, hn_2le, hn_2z, hn_2nz⟩ := hp
          have ev2 := (ho j hjk).trans ev2
          have ev3 := (ho t htk).trans ev3
          have fr : ∀ j, j ≠ k → v j = v0 j := fun j h0 => (ho j h0).trans (fr j h0)
          exact hend 160 v _ _ _ dW_becomeProduct_160 (⟨fr, by
            rw [ev]
            have h9 := zN_trim (b := bb) hn_2le hn_2z hn_2nz
            rw [hfin, hbb] at h9
            rw [hbb]
            exact h9⟩) hZ hS
        refine lv_aload_n hx hb dW_becomeProduct_130 rfl (lv_at hl 0 rfl) ?_
        refine lv_iload hx hb dW_becomeProduct_131 (lv_at hl 5 rfl) ?_
        rw [show (min (↑n2 + ↑n3) 152 : Int) = ((n2 + n3 : Nat) : Int) from by omega]
        refine zw_put_count (n1 := n2 + n3) hx hb ht hown hK hZ hk ev hS (by omega) tw_34 dW_becomeProduct_133 (fun v H locs ev ho hZ hS => ?_)
        have ev2 := (ho j hjk).trans ev2
        have ev3 := (ho t htk).trans ev3
        have fr : ∀ j, j ≠ k → v j = v0 j := fun j h0 => (ho j h0).trans (fr j h0)
        refine lv_aload_n hx hb dW_becomeProduct_136 rfl (lv_at hl 0 rfl) ?_
        refine lv_aload_n hx hb dW_becomeProduct_137 rfl (lv_at hl 1 rfl) ?_
        refine zw_below hx hb ht hown hK hZ hj ev2 tw_39 dW_becomeProduct_138 ?_
        refine lv_aload_n hx hb dW_becomeProduct_141 rfl (lv_at hl 2 rfl) ?_
        refine zw_below hx hb ht hown hK hZ htt ev3 tw_39 dW_becomeProduct_142 ?_
        refine zr_icmp_eq (tgt := 152) hx hb (by have := bZ_01 b2; omega) (by have := bZ_01 b3; omega) dW_becomeProduct_145 (by decide) (fun c_3 => ?_) (fun c_3 => ?_)
        · refine lv_iconst (v := iZ (0)) hx hb dW_becomeProduct_152 (by decide) ?_
          exact J153 false v _ _ _ (by have h9 := bZ_eq (a := b2) (b := b3); cases b2 <;> cases b3 <;> first | rfl | (exfalso; simp [bZ] at *)) ev ev2 ev3 fr hZ hS (lv_sub hl [0] rfl)
        · refine lv_iconst (v := iZ (1)) hx hb dW_becomeProduct_148 (by decide) ?_
          refine lv_goto (tgt := 153) hx hb dW_becomeProduct_149 (by decide) ?_
          exact J153 true v _ _ _ (by have h9 := bZ_eq (a := b2) (b := b3); cases b2 <;> cases b3 <;> first | rfl | (exfalso; simp [bZ] at *)) ev ev2 ev3 fr hZ hS (lv_sub hl [0] rfl)
      · refine lv_iload hx hb dW_becomeProduct_41 (lv_at hl 7 rfl) ?_
        refine lv_iconst (v := iZ (1)) hx hb dW_becomeProduct_43 (by decide) ?_
        refine zr_iadd hx hb dW_becomeProduct_44 ?_
        refine lv_aload_n hx hb dW_becomeProduct_45 rfl (lv_at hl 1 rfl) ?_
        refine zw_count hx hb ht hown hK hZ hj ev2 tw_34 dW_becomeProduct_46 ?_
        refine zr_min hx hb (by rw [hml]; exact hl.1.symm) ht hown tw_305 (by rw [hR]; decide) (by rw [hR]; exact Nat.le_of_ble_eq_true rfl) (Nat.zero_le _) (Nat.zero_le _) (by omega) (by omega) dW_becomeProduct_49 ?_
        refine lv_istore (lv' := [(9, .int (iZ (min (↑q + 1 : Int) (↑n2 : Int)))), (0, .ref (B + k)), (1, .ref (B + j)), (2, .ref (B + t)), (3, .ref (B + (j + 1))), (4, .ref (B + (t + 1))), (5, .int (iZ (min (↑n2 + ↑n3) 152))), (6, .long (lZ (↑c1))), (8, .int (iZ (↑q)))]) hx hb dW_becomeProduct_52 hl (by decide) rfl (fun ls hl => ?_)
        refine lv_lload hx hb dW_becomeProduct_54 (lv_at hl 7 rfl) ?_
        refine zc_l (y := lZ (↑(c1 + cv d2 d3 n3 (q + 1 - n3) q))) (congrArg lZ (by rw [cv_lo0, Nat.add_zero])) ?_
        refine lv_lstore (lv' := [(10, .long (lZ (↑(c1 + cv d2 d3 n3 (q + 1 - n3) q)))), (9, .int (iZ (min (↑q + 1 : Int) (↑n2 : Int)))), (0, .ref (B + k)), (1, .ref (B + j)), (2, .ref (B + t)), (3, .ref (B + (j + 1))), (4, .ref (B + (t + 1))), (5, .int (iZ (min (↑n2 + ↑n3) 152))), (6, .long (lZ (↑c1))), (8, .int (iZ (↑q)))]) hx hb dW_becomeProduct_56 hl (by decide) rfl (fun ls hl => ?_)
        refine lv_iconst (v := iZ (0)) hx hb dW_becomeProduct_58 (by decide) ?_
        refine lv_iload hx hb dW_becomeProduct_59 (lv_at hl 9 rfl) ?_
        refine lv_aload_n hx hb dW_becomeProduct_61 rfl (lv_at hl 4 rfl) ?_
        refine zw_count hx hb ht hown hK hZ htt ev3 tw_34 dW_becomeProduct_62 ?_
        refine zr_isub hx hb dW_becomeProduct_65 ?_
        refine lv_iconst (v := iZ (1)) hx hb dW_becomeProduct_66 (by decide) ?_
        refine zr_iadd hx hb dW_becomeProduct_67 ?_
        refine zr_max hx hb (by rw [hml]; exact hl.1.symm) ht hown tw_308 (by rw [hR]; decide) (by rw [hR]; exact Nat.le_of_ble_eq_true rfl) (Nat.zero_le _) (Nat.zero_le _) (by omega) (by omega) dW_becomeProduct_68 ?_
        refine zc_i (y := iZ (↑(q + 1 - n3))) (congrArg iZ (by omega)) ?_
        refine lv_istore (lv' := [(12, .int (iZ (↑(q + 1 - n3)))), (10, .long (lZ (↑(c1 + cv d2 d3 n3 (q + 1 - n3) q)))), (9, .int (iZ (min (↑q + 1 : Int) (↑n2 : Int)))), (0, .ref (B + k)), (1, .ref (B + j)), (2, .ref (B + t)), (3, .ref (B + (j + 1))), (4, .ref (B + (t + 1))), (5, .int (iZ (min (↑n2 + ↑n3) 152))), (6, .long (lZ (↑c1))), (8, .int (iZ (↑q)))]) hx hb dW_becomeProduct_71 hl (by decide) rfl (fun ls hl => ?_)
        have L73 : ∀ (fu : Nat) (i : Nat) (v : Nat → zV) (H : Heap) (locs : List Loc) (ls : Array Slot), n2 - i < fu → (q + 1 ≤ i + n3 ∧ i ≤ n2) → v k = (d1, n, b) → v j = (d2, n2, b2) → v t = (d3, n3, b3) → (∀ j, j ≠ k → v j = v0 j) → zD E B v o H → va_S (zA B 80) s.heap H locs → lv_has ls 13 [(0, .ref (B + k)), (1, .ref (B + j)), (2, .ref (B + t)), (3, .ref (B + (j + 1))), (4, .ref (B + (t + 1))), (5, .int (iZ (min (↑n2 + ↑n3) 152))), (8, .int (iZ (↑q))), (9, .int (iZ (min (↑q + 1) ↑n2))), (10, .long (lZ (↑(c1 + cv d2 d3 n3 i q)))), (12, .int (iZ (↑i)))] → W p l e R s m args below meth c H locs 0 0 Q (F0 m 73 ls []) := by
          intro fu
          induction fu with
          | zero => intro i v H locs ls hm; exact absurd hm (Nat.not_lt_zero _)
          | succ fu ihL73 =>
            intro i v H locs ls hm hi ev ev2 ev3 fr hZ hS hl
            refine lv_iload hx hb dW_becomeProduct_73 (lv_at hl 9 rfl) ?_
            refine lv_iload hx hb dW_becomeProduct_75 (lv_at hl 7 rfl) ?_
            refine zr_icmp_ge (tgt := 104) hx hb (by omega) (by omega) dW_becomeProduct_77 (by decide) (fun c_4 => ?_) (fun c_4 => ?_)
            · have hex : cv d2 d3 n3 i q = cv d2 d3 n3 n2 q := cv_exit d2 d3 (by omega) (by omega)
              have hcb := cv_bd2 hd2 hd3 (k := q) hnn
              refine lv_aload_n hx hb dW_becomeProduct_104 rfl (lv_at hl 0 rfl) ?_
              refine zw_limbs hx hb ht hown hK hZ hk ev tw_31 dW_becomeProduct_105 ?_
              refine lv_iload hx hb dW_becomeProduct_108 (lv_at hl 6 rfl) ?_
              refine lv_lload hx hb dW_becomeProduct_110 (lv_at hl 8 rfl) ?_
              refine zc_l (y := lZ (↑(c1 + cv d2 d3 n3 n2 q))) (congrArg lZ (by rw [hex])) ?_
              refine lv_ldc2 (v := lZ (268435455)) hx hb hown (ht _ tw_291) dW_becomeProduct_112 ?_
              refine zr_mask (n := 28) (P := 268435456) hx hb (Nat.le_of_ble_eq_true rfl) p2_28 m2_28 dW_becomeProduct_115 ?_
              rw [show ((↑(c1 + cv d2 d3 n3 n2 q)) % 268435456 : Int) = (((c1 + cv d2 d3 n3 n2 q) % 268435456 : Nat) : Int) from (Int.natCast_emod _ _).symm]
              refine zw_st (x := (c1 + cv d2 d3 n3 n2 q) % 268435456) hx hb hK hZ hk ev hS (by omega) (by omega) (Nat.mod_lt _ (by decide)) dW_becomeProduct_116 (fun v H locs ev ho hZ hS => ?_)
              rw [show (↑q : Int).toNat = q from by omega] at ev
              have ev2 := (ho j hjk).trans ev2
              have ev3 := (ho t htk).trans ev3
              have fr : ∀ j, j ≠ k → v j = v0 j := fun j h0 => (ho j h0).trans (fr j h0)
              refine lv_lload hx hb dW_becomeProduct_117 (lv_at hl 8 rfl) ?_
              refine zc_l (y := lZ (↑(c1 + cv d2 d3 n3 n2 q))) (congrArg lZ (by rw [hex])) ?_
              refine lv_bipush (v := iZ (28)) hx hb dW_becomeProduct_119 (by decide) ?_
              refine zr_lushr (n := 28) (P := 268435456) hx hb (by omega) (by omega) (Nat.le_of_ble_eq_true rfl) (p2_28) dW_becomeProduct_121 ?_
              refine zc_l (y := lZ (↑((c1 + cv d2 d3 n3 n2 q) / 268435456))) (congrArg lZ (Int.natCast_ediv _ _).symm) ?_
              refine lv_lstore (lv' := [(6, .long (lZ (↑((c1 + cv d2 d3 n3 n2 q) / 268435456)))), (0, .ref (B + k)), (1, .ref (B + j)), (2, .ref (B + t)), (3, .ref (B + (j + 1))), (4, .ref (B + (t + 1))), (5, .int (iZ (min (↑n2 + ↑n3) 152))), (8, .int (iZ (↑q))), (9, .int (iZ (min (↑q + 1) ↑n2))), (10, .long (lZ (↑(c1 + cv d2 d3 n3 i q)))), (12, .int (iZ (↑i)))]) hx hb dW_becomeProduct_122 hl (by decide) rfl (fun ls hl => ?_)
              refine lv_iinc (v := iZ (↑q + 1)) (lv' := [(8, .int (iZ (↑q + 1))), (6, .long (lZ (↑((c1 + cv d2 d3 n3 n2 q) / 268435456)))), (0, .ref (B + k)), (1, .ref (B + j)), (2, .ref (B + t)), (3, .ref (B + (j + 1))), (4, .ref (B + (t + 1))), (5, .int (iZ (min (↑n2 + ↑n3) 152))), (9, .int (iZ (min (↑q + 1) ↑n2))), (10, .long (lZ (↑(c1 + cv d2 d3 n3 i q)))), (12, .int (iZ (↑i)))]) hx hb dW_becomeProduct_124 hl (k := 7) rfl (iZ_add _ _) (by decide) rfl (fun ls hl => ?_)
              refine lv_goto (tgt := 34) hx hb dW_becomeProduct_127 (by decide) ?_
              exact ihL34 (q + 1) (va_up d1 q ((c1 + cv d2 d3 n3 n2 q) % 268435456)) ((c1 + cv d2 d3 n3 n2 q) / 268435456) v _ _ _ (by omega) (col_step hI) (by omega) (by omega) ev ev2 ev3 fr hZ hS (lv_sub hl [2, 3, 4, 5, 6, 7, 1, 0] rfl)
            · refine lv_lload hx hb dW_becomeProduct_80 (lv_at hl 8 rfl) ?_
              refine lv_aload_n hx hb dW_becomeProduct_82 rfl (lv_at hl 3 rfl) ?_
              refine lv_iload hx hb dW_becomeProduct_83 (lv_at hl 9 rfl) ?_
              refine zw_ld hx hb hK hZ hj ev2 (by omega) (by omega) dW_becomeProduct_85 ?_
              rw [show (↑i : Int).toNat = i from by omega]
              refine lv_aload hx hb dW_becomeProduct_86 (lv_at hl 4 rfl) ?_
              refine lv_iload hx hb dW_becomeProduct_88 (lv_at hl 6 rfl) ?_
              refine lv_iload hx hb dW_becomeProduct_90 (lv_at hl 9 rfl) ?_
              refine zr_isub hx hb dW_becomeProduct_92 ?_
              refine zw_ld hx hb hK hZ htt ev3 (by omega) (by omega) dW_becomeProduct_93 ?_
              rw [show (↑q - ↑i : Int).toNat = q - i from by omega]
              refine zr_lmul hx hb dW_becomeProduct_94 ?_
              refine zr_ladd hx hb dW_becomeProduct_95 ?_
              have hcs : cv d2 d3 n3 (i + 1) q = cv d2 d3 n3 i q + d2 i * d3 (q - i) := by rw [cv_s, if_pos ⟨by omega, by omega⟩]
              refine zc_l (y := lZ (↑(c1 + cv d2 d3 n3 (i + 1) q))) (congrArg lZ (by rw [hcs, ← Nat.add_assoc, Int.natCast_add (c1 + _), Int.natCast_mul])) ?_
              refine lv_lstore (lv' := [(10, .long (lZ (↑(c1 + cv d2 d3 n3 (i + 1) q)))), (0, .ref (B + k)), (1, .ref (B + j)), (2, .ref (B + t)), (3, .ref (B + (j + 1))), (4, .ref (B + (t + 1))), (5, .int (iZ (min (↑n2 + ↑n3) 152))), (8, .int (iZ (↑q))), (9, .int (iZ (min (↑q + 1) ↑n2))), (12, .int (iZ (↑i)))]) hx hb dW_becomeProduct_96 hl (by decide) rfl (fun ls hl => ?_)
              refine lv_iinc (v := iZ (↑i + 1)) (lv' := [(12, .int (iZ (↑i + 1))), (10, .long (lZ (↑(c1 + cv d2 d3 n3 (i + 1) q)))), (0, .ref (B + k)), (1, .ref (B + j)), (2, .ref (B + t)), (3, .ref (B + (j + 1))), (4, .ref (B + (t + 1))), (5, .int (iZ (min (↑n2 + ↑n3) 152))), (8, .int (iZ (↑q))), (9, .int (iZ (min (↑q + 1) ↑n2)))]) hx hb dW_becomeProduct_98 hl (k := 9) rfl (iZ_add _ _) (by decide) rfl (fun ls hl => ?_)
              refine lv_goto (tgt := 73) hx hb dW_becomeProduct_101 (by decide) ?_
              exact ihL73 (i + 1) v _ _ _ (by omega) (⟨by omega, by omega⟩) ev ev2 ev3 fr hZ hS (lv_sub hl [2, 3, 4, 5, 6, 7, 8, 9, 1, 0] rfl)
        exact L73 _ (q + 1 - n3) v _ _ _ (Nat.lt_succ_self _) (⟨by omega, by omega⟩) ev ev2 ev3 fr hZ hS (lv_sub hl [3, 4, 5, 6, 7, 8, 10, 2, 1, 0] rfl)
  exact L34 _ 0 d 0 v0 _ _ _ (Nat.lt_succ_self _) (rfl) (by omega) (by omega) ev ev2 ev3 fr hZ hS (lv_sub hl [5, 6, 7, 4, 3, 2, 1, 0] rfl)
