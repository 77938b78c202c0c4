theorem lZ_congr {a b : Int} (h : a % 18446744073709551616 = b % 18446744073709551616) : lZ a = lZ b := by rw [lZ_mod a, lZ_mod b, h]
theorem zr_lorC {p : Program} {l : Launch} {e : Env} {R : Room} {s : State} {m : MethodId} {args : Array Value} {below : List Frame} {meth : Method} {c : Code} {H : Heap} {locs : List Loc} {cells slots : Nat} {Q : State → Prop} {cc : ByteArray} {pc : Nat} {ls : Array Slot} {rest : List Value} (hx : p.tables.exec = Jvm.exec) (hb : c.code = cc) {a b P : Int} {n : Nat} (hP : ((2 ^ n : Nat) : Int) = P) (ha : 0 ≤ a) (ha2 : a < P) (hb0 : 0 ≤ b) (h : b * P + a < 18446744073709551616) (hd : decode cc pc = .ok (.lor, 1)) (k : W p l e R s m args below meth c H locs cells slots Q (F0 m (pc + 1) ls (.long (lZ (b * P + a)) :: rest))) : W p l e R s m args below meth c H locs cells slots Q (F0 m pc ls (.long (lZ (b * P)) :: .long (lZ a) :: rest)) := lv_lor hx hb hd (by rw [Int64.or_comm, lZ_or hP ha ha2 hb0 h]; exact k)
theorem low64 {d : Nat → Nat} (hd : ∀ i, d i < 268435456) (n : Nat) : ((wx d n 2 : Int) % 256 * 72057594037927936 + ((wx d n 1 : Int) * 268435456 + (wx d n 0 : Int))) % 18446744073709551616 = (wv d n : Int) % 18446744073709551616 := by
  have h := wv_split (wx d n) 3 n
  rw [wv_wx d (by omega)] at h
  have e : wv (wx d n) 3 = wx d n 0 + wx d n 1 * 268435456 + wx d n 2 * 72057594037927936 := by simp [wv, wP]
  have e2 : wP 3 = 19342813113834066795298816 := rfl
  rw [e, e2] at h
  rw [h]
  generalize wv (fun i => wx d n (3 + i)) n = G
  omega
theorem neg_mod {a b M : Int} (h : a % M = b % M) : (-a) % M = (-b) % M := by rw [← Int.zero_sub, ← Int.zero_sub b, Int.sub_emod, h, ← Int.sub_emod]
set_option maxHeartbeats 4000000 in
set_option maxRecDepth 100000 in
theorem mW_lowest64 (l : Launch) (E : zE) (B : Nat) (v0 : Nat → zV) (o : Nat → va_E) (k : Nat) (hk : lp k = true) (d : Nat → Nat) (n : Nat) (b : Bool) (ev : v0 k = (d, n, b)) (x1 : Int) (hN1 : zN (d, n, b) x1) :
    Met l yW_lowest64 (zws yW_lowest64 cW_lowest64 3 (some .long)) { frames := 1, cells := 0, slots := 0, locals := 30 } (zPc E (zD E B v0 o) [.ref (B + k)]) (va_Ql (fun (r : Int64) (v : Nat → zV) => v = v0 ∧ r = lZ x1) (fun v t => zD E B v o t.heap ∧ zK E t) (zA B 80)) 0 0 (zA B 80) := by
  refine zof_l (by decide) (Nat.le_of_ble_eq_true rfl) fun p e R s m args below meth c Q ls hR hx hb hml ht hown hK hZ hl hend => ?_
  have hS : va_S (zA B 80) s.heap s.heap [] := va_S.rf
  have hown : s.vm.findClass "WholeDesk$Whole" = some m.cls := hown
  have hl : lv_has ls 3 [(0, .ref (B + k))] := hl
  have hn : n ≤ 152 := by have := (hZ.2 k hk).2; rw [ev] at this; exact this
  have hd0 : ∀ i, d i < 268435456 := by have := (hZ.2 k hk).1; rw [ev] at this; exact this
  have hL0 := wx_lt hd0 n 0
  have hL1 := wx_lt hd0 n 1
  have hL2 := wx_lt hd0 n 2
  have hL := low64 hd0 n
  refine lv_aload_n hx hb dW_lowest64_0 rfl (lv_at hl 0 rfl) ?_
  refine lv_iconst (v := iZ (0)) hx hb dW_lowest64_1 (by decide) ?_
  refine zcV_l 1 (As := [.int (iZ (0))]) (rest := []) rfl ⟨hx, hb, hml, hown, ht⟩ (mW_limb l E B v0 o k hk d n b ev (0) (by omega)) tw_322 tw_319 tw_320 tw_321 tw_2 qW_limb (by rw [hR]; decide) (zW_recv hK hZ hk) hZ hK hl.1 rfl rfl (Nat.le_of_ble_eq_true rfl) dW_lowest64_2 ⟨Nat.zero_le _, Nat.zero_le _⟩ hS (fun r_1 v1 H locs hp hZ _ hS => ?_)
  obtain ⟨hv1, hr1⟩ := hp
  rw [hv1] at hZ
  subst hr1
  clear hv1 v1
  refine zc_l (y := lZ (↑(wx d n 0))) (congrArg lZ (by rw [show (0 : Int) = ((0 : Nat) : Int) from rfl, wz_nat])) ?_
  refine lv_aload_n hx hb dW_lowest64_5 rfl (lv_at hl 0 rfl) ?_
  refine lv_iconst (v := iZ (1)) hx hb dW_lowest64_6 (by decide) ?_
  refine zcV_l 1 (As := [.int (iZ (1))]) (rest := [.long (lZ (↑(wx d n 0)))]) rfl ⟨hx, hb, hml, hown, ht⟩ (mW_limb l E B v0 o k hk d n b ev (1) (by omega)) tw_322 tw_319 tw_320 tw_321 tw_2 qW_limb (by rw [hR]; decide) (zW_recv hK hZ hk) hZ hK hl.1 rfl rfl (Nat.le_of_ble_eq_true rfl) dW_lowest64_7 ⟨Nat.zero_le _, Nat.zero_le _⟩ hS (fun r_2 v1 H locs hp hZ _ hS => ?_)
  obtain ⟨hv1, hr1⟩ := hp
  rw [hv1] at hZ
  subst hr1
  clear hv1 v1
  refine zc_l (y := lZ (↑(wx d n 1))) (congrArg lZ (by rw [show (1 : Int) = ((1 : Nat) : Int) from rfl, wz_nat])) ?_
  refine lv_bipush (v := iZ (28)) hx hb dW_lowest64_10 (by decide) ?_
  refine zr_lshl (n := 28) (P := 268435456) hx hb (Nat.le_of_ble_eq_true rfl) (p2_28) dW_lowest64_12 ?_
  refine zr_lorC (n := 28) (P := 268435456) hx hb p2_28 (by omega) (by omega) (by omega) (by omega) dW_lowest64_13 ?_
  refine lv_aload_n hx hb dW_lowest64_14 rfl (lv_at hl 0 rfl) ?_
  refine lv_iconst (v := iZ (2)) hx hb dW_lowest64_15 (by decide) ?_
  refine zcV_l 1 (As := [.int (iZ (2))]) (rest := [.long (lZ ((↑(wx d n 1)) * 268435456 + (↑(wx d n 0))))]) rfl ⟨hx, hb, hml, hown, ht⟩ (mW_limb l E B v0 o k hk d n b ev (2) (by omega)) tw_322 tw_319 tw_320 tw_321 tw_2 qW_limb (by rw [hR]; decide) (zW_recv hK hZ hk) hZ hK hl.1 rfl rfl (Nat.le_of_ble_eq_true rfl) dW_lowest64_16 ⟨Nat.zero_le _, Nat.zero_le _⟩ hS (fun r_3 v1 H locs hp hZ _ hS => ?_)
  obtain ⟨hv1, hr1⟩ := hp
  rw [hv1] at hZ
  subst hr1
  clear hv1 v1
  refine zc_l (y := lZ (↑(wx d n 2))) (congrArg lZ (by rw [show (2 : Int) = ((2 : Nat) : Int) from rfl, wz_nat])) ?_
  refine lv_bipush (v := iZ (56)) hx hb dW_lowest64_19 (by decide) ?_
  refine zr_lshl (n := 56) (P := 72057594037927936) hx hb (Nat.le_of_ble_eq_true rfl) (p2_56) dW_lowest64_21 ?_
  refine zc_l (y := lZ ((↑(wx d n 2) % 256) * 72057594037927936)) (lZ_congr (by omega)) ?_
  refine zr_lorC (n := 56) (P := 72057594037927936) hx hb p2_56 (by omega) (by omega) (by omega) (by omega) dW_lowest64_22 ?_
  refine lv_lstore_n (lv' := [(1, .long (lZ ((↑(wx d n 2) % 256) * 72057594037927936 + ((↑(wx d n 1)) * 268435456 + (↑(wx d n 0)))))), (0, .ref (B + k))]) hx hb dW_lowest64_23 rfl hl (by decide) rfl (fun ls hl => ?_)
  refine lv_aload_n hx hb dW_lowest64_24 rfl (lv_at hl 1 rfl) ?_
  refine zw_below hx hb ht hown hK hZ hk ev tw_39 dW_lowest64_25 ?_
  refine zr_if_eq (tgt := 36) hx hb (by have := bZ_01 b; omega) dW_lowest64_28 (by decide) (fun c_4 => ?_) (fun c_4 => ?_)
  · refine lv_lload_n hx hb dW_lowest64_36 rfl (lv_at hl 0 rfl) ?_
    exact hend 37 (_) v0 _ _ _ dW_lowest64_37 (⟨rfl, lZ_congr (by have h9 := hN1.2.2; rw [if_neg (show ¬ b = true by rw [show b = false from bZ_f.mp (by assumption)]; decide)] at h9; rw [h9]; exact hL)⟩) hZ hS
  · refine lv_lload_n hx hb dW_lowest64_31 rfl (lv_at hl 0 rfl) ?_
    refine zr_lneg hx hb dW_lowest64_32 ?_
    refine lv_goto (tgt := 37) hx hb dW_lowest64_33 (by decide) ?_
    exact hend 37 (_) v0 _ _ _ dW_lowest64_37 (⟨rfl, lZ_congr (by have h9 := hN1.2.2; rw [if_pos (show b = true from bZ_nf.mp (by assumption))] at h9; rw [h9]; exact neg_mod hL)⟩) hZ hS

set_option maxHeartbeats 4000000 in
set_option maxRecDepth 100000 in
theorem mW_becomePowerOfTwo (l : Launch) (E : zE) (B : Nat) (v0 : Nat → zV) (o : Nat → va_E) (k : Nat) (hk : lp k = true) (d : Nat → Nat) (n : Nat) (b : Bool) (ev : v0 k = (d, n, b)) (ex : Nat) (hex : ex < 4200) :
    Met l yW_becomePowerOfTwo (zws yW_becomePowerOfTwo cW_becomePowerOfTwo 3 none) { frames := 2, cells := 0, slots := 0, locals := 60 } (zPc E (zD E B v0 o) [.ref (B + k), .int (iZ (↑ex))]) (va_Qv (fun v : Nat → zV => (∀ j, j ≠ k → v j = v0 j) ∧ zN (v k) ((2 ^ ex : Nat) : Int)) (fun v t => zD E B v o t.heap ∧ zK E t) (zA B 80)) 0 0 (zA B 80) := by
  refine zof_v (by decide) (Nat.le_of_ble_eq_true rfl) fun p e R s m args below meth c Q ls hR hx hb hml ht hown hK hZ hl hend => ?_
  have hS : va_S (zA B 80) s.heap s.heap [] := va_S.rf
  have hown : s.vm.findClass "WholeDesk$Whole" = some m.cls := hown
  have hl : lv_has ls 3 [(0, .ref (B + k)), (1, .int (iZ (↑ex)))] := hl
  have hn : n ≤ 152 := by have := (hZ.2 k hk).2; rw [ev] at this; exact this
  have hd0 : ∀ i, d i < 268435456 := by have := (hZ.2 k hk).1; rw [ev] at this; exact this
  have fr : ∀ j, j ≠ k → v0 j = v0 j := fun j _ => rfl
  refine lv_aload_n hx hb dW_becomePowerOfTwo_0 rfl (lv_at hl 0 rfl) ?_
  refine lv_iconst (v := iZ (0)) hx hb dW_becomePowerOfTwo_1 (by decide) ?_
  rw [show (0 : Int) = ((0 : Nat) : Int) from rfl]
  refine zw_put_count (n1 := 0) hx hb ht hown hK hZ hk ev hS (by omega) tw_34 dW_becomePowerOfTwo_2 (fun v H locs ev ho hZ hS => ?_)
  have fr : ∀ j, j ≠ k → v j = v0 j := fun j h0 => (ho j h0).trans (fr j h0)
  refine lv_aload_n hx hb dW_becomePowerOfTwo_5 rfl (lv_at hl 0 rfl) ?_
  refine lv_iconst (v := iZ (0)) hx hb dW_becomePowerOfTwo_6 (by decide) ?_
  refine W.eq (g2 := F0 m 7 ls (.int (iZ (bZ false)) :: .ref (B + k) :: [])) rfl ?_
  refine zw_put_below (b1 := false) hx hb ht hown hK hZ hk ev hS tw_39 dW_becomePowerOfTwo_7 (fun v H locs ev ho hZ hS => ?_)
  have fr : ∀ j, j ≠ k → v j = v0 j := fun j h0 => (ho j h0).trans (fr j h0)
  refine lv_iload_n hx hb dW_becomePowerOfTwo_10 rfl (lv_at hl 1 rfl) ?_
  refine lv_bipush (v := iZ (28)) hx hb dW_becomePowerOfTwo_11 (by decide) ?_
  refine zr_idiv hx hb (by omega) (by omega) (by omega) (by omega) dW_becomePowerOfTwo_13 ?_
  refine zc_i (y := iZ (↑(ex / 28))) (congrArg iZ (Int.natCast_ediv _ _).symm) ?_
  refine lv_istore_n (lv' := [(2, .int (iZ (↑(ex / 28)))), (0, .ref (B + k)), (1, .int (iZ (↑ex)))]) hx hb dW_becomePowerOfTwo_14 rfl hl (by decide) rfl (fun ls hl => ?_)
  refine lv_aload_n hx hb dW_becomePowerOfTwo_15 rfl (lv_at hl 1 rfl) ?_
  refine lv_iload_n hx hb dW_becomePowerOfTwo_16 rfl (lv_at hl 0 rfl) ?_
  refine lv_iconst (v := iZ (1)) hx hb dW_becomePowerOfTwo_17 (by decide) ?_
  refine zr_iadd hx hb dW_becomePowerOfTwo_18 ?_
  refine zcV_v 1 (As := [.int (iZ ((↑(ex / 28)) + 1))]) (rest := []) rfl ⟨hx, hb, hml, hown, ht⟩ (mW_stretch l E B v o k hk d (0 : Nat) false ev ((↑(ex / 28)) + 1) (by omega)) tw_304 tw_301 tw_302 tw_303 tw_2 qW_stretch (by rw [hR]; decide) (zW_recv hK hZ hk) hZ hK hl.1 rfl rfl (Nat.le_of_ble_eq_true rfl) dW_becomePowerOfTwo_19 ⟨Nat.zero_le _, Nat.zero_le _⟩ hS (fun  v H locs hp hZ _ hS => ?_)
  obtain ⟨ho, d_2, n_1, ev, hn_1, hd_2lo, hd_2hi⟩ := hp
  have fr : ∀ j, j ≠ k → v j = v0 j := fun j h0 => (ho j h0).trans (fr j h0)
  refine lv_iload_n hx hb dW_becomePowerOfTwo_22 rfl (lv_at hl 0 rfl) ?_
  refine zr_if_lt (tgt := 46) hx hb (by omega) dW_becomePowerOfTwo_23 (by decide) (fun c_3 => ?_) (fun c_3 => ?_)
  · exfalso; omega
  · refine lv_iload_n hx hb dW_becomePowerOfTwo_26 rfl (lv_at hl 0 rfl) ?_
    refine lv_aload_n hx hb dW_becomePowerOfTwo_27 rfl (lv_at hl 1 rfl) ?_
    refine zw_count hx hb ht hown hK hZ hk ev tw_34 dW_becomePowerOfTwo_28 ?_
    refine zr_icmp_ge (tgt := 46) hx hb (by omega) (by omega) dW_becomePowerOfTwo_31 (by decide) (fun c_4 => ?_) (fun c_4 => ?_)
    · exfalso; omega
    · refine lv_aload_n hx hb dW_becomePowerOfTwo_34 rfl (lv_at hl 1 rfl) ?_
      refine zw_limbs hx hb ht hown hK hZ hk ev tw_31 dW_becomePowerOfTwo_35 ?_
      refine lv_iload_n hx hb dW_becomePowerOfTwo_38 rfl (lv_at hl 0 rfl) ?_
      refine lv_lconst (v := lZ (1)) hx hb dW_becomePowerOfTwo_39 (by decide) ?_
      refine lv_iload_n hx hb dW_becomePowerOfTwo_40 rfl (lv_at hl 2 rfl) ?_
      refine lv_bipush (v := iZ (28)) hx hb dW_becomePowerOfTwo_41 (by decide) ?_
      refine zr_irem hx hb (by omega) (by omega) (by omega) (by omega) dW_becomePowerOfTwo_43 ?_
      refine zc_i (y := iZ (↑(ex % 28))) (congrArg iZ (Int.natCast_emod _ _).symm) ?_
      refine zr_lshl (n := ex % 28) (P := ((2 ^ (ex % 28) : Nat) : Int)) hx hb (by omega) (rfl) dW_becomePowerOfTwo_44 ?_
      rw [show (1 * ((2 ^ (ex % 28) : Nat) : Int) : Int) = ((2 ^ (ex % 28) : Nat) : Int) from Int.one_mul _]
      refine zw_st (x := 2 ^ (ex % 28)) hx hb hK hZ hk ev hS (by omega) (by omega) (Nat.pow_lt_pow_right (a := 2) (by decide) (show ex % 28 < 28 by omega)) dW_becomePowerOfTwo_45 (fun v H locs ev ho hZ hS => ?_)
      rw [show (↑(ex / 28) : Int).toNat = ex / 28 from by omega] at ev
      have fr : ∀ j, j ≠ k → v j = v0 j := fun j h0 => (ho j h0).trans (fr j h0)
      exact hend 46 v _ _ _ dW_becomePowerOfTwo_46 (⟨fr, by
        rw [ev]
        have hn1 : n_1 = ex / 28 + 1 := by omega
        have hw := wv_set0 (d := d_2) (i := ex / 28) (n := n_1) (g := 2 ^ (ex % 28)) (by omega) (hd_2hi _ (Nat.zero_le _) (by omega))
        rw [wv_drop (d := d_2) (m := 0) (n := n_1) (Nat.zero_le _) hd_2hi, wv_0, Nat.zero_add, wP_two, ← Nat.pow_add, show ex % 28 + 28 * (ex / 28) = ex by omega] at hw
        refine ⟨fun _ => ?_, fun h => (by cases h), ?_⟩
        · show va_up d_2 (ex / 28) (2 ^ (ex % 28)) (n_1 - 1) ≠ 0
          rw [hn1, Nat.add_sub_cancel, va_up_self]
          have := Nat.two_pow_pos (ex % 28)
          omega
        · show _ = ((wv _ _ : Nat) : Int)
          rw [hw]⟩) hZ hS
