set_option maxHeartbeats 4000000 in
set_option maxRecDepth 100000 in
theorem mW_divideOut (l : Launch) (E : zE) (B : Nat) (v0 : Nat → zV) (o : Nat → va_E) (k : Nat) (hk : lp k = true) (d : Nat → Nat) (n : Nat) (b : Bool) (ev : v0 k = (d, n, b)) (j : Nat) (hj : lp j = true) (d2 : Nat → Nat) (n2 : Nat) (b2 : Bool) (ev2 : v0 j = (d2, n2, b2)) (t : Nat) (htt : lp t = true) (d3 : Nat → Nat) (n3 : Nat) (b3 : Bool) (ev3 : v0 t = (d3, n3, b3)) (hjk : j ≠ k) (htk : t ≠ k) (htj : t ≠ j) (hz1 : nz d n) (hb1 : b = true → n ≠ 0) (hn1 : n ≤ 151) (hn20 : n2 ≠ 0) (hz2 : nz d2 n2) :
    Met l yW_divideOut (zws yW_divideOut cW_divideOut 12 none) { frames := 3, cells := 0, slots := 0, locals := 104 } (zPc E (zD E B v0 o) [.ref (B + k), .ref (B + j), .ref (B + t)]) (va_Qv (fun v : Nat → zV => (∀ j, j ≠ k → j ≠ t → v j = v0 j) ∧ ∃ q r0 : Nat, wv d n = q * wv d2 n2 + r0 ∧ r0 < wv d2 n2 ∧ zN (v t) q ∧ zN (v k) (if b = true then -(r0 : Int) else (r0 : Int))) (fun v t => zD E B v o t.heap ∧ zK E t) (zA B 80)) 0 0 (zA B 80) := by
  refine zof_v (by decide) (Nat.le_of_ble_eq_true rfl) fun p e R s m args below meth c Q ls hR hx hb hml ht hown hK hZ hl hend => ?_
  have hS : va_S (zA B 80) s.heap s.heap [] := va_S.rf
  have hown : s.vm.findClass "WholeDesk$Whole" = some m.cls := hown
  have hl : lv_has ls 12 [(0, .ref (B + k)), (1, .ref (B + j)), (2, .ref (B + t))] := hl
  have hn : n ≤ 152 := by have := (hZ.2 k hk).2; rw [ev] at this; exact this
  have hd0 : ∀ i, d i < 268435456 := by have := (hZ.2 k hk).1; rw [ev] at this; exact this
  have hn2 : n2 ≤ 152 := by have := (hZ.2 j hj).2; rw [ev2] at this; exact this
  have hd2 : ∀ i, d2 i < 268435456 := by have := (hZ.2 j hj).1; rw [ev2] at this; exact this
  have fr : ∀ j, j ≠ k → j ≠ t → v0 j = v0 j := fun j _ _ => rfl
  refine lv_aload_n hx hb dW_divideOut_0 rfl (lv_at hl 2 rfl) ?_
  refine lv_iconst (v := iZ (0)) hx hb dW_divideOut_1 (by decide) ?_
  rw [show (0 : Int) = ((0 : Nat) : Int) from rfl]
  refine zw_put_count (n1 := 0) hx hb ht hown hK hZ htt ev3 hS (by omega) tw_34 dW_divideOut_2 (fun v H locs ev3 ho hZ hS => ?_)
  have ev := (ho k (Ne.symm htk)).trans ev
  have ev2 := (ho j (Ne.symm htj)).trans ev2
  have fr : ∀ j, j ≠ k → j ≠ t → v j = v0 j := fun j h0 h1 => (ho j h1).trans (fr j h0 h1)
  refine lv_aload_n hx hb dW_divideOut_5 rfl (lv_at hl 2 rfl) ?_
  refine lv_iconst (v := iZ (0)) hx hb dW_divideOut_6 (by decide) ?_
  refine W.eq (g2 := F0 m 7 ls (.int (iZ (bZ false)) :: .ref (B + t) :: [])) rfl ?_
  refine zw_put_below (b1 := false) hx hb ht hown hK hZ htt ev3 hS tw_39 dW_divideOut_7 (fun v H locs ev3 ho hZ hS => ?_)
  have ev := (ho k (Ne.symm htk)).trans ev
  have ev2 := (ho j (Ne.symm htj)).trans ev2
  have fr : ∀ j, j ≠ k → j ≠ t → v j = v0 j := fun j h0 h1 => (ho j h1).trans (fr j h0 h1)
  refine lv_aload_n hx hb dW_divideOut_10 rfl (lv_at hl 0 rfl) ?_
  refine zw_count hx hb ht hown hK hZ hk ev tw_34 dW_divideOut_11 ?_
  refine lv_aload_n hx hb dW_divideOut_14 rfl (lv_at hl 1 rfl) ?_
  refine zw_count hx hb ht hown hK hZ hj ev2 tw_34 dW_divideOut_15 ?_
  refine zr_isub hx hb dW_divideOut_18 ?_
  refine lv_iconst (v := iZ (1)) hx hb dW_divideOut_19 (by decide) ?_
  refine zr_iadd hx hb dW_divideOut_20 ?_
  refine lv_istore_n (lv' := [(3, .int (iZ ((↑n - ↑n2) + 1))), (0, .ref (B + k)), (1, .ref (B + j)), (2, .ref (B + t))]) hx hb dW_divideOut_21 rfl hl (by decide) rfl (fun ls hl => ?_)
  refine lv_aload_n hx hb dW_divideOut_22 rfl (lv_at hl 2 rfl) ?_
  refine zw_count hx hb ht hown hK hZ hj ev2 tw_34 dW_divideOut_23 ?_
  refine zr_if_eq (tgt := 34) hx hb (by omega) dW_divideOut_26 (by decide) (fun c_1 => ?_) (fun c_1 => ?_)
  · exfalso; omega
  · refine lv_iload_n hx hb dW_divideOut_29 rfl (lv_at hl 0 rfl) ?_
    refine lv_iconst (v := iZ (1)) hx hb dW_divideOut_30 (by decide) ?_
    refine zr_icmp_ge (tgt := 35) hx hb (by omega) (by omega) dW_divideOut_31 (by decide) (fun c_2 => ?_) (fun c_2 => ?_)
    · have hnn : n2 ≤ n := by omega
      refine lv_bipush (v := iZ (28)) hx hb dW_divideOut_35 (by decide) ?_
      refine lv_aload_n hx hb dW_divideOut_37 rfl (lv_at hl 2 rfl) ?_
      refine lv_aload_n hx hb dW_divideOut_38 rfl (lv_at hl 2 rfl) ?_
      refine zw_count hx hb ht hown hK hZ hj ev2 tw_34 dW_divideOut_39 ?_
      refine lv_iconst (v := iZ (1)) hx hb dW_divideOut_42 (by decide) ?_
      refine zr_isub hx hb dW_divideOut_43 ?_
      refine zcV_l 1 (As := [.int (iZ (↑n2 - 1))]) (rest := [.int (iZ (28))]) rfl ⟨hx, hb, hml, hown, ht⟩ (mW_limb l E B v o j hj d2 n2 b2 ev2 (↑n2 - 1) (by omega)) tw_322 tw_319 tw_320 tw_321 tw_2 qW_limb (by rw [hR]; decide) (zW_recv hK hZ hj) hZ hK hl.1 rfl rfl (Nat.le_of_ble_eq_true rfl) dW_divideOut_44 ⟨Nat.zero_le _, Nat.zero_le _⟩ hS (fun r_3 v1 H locs hp hZ _ hS => ?_)
      obtain ⟨hv1, hr1⟩ := hp
      rw [hv1] at hZ
      subst hr1
      clear hv1 v1
      refine zcS_i 1 (As := [.long (lZ (↑(wz d2 n2 (↑n2 - 1))))]) (rest := [.int (iZ (28))]) ⟨hx, hb, hml, hown, ht⟩ (mW_digitsOf l E B v o (wz d2 n2 (↑n2 - 1)) (wz_lt hd2 n2 _)) tw_325 tw_323 tw_324 tw_2 qW_digitsOf (by rw [hR]; decide) hZ hK hl.1 rfl rfl (Nat.le_of_ble_eq_true rfl) dW_divideOut_47 ⟨Nat.zero_le _, Nat.zero_le _⟩ hS (fun r_5 v1 H locs hp hZ _ hS => ?_)
      obtain ⟨hv1, q_4, hr1, hq_4⟩ := hp
      rw [hv1] at hZ
      subst hr1
      clear hv1 v1
      refine zr_isub hx hb dW_divideOut_50 ?_
      rw [wz_in (by omega) (by omega), show ((n2 : Int) - 1).toNat = n2 - 1 by omega] at hq_4
      have hq28 := bl_28 (hd2 _) hq_4
      obtain ⟨up, hupe⟩ : ∃ t : Nat, t = 28 - q_4 := ⟨_, rfl⟩
      refine zc_i (y := iZ (↑up)) (congrArg iZ (by omega)) ?_
      refine lv_istore (lv' := [(4, .int (iZ (↑up))), (3, .int (iZ ((↑n - ↑n2) + 1))), (0, .ref (B + k)), (1, .ref (B + j)), (2, .ref (B + t))]) hx hb dW_divideOut_51 hl (by decide) rfl (fun ls hl => ?_)
      refine lv_aload_n hx hb dW_divideOut_53 rfl (lv_at hl 3 rfl) ?_
      refine lv_aload_n hx hb dW_divideOut_54 rfl (lv_at hl 3 rfl) ?_
      refine zw_count hx hb ht hown hK hZ hj ev2 tw_34 dW_divideOut_55 ?_
      refine lv_iconst (v := iZ (1)) hx hb dW_divideOut_58 (by decide) ?_
      refine zr_isub hx hb dW_divideOut_59 ?_
      refine lv_iload hx hb dW_divideOut_60 (lv_at hl 0 rfl) ?_
      refine zcV_l 2 (As := [.int (iZ (↑n2 - 1)), .int (iZ (↑up))]) (rest := []) rfl ⟨hx, hb, hml, hown, ht⟩ (mW_limbShifted l E B v o j hj d2 n2 b2 ev2 (↑n2 - 1) (⟨by omega, by omega⟩) up (by omega)) tw_419 tw_416 tw_417 tw_418 tw_2 qW_limbShifted (by rw [hR]; decide) (zW_recv hK hZ hj) hZ hK hl.1 rfl rfl (Nat.le_of_ble_eq_true rfl) dW_divideOut_62 ⟨Nat.zero_le _, Nat.zero_le _⟩ hS (fun r_6 v1 H locs hp hZ _ hS => ?_)
      obtain ⟨hv1, hr1⟩ := hp
      rw [hv1] at hZ
      subst hr1
      clear hv1 v1
      obtain ⟨hi0, hhi0⟩ : ∃ t, t = lsh d2 n2 up n2 := ⟨_, rfl⟩
      refine zc_l (y := lZ (↑hi0)) (congrArg lZ (by rw [hhi0, show ((n2 : Int) - 1 + 1).toNat = n2 by omega])) ?_
      refine lv_lstore (lv' := [(5, .long (lZ (↑hi0))), (4, .int (iZ (↑up))), (3, .int (iZ ((↑n - ↑n2) + 1))), (0, .ref (B + k)), (1, .ref (B + j)), (2, .ref (B + t))]) hx hb dW_divideOut_65 hl (by decide) rfl (fun ls hl => ?_)
      refine lv_aload_n hx hb dW_divideOut_67 rfl (lv_at hl 4 rfl) ?_
      refine lv_aload_n hx hb dW_divideOut_68 rfl (lv_at hl 4 rfl) ?_
      refine zw_count hx hb ht hown hK hZ hj ev2 tw_34 dW_divideOut_69 ?_
      refine lv_iconst (v := iZ (2)) hx hb dW_divideOut_72 (by decide) ?_
      refine zr_isub hx hb dW_divideOut_73 ?_
      refine lv_iload hx hb dW_divideOut_74 (lv_at hl 1 rfl) ?_
      refine zcV_l 2 (As := [.int (iZ (↑n2 - 2)), .int (iZ (↑up))]) (rest := []) rfl ⟨hx, hb, hml, hown, ht⟩ (mW_limbShifted l E B v o j hj d2 n2 b2 ev2 (↑n2 - 2) (⟨by omega, by omega⟩) up (by omega)) tw_419 tw_416 tw_417 tw_418 tw_2 qW_limbShifted (by rw [hR]; decide) (zW_recv hK hZ hj) hZ hK hl.1 rfl rfl (Nat.le_of_ble_eq_true rfl) dW_divideOut_76 ⟨Nat.zero_le _, Nat.zero_le _⟩ hS (fun r_7 v1 H locs hp hZ _ hS => ?_)
      obtain ⟨hv1, hr1⟩ := hp
      rw [hv1] at hZ
      subst hr1
      clear hv1 v1
      obtain ⟨nx0, hnx0⟩ : ∃ t, t = lsh d2 n2 up (n2 - 1) := ⟨_, rfl⟩
      refine zc_l (y := lZ (↑nx0)) (congrArg lZ (by rw [hnx0, show ((n2 : Int) - 2 + 1).toNat = n2 - 1 by omega])) ?_
      refine lv_lstore (lv' := [(7, .long (lZ (↑nx0))), (5, .long (lZ (↑hi0))), (4, .int (iZ (↑up))), (3, .int (iZ ((↑n - ↑n2) + 1))), (0, .ref (B + k)), (1, .ref (B + j)), (2, .ref (B + t))]) hx hb dW_divideOut_79 hl (by decide) rfl (fun ls hl => ?_)
      refine lv_aload_n hx hb dW_divideOut_81 rfl (lv_at hl 6 rfl) ?_
      refine lv_iload_n hx hb dW_divideOut_82 rfl (lv_at hl 3 rfl) ?_
      refine zcV_v 1 (As := [.int (iZ ((↑n - ↑n2) + 1))]) (rest := []) rfl ⟨hx, hb, hml, hown, ht⟩ (mW_stretch l E B v o t htt d3 (0 : Nat) false ev3 ((↑n - ↑n2) + 1) (by omega)) tw_304 tw_301 tw_302 tw_303 tw_2 qW_stretch (by rw [hR]; decide) (zW_recv hK hZ htt) hZ hK hl.1 rfl rfl (Nat.le_of_ble_eq_true rfl) dW_divideOut_83 ⟨Nat.zero_le _, Nat.zero_le _⟩ hS (fun  v H locs hp hZ _ hS => ?_)
      obtain ⟨ho, d_9, n_8, ev3, hn_8, hd_9lo, hd_9hi⟩ := hp
      have ev := (ho k (Ne.symm htk)).trans ev
      have ev2 := (ho j (Ne.symm htj)).trans ev2
      have fr : ∀ j, j ≠ k → j ≠ t → v j = v0 j := fun j h0 h1 => (ho j h1).trans (fr j h0 h1)
      refine lv_aload_n hx hb dW_divideOut_86 rfl (lv_at hl 4 rfl) ?_
      refine lv_aload_n hx hb dW_divideOut_87 rfl (lv_at hl 4 rfl) ?_
      refine zw_count hx hb ht hown hK hZ hk ev tw_34 dW_divideOut_88 ?_
      refine lv_iconst (v := iZ (1)) hx hb dW_divideOut_91 (by decide) ?_
      refine zr_iadd hx hb dW_divideOut_92 ?_
      refine zcV_v 1 (As := [.int (iZ (↑n + 1))]) (rest := []) rfl ⟨hx, hb, hml, hown, ht⟩ (mW_stretch l E B v o k hk d n b ev (↑n + 1) (by omega)) tw_304 tw_301 tw_302 tw_303 tw_2 qW_stretch (by rw [hR]; decide) (zW_recv hK hZ hk) hZ hK hl.1 rfl rfl (Nat.le_of_ble_eq_true rfl) dW_divideOut_93 ⟨Nat.zero_le _, Nat.zero_le _⟩ hS (fun  v H locs hp hZ _ hS => ?_)
      obtain ⟨ho, d_11, n_10, ev, hn_10, hd_11lo, hd_11hi⟩ := hp
      have ev2 := (ho j hjk).trans ev2
      have ev3 := (ho t htk).trans ev3
      have fr : ∀ j, j ≠ k → j ≠ t → v j = v0 j := fun j h0 h1 => (ho j h0).trans (fr j h0 h1)
      have hnU : n_10 = n - n2 + 1 + n2 := by omega
      rw [hnU] at ev
      have hnQ : n_8 = n - n2 + 1 := by omega
      rw [hnQ] at ev3
      have hfi := dv_first hd0 hn20 hnn (hz2 hn20) hd_11lo (hd_11hi n (Nat.le_refl _) (by omega))
      have hq0 : ∀ i, i < n - n2 + 1 → d_9 i = 0 := fun i hi => hd_9hi i (Nat.zero_le _) (by omega)
      refine lv_aload_n hx hb dW_divideOut_96 rfl (lv_at hl 6 rfl) ?_
      refine zw_count hx hb ht hown hK hZ htt ev3 tw_34 dW_divideOut_97 ?_
      refine lv_iconst (v := iZ (1)) hx hb dW_divideOut_100 (by decide) ?_
      refine zr_isub hx hb dW_divideOut_101 ?_
      refine lv_istore (lv' := [(9, .int (iZ (((n - n2 + 1 : Nat) : Int) - 1))), (7, .long (lZ (↑nx0))), (5, .long (lZ (↑hi0))), (4, .int (iZ (↑up))), (3, .int (iZ ((↑n - ↑n2) + 1))), (0, .ref (B + k)), (1, .ref (B + j)), (2, .ref (B + t))]) hx hb dW_divideOut_102 hl (by decide) rfl (fun ls hl => ?_)
      have L104 : ∀ (fu : Nat) (m0 : Nat) (du : Nat → Nat) (dq : Nat → Nat) (v : Nat → zV) (H : Heap) (locs : List Loc) (ls : Array Slot), m0 < fu → (wv d n = wv d2 n2 * wv dq (n - n2 + 1) + wv du (m0 + n2)) → (wv du (m0 + n2) < wv d2 n2 * wP m0) → (∀ i, i < m0 → dq i = 0) → (m0 ≤ n - n2 + 1) → v k = (du, m0 + n2, b) → v j = (d2, n2, b2) → v t = (dq, n - n2 + 1, false) → (∀ j, j ≠ k → j ≠ t → v j = v0 j) → zD E B v o H → va_S (zA B 80) s.heap H locs → lv_has ls 12 [(0, .ref (B + k)), (1, .ref (B + j)), (2, .ref (B + t)), (4, .int (iZ (↑up))), (5, .long (lZ (↑hi0))), (7, .long (lZ (↑nx0))), (9, .int (iZ (↑m0 - 1)))] → W p l e R s m args below meth c H locs 0 0 Q (F0 m 104 ls []) := by
        intro fu
        induction fu with
        | zero => intro m0 du dq v H locs ls hm; exact absurd hm (Nat.not_lt_zero _)
        | succ fu ihL104 =>
          intro m0 du dq v H locs ls hm hI hlt hz hm ev ev2 ev3 fr hZ hS hl
          refine lv_iload hx hb dW_divideOut_104 (lv_at hl 6 rfl) ?_
          refine zr_if_lt (tgt := 194) hx hb (by omega) dW_divideOut_106 (by decide) (fun c_12 => ?_) (fun c_12 => ?_)
          · have hm0 : m0 = 0 := by omega
            rw [hm0] at ev hI hlt
            refine lv_aload_n hx hb dW_divideOut_194 rfl (lv_at hl 2 rfl) ?_
            refine zcV_v 0 (As := []) (rest := []) rfl ⟨hx, hb, hml, hown, ht⟩ (mW_trim l E B v o t htt dq (n - n2 + 1) false ev3) tw_295 tw_292 tw_293 tw_294 tw_2 qW_trim (by rw [hR]; decide) (zW_recv hK hZ htt) hZ hK hl.1 rfl rfl (Nat.le_of_ble_eq_true rfl) dW_divideOut_195 ⟨Nat.zero_le _, Nat.zero_le _⟩ hS (fun  v H locs hp hZ _ hS => ?_)
            obtain ⟨ho, n_13, ev3, hn_13le, hn_13z, hn_13nz⟩ := hp
            have ev := (ho k (Ne.symm htk)).trans ev
            have ev2 := (ho j (Ne.symm htj)).trans ev2
            have fr : ∀ j, j ≠ k → j ≠ t → v j = v0 j := fun j h0 h1 => (ho j h1).trans (fr j h0 h1)
            refine lv_aload_n hx hb dW_divideOut_198 rfl (lv_at hl 0 rfl) ?_
            refine zcV_v 0 (As := []) (rest := []) rfl ⟨hx, hb, hml, hown, ht⟩ (mW_trim l E B v o k hk du (0 + n2) b ev) tw_295 tw_292 tw_293 tw_294 tw_2 qW_trim (by rw [hR]; decide) (zW_recv hK hZ hk) hZ hK hl.1 rfl rfl (Nat.le_of_ble_eq_true rfl) dW_divideOut_199 ⟨Nat.zero_le _, Nat.zero_le _⟩ hS (fun  v H locs hp hZ _ hS => ?_)
            obtain ⟨ho, n_14, ev, hn_14le, hn_14z, hn_14nz⟩ := hp
            have ev2 := (ho j hjk).trans ev2
            have ev3 := (ho t htk).trans ev3
            have fr : ∀ j, j ≠ k → j ≠ t → v j = v0 j := fun j h0 h1 => (ho j h0).trans (fr j h0 h1)
            exact hend 202 v _ _ _ dW_divideOut_202 (⟨fr, wv dq (n - n2 + 1), wv du (0 + n2), by rw [Nat.mul_comm]; exact hI, by rw [wP_0, Nat.mul_one] at hlt; exact hlt, by rw [ev3]; exact zN_trim (b := false) hn_13le hn_13z hn_13nz, by rw [ev]; exact zN_trim (b := b) hn_14le hn_14z hn_14nz⟩) hZ hS
          · have hm1 : 1 ≤ m0 := by omega
            have hdub : ∀ i, du i < 268435456 := by have := (hZ.2 k hk).1; rw [ev] at this; exact this
            have hG := dv_guess hd2 hdub hn20 (hz2 hn20) hq_4 hupe hm1 hlt
            rw [← hhi0, ← hnx0] at hG
            obtain ⟨g0, hg0⟩ : ∃ t, t = gs (hi0 * 268435456 + nx0) ((lsh du (m0 + n2) up (m0 + n2) * 268435456 + lsh du (m0 + n2) up (m0 + n2 - 1)) * 268435456 + lsh du (m0 + n2) up (m0 + n2 - 2)) := ⟨_, rfl⟩
            rw [← hg0] at hG
            have hgB : g0 < 268435456 := by rw [hg0]; exact gs_lt _ _
            have hVQ : 0 < wv d2 n2 * wP (m0 - 1) := Nat.mul_pos ((nz_pos hz2).mp hn20) (wP_pos _)
            have hRn := wv_lt hdub (m0 + n2)
            have hVQn : wv d2 n2 * wP (m0 - 1) < wP (m0 + n2) := Nat.lt_of_lt_of_le (by rw [Nat.add_comm (m0 - 1), wP_add]; exact Nat.mul_lt_mul_of_pos_right (wv_lt hd2 n2) (wP_pos _) : wv d2 n2 * wP (m0 - 1) < wP (m0 - 1 + n2)) (wP_mono (by omega))
            have J165 : ∀ (g1 : Nat) (du1 : Nat → Nat) (v : Nat → zV) (H : Heap) (locs : List Loc) (ls : Array Slot), ((wv du1 (m0 + n2) : Int) + (g1 : Int) * ((wv d2 n2 : Int) * wP (m0 - 1)) = wv du (m0 + n2)) → ((wv du1 (m0 + n2) : Int) < (wv d2 n2 : Int) * wP (m0 - 1)) → (g1 < 268435456) → v k = (du1, m0 + n2, b) → v j = (d2, n2, b2) → v t = (dq, n - n2 + 1, false) → (∀ j, j ≠ k → j ≠ t → v j = v0 j) → zD E B v o H → va_S (zA B 80) s.heap H locs → lv_has ls 12 [(0, .ref (B + k)), (1, .ref (B + j)), (2, .ref (B + t)), (4, .int (iZ (↑up))), (5, .long (lZ (↑hi0))), (7, .long (lZ (↑nx0))), (9, .int (iZ (↑m0 - 1))), (10, .long (lZ (↑g1)))] → W p l e R s m args below meth c H locs 0 0 Q (F0 m 165 ls []) := by
              intro g1 du1 v H locs ls hJ1 hJ2 hJ3 ev ev2 ev3 fr hZ hS hl
              have hnx := dv_next hd2 hm1 hm hI hz hJ1 hJ2
              refine lv_aload_n hx hb dW_divideOut_165 rfl (lv_at hl 2 rfl) ?_
              refine zw_limbs hx hb ht hown hK hZ htt ev3 tw_31 dW_divideOut_166 ?_
              refine lv_iload hx hb dW_divideOut_169 (lv_at hl 6 rfl) ?_
              refine lv_lload hx hb dW_divideOut_171 (lv_at hl 7 rfl) ?_
              refine zw_st (x := g1) hx hb hK hZ htt ev3 hS (by omega) (by omega) (by omega) dW_divideOut_173 (fun v H locs ev3 ho hZ hS => ?_)
              rw [show (↑m0 - 1 : Int).toNat = m0 - 1 from by omega] at ev3
              have ev := (ho k (Ne.symm htk)).trans ev
              have ev2 := (ho j (Ne.symm htj)).trans ev2
              have fr : ∀ j, j ≠ k → j ≠ t → v j = v0 j := fun j h0 h1 => (ho j h1).trans (fr j h0 h1)
              refine lv_aload_n hx hb dW_divideOut_174 rfl (lv_at hl 0 rfl) ?_
              refine lv_aload_n hx hb dW_divideOut_175 rfl (lv_at hl 0 rfl) ?_
              refine zw_count hx hb ht hown hK hZ hk ev tw_34 dW_divideOut_176 ?_
              refine lv_iconst (v := iZ (1)) hx hb dW_divideOut_179 (by decide) ?_
              refine zr_isub hx hb dW_divideOut_180 ?_
              refine lv_iconst (v := iZ (0)) hx hb dW_divideOut_181 (by decide) ?_
              refine zr_max hx hb (by rw [hml]; exact hl.1.symm) ht hown tw_308 (by rw [hR]; decide) (by rw [hR]; exact Nat.le_of_ble_eq_true rfl) (Nat.zero_le _) (Nat.zero_le _) (by omega) (by omega) dW_divideOut_182 ?_
              rw [show (max (((m0 + n2 : Nat) : Int) - 1 : Int) (0 : Int) : Int) = ((m0 - 1 + n2 : Nat) : Int) from by omega]
              refine zw_put_count (n1 := m0 - 1 + n2) hx hb ht hown hK hZ hk ev hS (by omega) tw_34 dW_divideOut_185 (fun v H locs ev ho hZ hS => ?_)
              have ev2 := (ho j hjk).trans ev2
              have ev3 := (ho t htk).trans ev3
              have fr : ∀ j, j ≠ k → j ≠ t → v j = v0 j := fun j h0 h1 => (ho j h0).trans (fr j h0 h1)
              refine lv_iinc (v := iZ (↑m0 - 1 - 1)) (lv' := [(9, .int (iZ (↑m0 - 1 - 1))), (0, .ref (B + k)), (1, .ref (B + j)), (2, .ref (B + t)), (4, .int (iZ (↑up))), (5, .long (lZ (↑hi0))), (7, .long (lZ (↑nx0))), (10, .long (lZ (↑g1)))]) hx hb dW_divideOut_188 hl (k := 6) rfl (iZ_dec _ _) (by decide) rfl (fun ls hl => ?_)
              refine lv_goto (tgt := 104) hx hb dW_divideOut_191 (by decide) ?_
              rw [show (↑m0 - 1 - 1 : Int) = ↑(m0 - 1) - 1 from by omega] at hl
              exact ihL104 (m0 - 1) du1 (va_up dq (m0 - 1) g1) v _ _ _ (by omega) (hnx.1) (hnx.2) (fun i hi => by rw [va_up_ne _ _ (by omega)]; exact hz i (by omega)) (by omega) ev ev2 ev3 fr hZ hS (lv_sub hl [1, 2, 3, 4, 5, 6, 0] rfl)
            refine lv_aload_n hx hb dW_divideOut_109 rfl (lv_at hl 0 rfl) ?_
            refine lv_iload hx hb dW_divideOut_110 (lv_at hl 6 rfl) ?_
            refine lv_aload_n hx hb dW_divideOut_112 rfl (lv_at hl 1 rfl) ?_
            refine zw_count hx hb ht hown hK hZ hj ev2 tw_34 dW_divideOut_113 ?_
            refine zr_iadd hx hb dW_divideOut_116 ?_
            refine zc_i (y := iZ (↑(m0 - 1 + n2))) (congrArg iZ (by omega)) ?_
            refine lv_iload hx hb dW_divideOut_117 (lv_at hl 3 rfl) ?_
            refine lv_lload hx hb dW_divideOut_119 (lv_at hl 4 rfl) ?_
            refine lv_lload hx hb dW_divideOut_121 (lv_at hl 5 rfl) ?_
            refine zcV_l 4 (As := [.int (iZ (↑(m0 - 1 + n2))), .int (iZ (↑up)), .long (lZ (↑hi0)), .long (lZ (↑nx0))]) (rest := []) rfl ⟨hx, hb, hml, hown, ht⟩ (mW_guess l E B v o k hk du (m0 + n2) b ev (m0 - 1 + n2) ⟨by omega, by omega⟩ up (by omega) hi0 nx0 ⟨hG.1, by rw [hhi0]; exact lsh_lt _ _ _ _⟩ (by rw [hnx0]; exact lsh_lt _ _ _ _) (by rw [show m0 - 1 + n2 + 1 = m0 + n2 by omega]; exact hG.2.1)) tw_423 tw_420 tw_422 tp_5 tw_2 qW_guess (by rw [hR]; decide) (zW_recv hK hZ hk) hZ hK hl.1 rfl rfl (Nat.le_of_ble_eq_true rfl) dW_divideOut_123 ⟨Nat.zero_le _, Nat.zero_le _⟩ hS (fun r_15 v1 H locs hp hZ _ hS => ?_)
            obtain ⟨hv1, hr1⟩ := hp
            rw [hv1] at hZ
            subst hr1
            clear hv1 v1
            refine zc_l (y := lZ (↑g0)) (congrArg lZ (by rw [hg0, show m0 - 1 + n2 + 1 = m0 + n2 by omega, show m0 - 1 + n2 = m0 + n2 - 1 by omega, show m0 + n2 - 1 - 1 = m0 + n2 - 2 by omega])) ?_
            refine lv_lstore (lv' := [(10, .long (lZ (↑g0))), (0, .ref (B + k)), (1, .ref (B + j)), (2, .ref (B + t)), (4, .int (iZ (↑up))), (5, .long (lZ (↑hi0))), (7, .long (lZ (↑nx0))), (9, .int (iZ (↑m0 - 1)))]) hx hb dW_divideOut_126 hl (by decide) rfl (fun ls hl => ?_)
            refine lv_lload hx hb dW_divideOut_128 (lv_at hl 0 rfl) ?_
            refine lv_lconst (v := lZ (0)) hx hb dW_divideOut_130 (by decide) ?_
            refine zr_lcmp_eq (tgt := 165) hx hb (by omega) (by omega) dW_divideOut_131 dW_divideOut_132 (by decide) (fun c_16 => ?_) (fun c_16 => ?_)
            · exact J165 g0 du v _ _ _ (by have h0 : g0 = 0 := (by omega); rw [h0]; simp) (by have h9 := (Nat.div_lt_iff_lt_mul hVQ).mp (show wv du (m0 + n2) / (wv d2 n2 * wP (m0 - 1)) < 1 by omega); rw [Nat.one_mul] at h9; have e9 : (wv d2 n2 : Int) * wP (m0 - 1) = ((wv d2 n2 * wP (m0 - 1) : Nat) : Int) := (by simp only [Int.natCast_mul]); rw [e9]; omega) (hgB) ev ev2 ev3 fr hZ hS (lv_sub hl [1, 2, 3, 4, 5, 6, 7, 0] rfl)
            · refine lv_aload_n hx hb dW_divideOut_135 rfl (lv_at hl 1 rfl) ?_
              refine lv_aload_n hx hb dW_divideOut_136 rfl (lv_at hl 2 rfl) ?_
              refine lv_lload hx hb dW_divideOut_137 (lv_at hl 0 rfl) ?_
              refine zr_lneg hx hb dW_divideOut_139 ?_
              refine lv_iload hx hb dW_divideOut_140 (lv_at hl 7 rfl) ?_
              rw [show (↑m0 - 1 : Int) = ((m0 - 1 : Nat) : Int) from by omega]
              refine zcV_l 3 (As := [.ref (B + j), .long (lZ (-↑g0)), .int (iZ (↑(m0 - 1)))]) (rest := []) rfl ⟨hx, hb, hml, hown, ht⟩ (mW_mix l E B v o k hk du (m0 + n2) b ev j hj d2 n2 b2 ev2 hjk (-↑g0) (⟨by omega, by omega⟩) (m0 - 1) (by omega)) tw_374 tw_424 tw_372 tw_373 tw_2 qW_mix (by rw [hR]; decide) (zW_recv hK hZ hk) hZ hK hl.1 rfl rfl (Nat.le_of_ble_eq_true rfl) dW_divideOut_142 ⟨Nat.zero_le _, Nat.zero_le _⟩ hS (fun r_19 v H locs hp hZ _ hS => ?_)
              obtain ⟨ho, d_17, k_18, ev, hr1, hk_18I, hk_18lo, hk_18hi⟩ := hp
              subst hr1
              have ev2 := (ho j hjk).trans ev2
              have ev3 := (ho t htk).trans ev3
              have fr : ∀ j, j ≠ k → j ≠ t → v j = v0 j := fun j h0 h1 => (ho j h0).trans (fr j h0 h1)
              refine lv_lconst (v := lZ (0)) hx hb dW_divideOut_145 (by decide) ?_
              refine zr_lcmp_ge (tgt := 165) hx hb (by omega) (by omega) dW_divideOut_146 dW_divideOut_147 (by decide) (fun c_20 => ?_) (fun c_20 => ?_)
              · have hx9 := dv_digit (g := g0) (A := (wv d_17 (m0 + n2) : Int)) (n := m0 + n2) hVQ hG.2.2.1 hRn (Int.natCast_nonneg _) (by have h9 : ∀ i, d_17 i < 268435456 := (by have := (hZ.2 k hk).1; rw [ev] at this; exact this); have := wv_lt h9 (m0 + n2); omega) (by rw [hk_18I, Int.neg_mul, Int.neg_mul, Int.sub_eq_add_neg]) (by omega)
                exact J165 g0 d_17 v _ _ _ (hx9.1) (hx9.2) (hgB) ev ev2 ev3 fr hZ hS (lv_sub hl [1, 2, 3, 4, 5, 6, 7, 0] rfl)
              · have hA1 : (wv d_17 (m0 + n2) : Int) < wP (m0 + n2) := by have h9 : ∀ i, d_17 i < 268435456 := (by have := (hZ.2 k hk).1; rw [ev] at this; exact this); have := wv_lt h9 (m0 + n2); omega
                refine lv_aload_n hx hb dW_divideOut_150 rfl (lv_at hl 1 rfl) ?_
                refine lv_aload_n hx hb dW_divideOut_151 rfl (lv_at hl 2 rfl) ?_
                refine lv_lconst (v := lZ (1)) hx hb dW_divideOut_152 (by decide) ?_
                refine lv_iload hx hb dW_divideOut_153 (lv_at hl 7 rfl) ?_
                rw [show (↑m0 - 1 : Int) = ((m0 - 1 : Nat) : Int) from by omega]
                refine zcV_l 3 (As := [.ref (B + j), .long (lZ (1)), .int (iZ (↑(m0 - 1)))]) (rest := []) rfl ⟨hx, hb, hml, hown, ht⟩ (mW_mix l E B v o k hk d_17 (m0 + n2) b ev j hj d2 n2 b2 ev2 hjk (1) (⟨by omega, by omega⟩) (m0 - 1) (by omega)) tw_374 tw_424 tw_372 tw_373 tw_2 qW_mix (by rw [hR]; decide) (zW_recv hK hZ hk) hZ hK hl.1 rfl rfl (Nat.le_of_ble_eq_true rfl) dW_divideOut_155 ⟨Nat.zero_le _, Nat.zero_le _⟩ hS (fun r_23 v H locs hp hZ _ hS => ?_)
                obtain ⟨ho, d_21, k_22, ev, hr1, hk_22I, hk_22lo, hk_22hi⟩ := hp
                subst hr1
                have ev2 := (ho j hjk).trans ev2
                have ev3 := (ho t htk).trans ev3
                have fr : ∀ j, j ≠ k → j ≠ t → v j = v0 j := fun j h0 h1 => (ho j h0).trans (fr j h0 h1)
                refine lv_pop2_2 hx hb dW_divideOut_158 rfl ?_
                refine lv_lload hx hb dW_divideOut_159 (lv_at hl 0 rfl) ?_
                refine lv_lconst (v := lZ (1)) hx hb dW_divideOut_161 (by decide) ?_
                refine zr_lsub hx hb dW_divideOut_162 ?_
                refine zc_l (y := lZ (↑(g0 - 1))) (congrArg lZ (by omega)) ?_
                refine lv_lstore (lv' := [(10, .long (lZ (↑(g0 - 1)))), (0, .ref (B + k)), (1, .ref (B + j)), (2, .ref (B + t)), (4, .int (iZ (↑up))), (5, .long (lZ (↑hi0))), (7, .long (lZ (↑nx0))), (9, .int (iZ (↑m0 - 1)))]) hx hb dW_divideOut_163 hl (by decide) rfl (fun ls hl => ?_)
                have hx9 := dv_back (g := g0) (A := (wv d_17 (m0 + n2) : Int)) (A2 := (wv d_21 (m0 + n2) : Int)) (n := m0 + n2) hVQ hG.2.2.2 hRn hVQn (Int.natCast_nonneg _) hA1 (by rw [hk_18I, Int.neg_mul, Int.neg_mul, Int.sub_eq_add_neg]) (by omega) (Int.natCast_nonneg _) (by have h9 : ∀ i, d_21 i < 268435456 := (by have := (hZ.2 k hk).1; rw [ev] at this; exact this); have := wv_lt h9 (m0 + n2); omega) hk_22I
                exact J165 (g0 - 1) d_21 v _ _ _ (hx9.2.1) (hx9.2.2) (by omega) ev ev2 ev3 fr hZ hS (lv_sub hl [1, 2, 3, 4, 5, 6, 7, 0] rfl)
      exact L104 _ (n - n2 + 1) d_11 d_9 v _ _ _ (Nat.lt_succ_self _) (by rw [wv_drop (m := 0) (Nat.zero_le _) (fun i _ hi => hq0 i hi), wv_0, Nat.mul_zero, Nat.zero_add]; exact hfi.1.symm) (by rw [hfi.1]; exact hfi.2) (hq0) (Nat.le_refl _) ev ev2 ev3 fr hZ hS (lv_sub hl [5, 6, 7, 3, 2, 1, 0] rfl)
    · exact hend 34 v _ _ _ dW_divideOut_34 (⟨fr, 0, wv d n, by rw [Nat.zero_mul, Nat.zero_add], Nat.lt_of_lt_of_le (wv_lt hd0 n) (Nat.le_trans (wP_mono (show n ≤ n2 - 1 by omega)) (by have h9 := wv_ge (hz2 hn20); rw [show n2 - 1 + 1 = n2 by omega] at h9; exact h9)), by rw [ev3]; exact ⟨nz_0 _, fun h => (by cases h), rfl⟩, by rw [ev]; exact ⟨hz1, hb1, rfl⟩⟩) hZ hS
