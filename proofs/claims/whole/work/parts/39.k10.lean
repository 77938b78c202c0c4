theorem lZ_min2048 {sn sk : Nat} (h : sn < 9223372036854775808) (hk : sk = min sn 2048) : (if lZ 2048 < lZ ((sn : Nat) : Int) then lZ 2048 else lZ ((sn : Nat) : Int)) = lZ ((sk : Nat) : Int) := by
  by_cases h9 : lZ 2048 < lZ ((sn : Nat) : Int)
  · rw [if_pos h9]; rw [lZ_lt (by unfold zl; omega) (by unfold zl; omega)] at h9; congr 1; omega
  · rw [if_neg h9]; rw [lZ_lt (by unfold zl; omega) (by unfold zl; omega)] at h9; congr 1; omega
set_option maxHeartbeats 4000000 in
set_option maxRecDepth 100000 in
theorem mK_shiftedUp (l : Launch) (E : zE) (B : Nat) (v0 : Nat → zV) (o : Nat → va_E) (an0 sp0 : Nat) (hA0 : swp 27 29 an0 sp0) (a : Nat) (hla : lp a = true) (x : Int) (hVx : zN (v0 a) x) (hXx : zX x) (sn : Nat) (hsn : sn < 2147483648) (hfit : x ≠ 0 → sn ≤ 2048) (ha : a < 22) :
    Met l yK_shiftedUp (zws yK_shiftedUp cK_shiftedUp 5 (some (.object "WholeDesk$Whole"))) { frames := 2, cells := 0, slots := 0, locals := 70 } (zPc E (zD E B v0 (zo E B o an0 sp0)) [.ref (B + 22), .ref (B + a), .int (iZ (↑sn))]) (va_Qr (fun u : (Nat → zV) × Nat × Nat × Nat => (∀ j, j ≠ an0 → u.1 j = v0 j) ∧ (u.2.1 = an0 ∧ u.2.2.1 = sp0) ∧ u.2.2.2 = an0 ∧ zN (u.1 an0) (x * ((2 ^ sn : Nat) : Int))) (fun (u : (Nat → zV) × Nat × Nat × Nat) a t => (a = B + u.2.2.2 ∧ zD E B u.1 (zo E B o u.2.1 u.2.2.1) t.heap) ∧ zK E t) (zA B 80)) 0 0 (zA B 80) := by
  have hA1 : (an0 = 27 ∧ sp0 = 29) ∨ (an0 = 29 ∧ sp0 = 27) := hA0
  have ne_0_1 : nA an0 a := by show an0 ≠ a; omega
  clear ha
  clear hA1
  have ne_a : a ≠ an0 := (Ne.symm ne_0_1)
  refine zof_r (P' := fun (u : (Nat → zV) × Nat × Nat × Nat) a H => a = B + u.2.2.2 ∧ zD E B u.1 (zo E B o u.2.1 u.2.2.1) H) (by decide) (Nat.le_of_ble_eq_true rfl) fun p e R s m args below meth c Q ls hR hx hb hml ht hown hK hZ hl hend => ?_
  have hS : va_S (zA B 80) s.heap s.heap [] := va_S.rf
  have hown : s.vm.findClass "WholeDesk$Reckoner" = some m.cls := hown
  have hl : lv_has ls 5 [(0, .ref (B + 22)), (1, .ref (B + a)), (2, .int (iZ (↑sn)))] := hl
  have hlan : lp an0 = true := (swp_lp hA0 (by decide) (by decide)).1
  have hlsp : lp sp0 = true := (swp_lp hA0 (by decide) (by decide)).2
  have hdd := (hZ.2 a hla).1
  have hnn := (zN_len (hZ.2 a hla).1 hVx).mpr (zX_74 hXx)
  obtain ⟨dd, hde⟩ : ∃ d9, d9 = (v0 a).1 := ⟨_, rfl⟩
  obtain ⟨nn, hne⟩ : ∃ n9, n9 = (v0 a).2.1 := ⟨_, rfl⟩
  have hEE : x.natAbs = wv dd nn := by rw [hde, hne]; exact zN_abs hVx
  rw [← hde] at hdd
  rw [← hne] at hnn
  have hnx := zN_neg hVx
  have hn0 : nn = 0 ↔ x = 0 := by rw [hne]; exact zN_0 hVx
  have fr : ∀ j, j ≠ an0 → v0 j = v0 j := fun j _ => rfl
  refine lv_aload_n hx hb dK_shiftedUp_0 rfl (lv_at hl 0 rfl) ?_
  refine zk_answer hx hb ht hown hK hZ tw_63 dK_shiftedUp_1 ?_
  refine lv_lconst (v := lZ (0)) hx hb dK_shiftedUp_4 (by decide) ?_
  refine zcV_v 1 (As := [.long (lZ (0))]) (rest := []) rfl ⟨hx, hb, hml, hown, ht⟩ (mW_become l E B v0 (zo E B o an0 sp0) an0 hlan (v0 an0).1 (v0 an0).2.1 (v0 an0).2.2 rfl ((0 : Int)) (by omega)) tw_290 tw_458 tw_288 tw_289 tw_2 qW_become (by rw [hR]; decide) (zW_recv hK hZ hlan) hZ hK hl.1 rfl rfl (Nat.le_of_ble_eq_true rfl) dK_shiftedUp_5 ⟨Nat.zero_le _, Nat.zero_le _⟩ hS (fun v H locs hp hZ _ hS => ?_)
  obtain ⟨ho, hN9⟩ := hp
  have hVx : zN (v a) (x) := by rw [ho _ (Ne.symm ne_0_1)]; exact hVx
  have fr : ∀ j, j ≠ an0 → v j = v0 j := fun j h0 => (ho j h0).trans (fr j h0)
  have hNan : zN (v an0) ((0 : Int)) := hN9
  refine lv_aload_n hx hb dK_shiftedUp_8 rfl (lv_at hl 1 rfl) ?_
  refine zw_count (d := (v a).1) (n := (v a).2.1) (b := (v a).2.2) hx hb ht hown hK hZ hla rfl tw_33 dK_shiftedUp_9 ?_
  have hva : v a = v0 a := fr a ne_a
  rw [hva, ← hne]
  refine zr_if_eq (tgt := 19) hx hb (by omega) dK_shiftedUp_12 (by decide) (fun c_1 => ?_) (fun c_1 => ?_)
  · have hx0 : x = 0 := hn0.mp (by omega)
    refine lv_aload_n hx hb dK_shiftedUp_19 rfl (lv_at hl 0 rfl) ?_
    refine zk_answer hx hb ht hown hK hZ tw_63 dK_shiftedUp_20 ?_
    exact hend 23 (v, an0, sp0, an0) _ _ _ _ dK_shiftedUp_23 (⟨fr, ⟨rfl, rfl⟩, rfl, by rw [hx0, Int.zero_mul]; exact hNan⟩) ⟨rfl, hZ⟩ hS
  · refine lv_iload_n hx hb dK_shiftedUp_15 rfl (lv_at hl 2 rfl) ?_
    refine zr_if_ge (tgt := 24) hx hb (by unfold zi; omega) dK_shiftedUp_16 (by decide) (fun c_2 => ?_) (fun c_2 => ?_)
    · have hx0 : x ≠ 0 := fun h9 => absurd (hn0.mpr h9) (by omega)
      have hs28 := hfit hx0
      refine lv_iload_n hx hb dK_shiftedUp_24 rfl (lv_at hl 2 rfl) ?_
      refine lv_bipush (v := iZ (28)) hx hb dK_shiftedUp_25 (by decide) ?_
      refine zr_idiv hx hb (by unfold zi; omega) (by unfold zi; omega) (by omega) (by omega) dK_shiftedUp_27 ?_
      refine zc_i (y := iZ (↑(sn / 28))) (congrArg iZ (by omega)) ?_
      refine lv_istore_n (lv' := [(3, .int (iZ (↑(sn / 28)))), (0, .ref (B + 22)), (1, .ref (B + a)), (2, .int (iZ (↑sn)))]) hx hb dK_shiftedUp_28 rfl hl (by decide) rfl (fun ls hl => ?_)
      refine lv_aload_n hx hb dK_shiftedUp_29 rfl (lv_at hl 1 rfl) ?_
      refine zk_answer hx hb ht hown hK hZ tw_63 dK_shiftedUp_30 ?_
      refine lv_iload_n hx hb dK_shiftedUp_33 rfl (lv_at hl 0 rfl) ?_
      refine lv_aload_n hx hb dK_shiftedUp_34 rfl (lv_at hl 2 rfl) ?_
      refine zw_count (d := (v a).1) (n := (v a).2.1) (b := (v a).2.2) hx hb ht hown hK hZ hla rfl tw_33 dK_shiftedUp_35 ?_
      rw [hva, ← hne]
      refine zr_iadd hx hb dK_shiftedUp_38 ?_
      refine lv_iconst (v := iZ (1)) hx hb dK_shiftedUp_39 (by decide) ?_
      refine zr_iadd hx hb dK_shiftedUp_40 ?_
      refine zc_i (y := iZ (↑(sn / 28 + nn + 1))) (congrArg iZ (by omega)) ?_
      have hM_an : zM (v an0) (v an0).2.1 ((0 : Int)).natAbs (v an0).2.2 := zN_M hNan
      obtain ⟨n_3, hnn_3⟩ : ∃ n9, n9 = (v an0).2.1 := ⟨_, rfl⟩
      obtain ⟨b_4, hbb_4⟩ : ∃ b9, b9 = (v an0).2.2 := ⟨_, rfl⟩
      rw [← hnn_3, ← hbb_4] at hM_an
      have hst9 : max (v an0).2.1 (min (↑(sn / 28 + nn + 1) : Int) 152).toNat = sn / 28 + nn + 1 := by have h8 : (v an0).2.1 = 0 := (zN_0 hNan).mpr rfl; omega
      refine zcV_v 1 (As := [.int (iZ (↑(sn / 28 + nn + 1)))]) (rest := []) rfl ⟨hx, hb, hml, hown, ht⟩ (mW_stretch l E B v (zo E B o an0 sp0) an0 hlan (v an0).1 (v an0).2.1 (v an0).2.2 rfl (↑(sn / 28 + nn + 1)) (by unfold zi; omega)) tw_304 tw_370 tw_302 tw_303 tw_2 qW_stretch (by rw [hR]; decide) (zW_recv hK hZ hlan) hZ hK hl.1 rfl rfl (Nat.le_of_ble_eq_true rfl) dK_shiftedUp_41 ⟨Nat.zero_le _, Nat.zero_le _⟩ hS (fun v H locs hp hZ _ hS => ?_)
      obtain ⟨ho, d9, n9, ev9, hn9, hlo9, hhi9⟩ := hp
      rw [hst9] at hn9
      have hle9 := hst9 ▸ Nat.le_max_left _ _
      have hM9 := zM_stretch hM_an ev9 (by rw [hn9]; exact hle9) hlo9 hhi9
      rw [hn9] at hM9
      have hVx : zN (v a) (x) := by rw [ho _ (Ne.symm ne_0_1)]; exact hVx
      have fr : ∀ j, j ≠ an0 → v j = v0 j := fun j h0 => (ho j h0).trans (fr j h0)
      have hM_an : zM (v an0) (sn / 28 + nn + 1) (((0 : Int)).natAbs) (b_4) := hM9
      obtain ⟨ee, eva⟩ : ∃ q, v an0 = (q, sn / 28 + nn + 1, b_4) := ⟨(v an0).1, Prod.ext rfl (Prod.ext hM_an.1 hM_an.2.2)⟩
      have hee0 : ∀ j, j < sn / 28 → ee j = wv dd nn * 2 ^ sn / wP j % 268435456 := fun j hj => by have h8 := zM_0 (hZ.2 an0 hlan).1 hM_an (i := j) (by omega); rw [eva] at h8; rw [sh_up0 _ _ _ hj]; exact h8
      clear hM_an
      refine lv_iload_n hx hb dK_shiftedUp_44 rfl (lv_at hl 0 rfl) ?_
      refine lv_istore (lv' := [(4, .int (iZ (↑(sn / 28)))), (3, .int (iZ (↑(sn / 28)))), (0, .ref (B + 22)), (1, .ref (B + a)), (2, .int (iZ (↑sn)))]) hx hb dK_shiftedUp_45 hl (by decide) rfl (fun ls hl => ?_)
      have L47 : ∀ (fu : Nat) (i : Nat) (ee : Nat → Nat) (bb : Bool) (v : Nat → zV) (H : Heap) (locs : List Loc) (ls : Array Slot), sn / 28 + nn + 1 - i < fu → (sn / 28 ≤ i ∧ i ≤ sn / 28 + nn + 1) → (v an0 = (ee, sn / 28 + nn + 1, bb)) → (∀ j, j < i → ee j = wv dd nn * 2 ^ sn / wP j % 268435456) → zN (v a) (x) → (∀ j, j ≠ an0 → v j = v0 j) → zD E B v (zo E B o an0 sp0) H → va_S (zA B 80) s.heap H locs → lv_has ls 5 [(0, .ref (B + 22)), (1, .ref (B + a)), (2, .int (iZ (↑sn))), (3, .int (iZ (↑(sn / 28)))), (4, .int (iZ (↑i)))] → W p l e R s m args below meth c H locs 0 0 Q (F0 m 47 ls []) := by
        intro fu
        induction fu with
        | zero => intro i ee bb v H locs ls hm; exact absurd hm (Nat.not_lt_zero _)
        | succ fu ihL47 =>
          intro i ee bb v H locs ls hm hi eva he1 hVx fr hZ hS hl
          refine lv_iload hx hb dK_shiftedUp_47 (lv_at hl 4 rfl) ?_
          refine lv_aload_n hx hb dK_shiftedUp_49 rfl (lv_at hl 0 rfl) ?_
          refine zk_answer hx hb ht hown hK hZ tw_63 dK_shiftedUp_50 ?_
          refine zw_count (d := (v an0).1) (n := (v an0).2.1) (b := (v an0).2.2) hx hb ht hown hK hZ hlan rfl tw_33 dK_shiftedUp_53 ?_
          rw [show (v an0).2.1 = sn / 28 + nn + 1 by rw [eva]]
          refine zr_icmp_ge (tgt := 87) hx hb (by omega) (by omega) dK_shiftedUp_56 (by decide) (fun c_5 => ?_) (fun c_5 => ?_)
          · have hi9 : i = sn / 28 + nn + 1 := by omega
            rw [hi9] at he1
            have hT := wv_digs _ he1
            rw [Nat.mod_eq_of_lt (sh_upl hdd nn sn), ← hEE] at hT
            have hM_an : zM (v an0) (sn / 28 + nn + 1) (x.natAbs * 2 ^ sn) bb := by rw [eva]; exact ⟨rfl, hT, rfl⟩
            have hva : v a = v0 a := fr a ne_a
            clear eva
            refine lv_aload_n hx hb dK_shiftedUp_87 rfl (lv_at hl 0 rfl) ?_
            refine zk_answer hx hb ht hown hK hZ tw_63 dK_shiftedUp_88 ?_
            refine lv_aload_n hx hb dK_shiftedUp_91 rfl (lv_at hl 1 rfl) ?_
            refine zw_below (d := (v a).1) (n := (v a).2.1) (b := (v a).2.2) hx hb ht hown hK hZ hla rfl tw_38 dK_shiftedUp_92 ?_
            rw [hva]
            refine zw_put_below (d := (v an0).1) (n := (v an0).2.1) (b := (v an0).2.2) (b1 := (v0 a).2.2) hx hb ht hown hK hZ hlan rfl hS tw_38 dK_shiftedUp_95 (fun v H locs ev ho hZ hS => ?_)
            have hVx : zN (v a) (x) := by rw [ho _ (Ne.symm ne_0_1)]; exact hVx
            have fr : ∀ j, j ≠ an0 → v j = v0 j := fun j h0 => (ho j h0).trans (fr j h0)
            have hM_an : zM (v an0) (sn / 28 + nn + 1) (x.natAbs * 2 ^ sn) ((v0 a).2.2) := zM_b hM_an ev
            refine lv_aload_n hx hb dK_shiftedUp_98 rfl (lv_at hl 0 rfl) ?_
            refine zk_answer hx hb ht hown hK hZ tw_63 dK_shiftedUp_99 ?_
            refine zcV_v 0 (As := []) (rest := []) rfl ⟨hx, hb, hml, hown, ht⟩ (mW_trim l E B v (zo E B o an0 sp0) an0 hlan (v an0).1 (v an0).2.1 (v an0).2.2 rfl) tw_295 tw_384 tw_293 tw_294 tw_2 qW_trim (by rw [hR]; decide) (zW_recv hK hZ hlan) hZ hK hl.1 rfl rfl (Nat.le_of_ble_eq_true rfl) dK_shiftedUp_102 ⟨Nat.zero_le _, Nat.zero_le _⟩ hS (fun v H locs hp hZ _ hS => ?_)
            obtain ⟨ho, n9, ev9, hle9, hz9, hnz9⟩ := hp
            have hN9 := zM_trim hM_an ev9 hle9 hz9 hnz9
            have hVx : zN (v a) (x) := by rw [ho _ (Ne.symm ne_0_1)]; exact hVx
            have fr : ∀ j, j ≠ an0 → v j = v0 j := fun j h0 => (ho j h0).trans (fr j h0)
            have hNan : zN (v an0) (x * ((2 ^ sn : Nat) : Int)) := (show (if ((v0 a).2.2) = true then -(((x.natAbs * 2 ^ sn : Nat) : Int)) else ((x.natAbs * 2 ^ sn : Nat) : Int)) = x * ((2 ^ sn : Nat) : Int) from by by_cases h9 : x < 0; rw [if_pos (hnx.mpr h9), Int.natCast_mul, ← Int.neg_mul]; congr 1; omega; rw [if_neg (fun h8 => h9 (hnx.mp h8)), Int.natCast_mul]; congr 1; omega) ▸ hN9
            refine lv_aload_n hx hb dK_shiftedUp_105 rfl (lv_at hl 0 rfl) ?_
            refine zk_answer hx hb ht hown hK hZ tw_63 dK_shiftedUp_106 ?_
            exact hend 109 (v, an0, sp0, an0) _ _ _ _ dK_shiftedUp_109 (⟨fr, ⟨rfl, rfl⟩, rfl, hNan⟩) ⟨rfl, hZ⟩ hS
          · refine lv_aload_n hx hb dK_shiftedUp_59 rfl (lv_at hl 0 rfl) ?_
            refine zk_answer hx hb ht hown hK hZ tw_63 dK_shiftedUp_60 ?_
            refine zw_limbs (d := (v an0).1) (n := (v an0).2.1) (b := (v an0).2.2) hx hb ht hown hK hZ hlan rfl tw_32 dK_shiftedUp_63 ?_
            refine lv_iload hx hb dK_shiftedUp_66 (lv_at hl 4 rfl) ?_
            refine lv_aload_n hx hb dK_shiftedUp_68 rfl (lv_at hl 1 rfl) ?_
            refine lv_iload hx hb dK_shiftedUp_69 (lv_at hl 4 rfl) ?_
            refine lv_iload_n hx hb dK_shiftedUp_71 rfl (lv_at hl 3 rfl) ?_
            refine zr_isub hx hb dK_shiftedUp_72 ?_
            refine lv_iload_n hx hb dK_shiftedUp_73 rfl (lv_at hl 2 rfl) ?_
            refine lv_bipush (v := iZ (28)) hx hb dK_shiftedUp_74 (by decide) ?_
            refine zr_irem hx hb (by unfold zi; omega) (by unfold zi; omega) (by omega) (by omega) dK_shiftedUp_76 ?_
            refine zc_i (y := iZ (↑(sn % 28))) (congrArg iZ (by omega)) ?_
            refine zcV_l 2 (As := [.int (iZ (↑i - (↑(sn / 28)))), .int (iZ (↑(sn % 28)))]) (rest := [.int (iZ (↑i)), .ref (B + (an0 + 1))]) rfl ⟨hx, hb, hml, hown, ht⟩ (mW_limbShifted l E B v (zo E B o an0 sp0) a hla (v a).1 (v a).2.1 (v a).2.2 rfl (↑i - (↑(sn / 28))) (by omega) (sn % 28) (by omega)) tw_419 tw_579 tw_417 tw_418 tw_2 qW_limbShifted (by rw [hR]; decide) (zW_recv hK hZ hla) hZ hK hl.1 rfl rfl (Nat.le_of_ble_eq_true rfl) dK_shiftedUp_77 ⟨Nat.zero_le _, Nat.zero_le _⟩ hS (fun r_6 v1 H locs hp hZ _ hS => ?_)
            obtain ⟨hv1, hr1⟩ := hp
            rw [hv1] at hZ
            subst hr1
            clear hv1 v1
            have hva : v a = v0 a := fr a ne_a
            rw [hva, ← hde, ← hne, show (↑i - ↑(sn / 28) + 1 : Int).toNat = i - sn / 28 + 1 by omega, sh_up hdd nn sn i hi.1]
            refine zw_st (x := wv dd nn * 2 ^ sn / wP i % 268435456) hx hb hK hZ hlan eva hS (by omega) (by omega) (Nat.mod_lt _ (by decide)) dK_shiftedUp_80 (fun v H locs eva ho hZ hS => ?_)
            rw [Int.toNat_natCast] at eva
            have hVx : zN (v a) x := by rw [ho a ne_a]; exact hVx
            have fr : ∀ j, j ≠ an0 → v j = v0 j := fun j h0 => (ho j h0).trans (fr j h0)
            refine lv_iinc (v := iZ (↑i + 1)) (lv' := [(4, .int (iZ (↑i + 1))), (0, .ref (B + 22)), (1, .ref (B + a)), (2, .int (iZ (↑sn))), (3, .int (iZ (↑(sn / 28))))]) hx hb dK_shiftedUp_81 hl (k := 4) rfl (iZ_add _ _) (by decide) rfl (fun ls hl => ?_)
            refine lv_goto (tgt := 47) hx hb dK_shiftedUp_84 (by decide) ?_
            rw [show (↑i + 1 : Int) = ↑(i + 1) from by omega] at hl
            exact ihL47 (i + 1) (va_up ee i (wv dd nn * 2 ^ sn / wP i % 268435456)) bb v _ _ _ (by omega) (by omega) (eva) (fun j hj => by rcases Nat.lt_or_ge j i with h9 | h9; rw [va_up_ne _ _ (by omega)]; exact he1 j h9; rw [show j = i by omega, va_up_self]) hVx fr hZ hS (lv_sub hl [1, 2, 3, 4, 0] rfl)
      exact L47 _ (sn / 28) ee b_4 v _ _ _ (Nat.lt_succ_self _) (by omega) (eva) (hee0) hVx fr hZ hS (lv_sub hl [2, 3, 4, 1, 0] rfl)
    · exfalso; omega

set_option maxHeartbeats 4000000 in
set_option maxRecDepth 100000 in
theorem mK_shiftedDown (l : Launch) (E : zE) (B : Nat) (v0 : Nat → zV) (o : Nat → va_E) (an0 sp0 : Nat) (hA0 : swp 27 29 an0 sp0) (a : Nat) (hla : lp a = true) (x : Int) (hVx : zN (v0 a) x) (hXx : zX x) (sn : Nat) (hsn : sn < 9223372036854775808) (ha : a < 22) :
    Met l yK_shiftedDown (zws yK_shiftedDown cK_shiftedDown 7 (some (.object "WholeDesk$Whole"))) { frames := 3, cells := 0, slots := 0, locals := 104 } (zPc E (zD E B v0 (zo E B o an0 sp0)) [.ref (B + 22), .ref (B + a), .long (lZ (↑sn))]) (va_Qr (fun u : (Nat → zV) × Nat × Nat × Nat => (∀ j, j ≠ an0 → u.1 j = v0 j) ∧ (u.2.1 = an0 ∧ u.2.2.1 = sp0) ∧ u.2.2.2 = an0 ∧ zN (u.1 an0) (x / ((2 ^ (min sn 2048) : Nat) : Int))) (fun (u : (Nat → zV) × Nat × Nat × Nat) a t => (a = B + u.2.2.2 ∧ zD E B u.1 (zo E B o u.2.1 u.2.2.1) t.heap) ∧ zK E t) (zA B 80)) 0 0 (zA B 80) := by
  have hA1 : (an0 = 27 ∧ sp0 = 29) ∨ (an0 = 29 ∧ sp0 = 27) := hA0
  have ne_0_1 : nA an0 a := by show an0 ≠ a; omega
  clear ha
  clear hA1
  have ne_a : a ≠ an0 := (Ne.symm ne_0_1)
  refine zof_r (P' := fun (u : (Nat → zV) × Nat × Nat × Nat) a H => a = B + u.2.2.2 ∧ zD E B u.1 (zo E B o u.2.1 u.2.2.1) H) (by decide) (Nat.le_of_ble_eq_true rfl) fun p e R s m args below meth c Q ls hR hx hb hml ht hown hK hZ hl hend => ?_
  have hS : va_S (zA B 80) s.heap s.heap [] := va_S.rf
  have hown : s.vm.findClass "WholeDesk$Reckoner" = some m.cls := hown
  have hl : lv_has ls 7 [(0, .ref (B + 22)), (1, .ref (B + a)), (2, .long (lZ (↑sn)))] := hl
  have hlan : lp an0 = true := (swp_lp hA0 (by decide) (by decide)).1
  have hlsp : lp sp0 = true := (swp_lp hA0 (by decide) (by decide)).2
  have hdd := (hZ.2 a hla).1
  have hnn := (zN_len (hZ.2 a hla).1 hVx).mpr (zX_74 hXx)
  obtain ⟨dd, hde⟩ : ∃ d9, d9 = (v0 a).1 := ⟨_, rfl⟩
  obtain ⟨nn, hne⟩ : ∃ n9, n9 = (v0 a).2.1 := ⟨_, rfl⟩
  have hEE : x.natAbs = wv dd nn := by rw [hde, hne]; exact zN_abs hVx
  rw [← hde] at hdd
  rw [← hne] at hnn
  have hnx := zN_neg hVx
  have hn0 : nn = 0 ↔ x = 0 := by rw [hne]; exact zN_0 hVx
  obtain ⟨sk, hsk⟩ : ∃ k, k = min sn 2048 := ⟨_, rfl⟩
  rw [← hsk] at hend
  have hsk2 : sk ≤ 2048 := by omega
  have fr : ∀ j, j ≠ an0 → v0 j = v0 j := fun j _ => rfl
  refine lv_aload_n hx hb dK_shiftedDown_0 rfl (lv_at hl 0 rfl) ?_
  refine zk_answer hx hb ht hown hK hZ tw_63 dK_shiftedDown_1 ?_
  refine lv_lconst (v := lZ (0)) hx hb dK_shiftedDown_4 (by decide) ?_
  refine zcV_v 1 (As := [.long (lZ (0))]) (rest := []) rfl ⟨hx, hb, hml, hown, ht⟩ (mW_become l E B v0 (zo E B o an0 sp0) an0 hlan (v0 an0).1 (v0 an0).2.1 (v0 an0).2.2 rfl ((0 : Int)) (by omega)) tw_290 tw_458 tw_288 tw_289 tw_2 qW_become (by rw [hR]; decide) (zW_recv hK hZ hlan) hZ hK hl.1 rfl rfl (Nat.le_of_ble_eq_true rfl) dK_shiftedDown_5 ⟨Nat.zero_le _, Nat.zero_le _⟩ hS (fun v H locs hp hZ _ hS => ?_)
  obtain ⟨ho, hN9⟩ := hp
  have hVx : zN (v a) (x) := by rw [ho _ (Ne.symm ne_0_1)]; exact hVx
  have fr : ∀ j, j ≠ an0 → v j = v0 j := fun j h0 => (ho j h0).trans (fr j h0)
  have hNan : zN (v an0) ((0 : Int)) := hN9
  refine lv_lload_n hx hb dK_shiftedDown_8 rfl (lv_at hl 2 rfl) ?_
  refine lv_ldc2 (v := lZ (2048)) hx hb hown (ht _ tw_584) dK_shiftedDown_9 ?_
  refine va_mmin_long hx hb (by rw [hml]; exact hl.1.symm) hown (ht _ tw_585) (ht _ tw_586) (ht _ tw_12) (ht _ tw_587) (by rw [hR]; decide) (by rw [hR]; exact Nat.le_of_ble_eq_true rfl) (Nat.zero_le _) (Nat.zero_le _) dK_shiftedDown_12 ?_
  refine zc_l (y := lZ ↑sk) (lZ_min2048 hsn hsk) ?_
  refine zr_l2i hx hb dK_shiftedDown_15 ?_
  refine lv_istore (lv' := [(4, .int (iZ (↑sk))), (0, .ref (B + 22)), (1, .ref (B + a)), (2, .long (lZ (↑sn)))]) hx hb dK_shiftedDown_16 hl (by decide) rfl (fun ls hl => ?_)
  refine lv_iload hx hb dK_shiftedDown_18 (lv_at hl 0 rfl) ?_
  refine lv_bipush (v := iZ (28)) hx hb dK_shiftedDown_20 (by decide) ?_
  refine zr_idiv hx hb (by unfold zi; omega) (by unfold zi; omega) (by omega) (by omega) dK_shiftedDown_22 ?_
  refine zc_i (y := iZ (↑(sk / 28))) (congrArg iZ (by omega)) ?_
  refine lv_istore (lv' := [(5, .int (iZ (↑(sk / 28)))), (4, .int (iZ (↑sk))), (0, .ref (B + 22)), (1, .ref (B + a)), (2, .long (lZ (↑sn)))]) hx hb dK_shiftedDown_23 hl (by decide) rfl (fun ls hl => ?_)
  refine lv_aload_n hx hb dK_shiftedDown_25 rfl (lv_at hl 2 rfl) ?_
  refine zk_answer hx hb ht hown hK hZ tw_63 dK_shiftedDown_26 ?_
  refine lv_aload_n hx hb dK_shiftedDown_29 rfl (lv_at hl 3 rfl) ?_
  refine zw_count (d := (v a).1) (n := (v a).2.1) (b := (v a).2.2) hx hb ht hown hK hZ hla rfl tw_33 dK_shiftedDown_30 ?_
  have hva : v a = v0 a := fr a ne_a
  rw [hva, ← hne]
  refine lv_iload hx hb dK_shiftedDown_33 (lv_at hl 0 rfl) ?_
  refine zr_isub hx hb dK_shiftedDown_35 ?_
  have hM_an : zM (v an0) (v an0).2.1 ((0 : Int)).natAbs (v an0).2.2 := zN_M hNan
  obtain ⟨n_1, hnn_1⟩ : ∃ n9, n9 = (v an0).2.1 := ⟨_, rfl⟩
  obtain ⟨b_2, hbb_2⟩ : ∃ b9, b9 = (v an0).2.2 := ⟨_, rfl⟩
  rw [← hnn_1, ← hbb_2] at hM_an
  have hst9 : max (v an0).2.1 (min (↑nn - (↑(sk / 28)) : Int) 152).toNat = nn - sk / 28 := by have h8 : (v an0).2.1 = 0 := (zN_0 hNan).mpr rfl; omega
  refine zcV_v 1 (As := [.int (iZ (↑nn - (↑(sk / 28))))]) (rest := []) rfl ⟨hx, hb, hml, hown, ht⟩ (mW_stretch l E B v (zo E B o an0 sp0) an0 hlan (v an0).1 (v an0).2.1 (v an0).2.2 rfl (↑nn - (↑(sk / 28))) (by unfold zi; omega)) tw_304 tw_370 tw_302 tw_303 tw_2 qW_stretch (by rw [hR]; decide) (zW_recv hK hZ hlan) hZ hK hl.1 rfl rfl (Nat.le_of_ble_eq_true rfl) dK_shiftedDown_36 ⟨Nat.zero_le _, Nat.zero_le _⟩ hS (fun v H locs hp hZ _ hS => ?_)
  obtain ⟨ho, d9, n9, ev9, hn9, hlo9, hhi9⟩ := hp
  rw [hst9] at hn9
  have hle9 := hst9 ▸ Nat.le_max_left _ _
  have hM9 := zM_stretch hM_an ev9 (by rw [hn9]; exact hle9) hlo9 hhi9
  rw [hn9] at hM9
  have hVx : zN (v a) (x) := by rw [ho _ (Ne.symm ne_0_1)]; exact hVx
  have fr : ∀ j, j ≠ an0 → v j = v0 j := fun j h0 => (ho j h0).trans (fr j h0)
  have hM_an : zM (v an0) (nn - sk / 28) (((0 : Int)).natAbs) (b_2) := hM9
  obtain ⟨ee, eva⟩ : ∃ q, v an0 = (q, nn - sk / 28, b_2) := ⟨(v an0).1, Prod.ext rfl (Prod.ext hM_an.1 hM_an.2.2)⟩
  clear hM_an
  refine lv_iconst (v := iZ (0)) hx hb dK_shiftedDown_39 (by decide) ?_
  refine lv_istore (lv' := [(6, .int (iZ (0))), (5, .int (iZ (↑(sk / 28)))), (4, .int (iZ (↑sk))), (0, .ref (B + 22)), (1, .ref (B + a)), (2, .long (lZ (↑sn)))]) hx hb dK_shiftedDown_40 hl (by decide) rfl (fun ls hl => ?_)
  have L42 : ∀ (fu : Nat) (i : Nat) (ee : Nat → Nat) (bb : Bool) (v : Nat → zV) (H : Heap) (locs : List Loc) (ls : Array Slot), nn - sk / 28 - i < fu → (i ≤ nn - sk / 28) → (v an0 = (ee, nn - sk / 28, bb)) → (∀ j, j < i → ee j = wv dd nn / 2 ^ sk / wP j % 268435456) → zN (v a) (x) → (∀ j, j ≠ an0 → v j = v0 j) → zD E B v (zo E B o an0 sp0) H → va_S (zA B 80) s.heap H locs → lv_has ls 7 [(0, .ref (B + 22)), (1, .ref (B + a)), (4, .int (iZ (↑sk))), (5, .int (iZ (↑(sk / 28)))), (6, .int (iZ (↑i)))] → W p l e R s m args below meth c H locs 0 0 Q (F0 m 42 ls []) := by
    intro fu
    induction fu with
    | zero => intro i ee bb v H locs ls hm; exact absurd hm (Nat.not_lt_zero _)
    | succ fu ihL42 =>
      intro i ee bb v H locs ls hm hi eva he1 hVx fr hZ hS hl
      refine lv_iload hx hb dK_shiftedDown_42 (lv_at hl 4 rfl) ?_
      refine lv_aload_n hx hb dK_shiftedDown_44 rfl (lv_at hl 0 rfl) ?_
      refine zk_answer hx hb ht hown hK hZ tw_63 dK_shiftedDown_45 ?_
      refine zw_count (d := (v an0).1) (n := (v an0).2.1) (b := (v an0).2.2) hx hb ht hown hK hZ hlan rfl tw_33 dK_shiftedDown_48 ?_
      rw [show (v an0).2.1 = nn - sk / 28 by rw [eva]]
      refine zr_icmp_ge (tgt := 89) hx hb (by omega) (by omega) dK_shiftedDown_51 (by decide) (fun c_3 => ?_) (fun c_3 => ?_)
      · have hi9 : i = nn - sk / 28 := by omega
        rw [hi9] at he1
        have hT := wv_digs _ he1
        rw [Nat.mod_eq_of_lt (sh_dnl hdd nn sk), ← hEE] at hT
        have hM_an : zM (v an0) (nn - sk / 28) (x.natAbs / 2 ^ sk) bb := by rw [eva]; exact ⟨rfl, hT, rfl⟩
        have hva : v a = v0 a := fr a ne_a
        clear eva
        refine lv_aload_n hx hb dK_shiftedDown_89 rfl (lv_at hl 1 rfl) ?_
        refine zw_below (d := (v a).1) (n := (v a).2.1) (b := (v a).2.2) hx hb ht hown hK hZ hla rfl tw_38 dK_shiftedDown_90 ?_
        rw [hva]
        refine zr_if_eq (tgt := 114) hx hb (by have := bZ_01 ((v0 a).2.2); omega) dK_shiftedDown_93 (by decide) (fun c_4 => ?_) (fun c_4 => ?_)
        · have hx0 : ¬ x < 0 := fun h9 => absurd (hnx.mpr h9) (by rw [show (v0 a).2.2 = false from bZ_f.mp (by assumption)]; decide)
          have hva : v a = v0 a := fr a ne_a
          refine lv_aload_n hx hb dK_shiftedDown_114 rfl (lv_at hl 0 rfl) ?_
          refine zk_answer hx hb ht hown hK hZ tw_63 dK_shiftedDown_115 ?_
          refine lv_aload_n hx hb dK_shiftedDown_118 rfl (lv_at hl 1 rfl) ?_
          refine zw_below (d := (v a).1) (n := (v a).2.1) (b := (v a).2.2) hx hb ht hown hK hZ hla rfl tw_38 dK_shiftedDown_119 ?_
          rw [hva]
          refine zw_put_below (d := (v an0).1) (n := (v an0).2.1) (b := (v an0).2.2) (b1 := (v0 a).2.2) hx hb ht hown hK hZ hlan rfl hS tw_38 dK_shiftedDown_122 (fun v H locs ev ho hZ hS => ?_)
          have hVx : zN (v a) (x) := by rw [ho _ (Ne.symm ne_0_1)]; exact hVx
          have fr : ∀ j, j ≠ an0 → v j = v0 j := fun j h0 => (ho j h0).trans (fr j h0)
          have hM_an : zM (v an0) (nn - sk / 28) (x.natAbs / 2 ^ sk) ((v0 a).2.2) := zM_b hM_an ev
          refine lv_aload_n hx hb dK_shiftedDown_125 rfl (lv_at hl 0 rfl) ?_
          refine zk_answer hx hb ht hown hK hZ tw_63 dK_shiftedDown_126 ?_
          refine zcV_v 0 (As := []) (rest := []) rfl ⟨hx, hb, hml, hown, ht⟩ (mW_trim l E B v (zo E B o an0 sp0) an0 hlan (v an0).1 (v an0).2.1 (v an0).2.2 rfl) tw_295 tw_384 tw_293 tw_294 tw_2 qW_trim (by rw [hR]; decide) (zW_recv hK hZ hlan) hZ hK hl.1 rfl rfl (Nat.le_of_ble_eq_true rfl) dK_shiftedDown_129 ⟨Nat.zero_le _, Nat.zero_le _⟩ hS (fun v H locs hp hZ _ hS => ?_)
          obtain ⟨ho, n9, ev9, hle9, hz9, hnz9⟩ := hp
          have hN9 := zM_trim hM_an ev9 hle9 hz9 hnz9
          have hVx : zN (v a) (x) := by rw [ho _ (Ne.symm ne_0_1)]; exact hVx
          have fr : ∀ j, j ≠ an0 → v j = v0 j := fun j h0 => (ho j h0).trans (fr j h0)
          have hNan : zN (v an0) (x / ((2 ^ sk : Nat) : Int)) := (show (if ((v0 a).2.2) = true then -(((x.natAbs / 2 ^ sk : Nat) : Int)) else ((x.natAbs / 2 ^ sk : Nat) : Int)) = x / ((2 ^ sk : Nat) : Int) from by rw [if_neg (fun h8 => hx0 (hnx.mp h8)), Int.natCast_ediv]; congr 1; omega) ▸ hN9
          refine lv_aload_n hx hb dK_shiftedDown_132 rfl (lv_at hl 0 rfl) ?_
          refine zk_answer hx hb ht hown hK hZ tw_63 dK_shiftedDown_133 ?_
          exact hend 136 (v, an0, sp0, an0) _ _ _ _ dK_shiftedDown_136 (⟨fr, ⟨rfl, rfl⟩, rfl, hNan⟩) ⟨rfl, hZ⟩ hS
        · have hx0 : x < 0 := hnx.mp (bZ_nf.mp (by assumption))
          refine lv_aload_n hx hb dK_shiftedDown_96 rfl (lv_at hl 1 rfl) ?_
          refine zcV_i 0 (As := []) (rest := []) rfl ⟨hx, hb, hml, hown, ht⟩ (mW_lowestOne l E B v (zo E B o an0 sp0) a hla (v a).1 (v a).2.1 (v a).2.2 rfl) tw_591 tw_588 tw_589 tw_590 tw_2 qW_lowestOne (by rw [hR]; decide) (zW_recv hK hZ hla) hZ hK hl.1 rfl rfl (Nat.le_of_ble_eq_true rfl) dK_shiftedDown_97 ⟨Nat.zero_le _, Nat.zero_le _⟩ hS (fun r_5 v1 H locs hp hZ _ hS => ?_)
          obtain ⟨hv1, hr0, hr1⟩ := hp
          rw [hv1] at hZ
          obtain ⟨t, hr2, ht1⟩ := hr1 (zN_some (b := (v a).2.2) hVx (by omega))
          subst hr2
          clear hv1 hr0 hr1 v1
          rw [← zN_abs hVx] at ht1
          have ht9 := lo1_le (k := 2048) ht1 hXx
          have hsv := shd_val (k := sk) ht1
          refine lv_iload hx hb dK_shiftedDown_100 (lv_at hl 2 rfl) ?_
          refine zr_icmp_ge (tgt := 114) hx hb (by unfold zi; omega) (by unfold zi; omega) dK_shiftedDown_102 (by decide) (fun c_6 => ?_) (fun c_6 => ?_)
          · rw [if_neg (by omega)] at hsv
            have hva : v a = v0 a := fr a ne_a
            refine lv_aload_n hx hb dK_shiftedDown_114 rfl (lv_at hl 0 rfl) ?_
            refine zk_answer hx hb ht hown hK hZ tw_63 dK_shiftedDown_115 ?_
            refine lv_aload_n hx hb dK_shiftedDown_118 rfl (lv_at hl 1 rfl) ?_
            refine zw_below (d := (v a).1) (n := (v a).2.1) (b := (v a).2.2) hx hb ht hown hK hZ hla rfl tw_38 dK_shiftedDown_119 ?_
            rw [hva]
            refine zw_put_below (d := (v an0).1) (n := (v an0).2.1) (b := (v an0).2.2) (b1 := (v0 a).2.2) hx hb ht hown hK hZ hlan rfl hS tw_38 dK_shiftedDown_122 (fun v H locs ev ho hZ hS => ?_)
            have hVx : zN (v a) (x) := by rw [ho _ (Ne.symm ne_0_1)]; exact hVx
            have fr : ∀ j, j ≠ an0 → v j = v0 j := fun j h0 => (ho j h0).trans (fr j h0)
            have hM_an : zM (v an0) (nn - sk / 28) (x.natAbs / 2 ^ sk) ((v0 a).2.2) := zM_b hM_an ev
            refine lv_aload_n hx hb dK_shiftedDown_125 rfl (lv_at hl 0 rfl) ?_
            refine zk_answer hx hb ht hown hK hZ tw_63 dK_shiftedDown_126 ?_
            refine zcV_v 0 (As := []) (rest := []) rfl ⟨hx, hb, hml, hown, ht⟩ (mW_trim l E B v (zo E B o an0 sp0) an0 hlan (v an0).1 (v an0).2.1 (v an0).2.2 rfl) tw_295 tw_384 tw_293 tw_294 tw_2 qW_trim (by rw [hR]; decide) (zW_recv hK hZ hlan) hZ hK hl.1 rfl rfl (Nat.le_of_ble_eq_true rfl) dK_shiftedDown_129 ⟨Nat.zero_le _, Nat.zero_le _⟩ hS (fun v H locs hp hZ _ hS => ?_)
            obtain ⟨ho, n9, ev9, hle9, hz9, hnz9⟩ := hp
            have hN9 := zM_trim hM_an ev9 hle9 hz9 hnz9
            have hVx : zN (v a) (x) := by rw [ho _ (Ne.symm ne_0_1)]; exact hVx
            have fr : ∀ j, j ≠ an0 → v j = v0 j := fun j h0 => (ho j h0).trans (fr j h0)
            have hNan : zN (v an0) (x / ((2 ^ sk : Nat) : Int)) := (show (if ((v0 a).2.2) = true then -(((x.natAbs / 2 ^ sk : Nat) : Int)) else ((x.natAbs / 2 ^ sk : Nat) : Int)) = x / ((2 ^ sk : Nat) : Int) from by rw [if_pos (hnx.mpr hx0)]; rw [show -((x.natAbs : Nat) : Int) = x by omega] at hsv; rw [hsv]) ▸ hN9
            refine lv_aload_n hx hb dK_shiftedDown_132 rfl (lv_at hl 0 rfl) ?_
            refine zk_answer hx hb ht hown hK hZ tw_63 dK_shiftedDown_133 ?_
            exact hend 136 (v, an0, sp0, an0) _ _ _ _ dK_shiftedDown_136 (⟨fr, ⟨rfl, rfl⟩, rfl, hNan⟩) ⟨rfl, hZ⟩ hS
          · rw [if_pos (by omega)] at hsv
            refine lv_aload_n hx hb dK_shiftedDown_105 rfl (lv_at hl 0 rfl) ?_
            refine zk_answer hx hb ht hown hK hZ tw_63 dK_shiftedDown_106 ?_
            refine lv_lconst (v := lZ (1)) hx hb dK_shiftedDown_109 (by decide) ?_
            refine lv_lconst (v := lZ (1)) hx hb dK_shiftedDown_110 (by decide) ?_
            refine zcV_v 2 (As := [.long (lZ (1)), .long (lZ (1))]) (rest := []) rfl ⟨hx, hb, hml, hown, ht⟩ (mW_scale l E B v (zo E B o an0 sp0) an0 hlan (v an0).1 (v an0).2.1 (v an0).2.2 rfl (1) (1) (by decide) (by decide) (by rw [hM_an.1]; omega)) tw_300 tw_598 tw_298 tw_299 tw_2 qW_scale (by rw [hR]; decide) (zW_recv hK hZ hlan) hZ hK hl.1 rfl rfl (Nat.le_of_ble_eq_true rfl) dK_shiftedDown_111 ⟨Nat.zero_le _, Nat.zero_le _⟩ hS (fun v H locs hp hZ _ hS => ?_)
            obtain ⟨ho, hN9⟩ := hp
            rw [hM_an.1, hM_an.2.1, hM_an.2.2] at hN9
            have hVx : zN (v a) (x) := by rw [ho _ (Ne.symm ne_0_1)]; exact hVx
            have fr : ∀ j, j ≠ an0 → v j = v0 j := fun j h0 => (ho j h0).trans (fr j h0)
            have hNan : zN (v an0) (if bb = true then -((x.natAbs / 2 ^ sk + 1 : Nat) : Int) else ((x.natAbs / 2 ^ sk + 1 : Nat) : Int)) := by rw [Nat.one_mul] at hN9; exact hN9
            have hva : v a = v0 a := fr a ne_a
            refine lv_aload_n hx hb dK_shiftedDown_114 rfl (lv_at hl 0 rfl) ?_
            refine zk_answer hx hb ht hown hK hZ tw_63 dK_shiftedDown_115 ?_
            refine lv_aload_n hx hb dK_shiftedDown_118 rfl (lv_at hl 1 rfl) ?_
            refine zw_below (d := (v a).1) (n := (v a).2.1) (b := (v a).2.2) hx hb ht hown hK hZ hla rfl tw_38 dK_shiftedDown_119 ?_
            rw [hva]
            have hM_an : zM (v an0) (v an0).2.1 (if bb = true then -((x.natAbs / 2 ^ sk + 1 : Nat) : Int) else ((x.natAbs / 2 ^ sk + 1 : Nat) : Int)).natAbs (v an0).2.2 := zN_M hNan
            obtain ⟨n_7, hnn_7⟩ : ∃ n9, n9 = (v an0).2.1 := ⟨_, rfl⟩
            obtain ⟨b_8, hbb_8⟩ : ∃ b9, b9 = (v an0).2.2 := ⟨_, rfl⟩
            rw [← hnn_7, ← hbb_8] at hM_an
            refine zw_put_below (d := (v an0).1) (n := (v an0).2.1) (b := (v an0).2.2) (b1 := (v0 a).2.2) hx hb ht hown hK hZ hlan rfl hS tw_38 dK_shiftedDown_122 (fun v H locs ev ho hZ hS => ?_)
            have hVx : zN (v a) (x) := by rw [ho _ (Ne.symm ne_0_1)]; exact hVx
            have fr : ∀ j, j ≠ an0 → v j = v0 j := fun j h0 => (ho j h0).trans (fr j h0)
            have hM_an : zM (v an0) (n_7) ((if bb = true then -((x.natAbs / 2 ^ sk + 1 : Nat) : Int) else ((x.natAbs / 2 ^ sk + 1 : Nat) : Int)).natAbs) ((v0 a).2.2) := zM_b hM_an ev
            refine lv_aload_n hx hb dK_shiftedDown_125 rfl (lv_at hl 0 rfl) ?_
            refine zk_answer hx hb ht hown hK hZ tw_63 dK_shiftedDown_126 ?_
            refine zcV_v 0 (As := []) (rest := []) rfl ⟨hx, hb, hml, hown, ht⟩ (mW_trim l E B v (zo E B o an0 sp0) an0 hlan (v an0).1 (v an0).2.1 (v an0).2.2 rfl) tw_295 tw_384 tw_293 tw_294 tw_2 qW_trim (by rw [hR]; decide) (zW_recv hK hZ hlan) hZ hK hl.1 rfl rfl (Nat.le_of_ble_eq_true rfl) dK_shiftedDown_129 ⟨Nat.zero_le _, Nat.zero_le _⟩ hS (fun v H locs hp hZ _ hS => ?_)
            obtain ⟨ho, n9, ev9, hle9, hz9, hnz9⟩ := hp
            have hN9 := zM_trim hM_an ev9 hle9 hz9 hnz9
            have hVx : zN (v a) (x) := by rw [ho _ (Ne.symm ne_0_1)]; exact hVx
            have fr : ∀ j, j ≠ an0 → v j = v0 j := fun j h0 => (ho j h0).trans (fr j h0)
            have hNan : zN (v an0) (x / ((2 ^ sk : Nat) : Int)) := (show (if ((v0 a).2.2) = true then -((((if bb = true then -((x.natAbs / 2 ^ sk + 1 : Nat) : Int) else ((x.natAbs / 2 ^ sk + 1 : Nat) : Int)).natAbs : Nat) : Int)) else (((if bb = true then -((x.natAbs / 2 ^ sk + 1 : Nat) : Int) else ((x.natAbs / 2 ^ sk + 1 : Nat) : Int)).natAbs : Nat) : Int)) = x / ((2 ^ sk : Nat) : Int) from by rw [if_pos (hnx.mpr hx0)]; rw [show -((x.natAbs : Nat) : Int) = x by omega] at hsv; rw [hsv]; by_cases h8 : bb = true; rw [if_pos h8, Int.natAbs_neg, Int.natAbs_natCast]; rw [if_neg h8, Int.natAbs_natCast]) ▸ hN9
            refine lv_aload_n hx hb dK_shiftedDown_132 rfl (lv_at hl 0 rfl) ?_
            refine zk_answer hx hb ht hown hK hZ tw_63 dK_shiftedDown_133 ?_
            exact hend 136 (v, an0, sp0, an0) _ _ _ _ dK_shiftedDown_136 (⟨fr, ⟨rfl, rfl⟩, rfl, hNan⟩) ⟨rfl, hZ⟩ hS
      · refine lv_aload_n hx hb dK_shiftedDown_54 rfl (lv_at hl 0 rfl) ?_
        refine zk_answer hx hb ht hown hK hZ tw_63 dK_shiftedDown_55 ?_
        refine zw_limbs (d := (v an0).1) (n := (v an0).2.1) (b := (v an0).2.2) hx hb ht hown hK hZ hlan rfl tw_32 dK_shiftedDown_58 ?_
        refine lv_iload hx hb dK_shiftedDown_61 (lv_at hl 4 rfl) ?_
        refine lv_aload_n hx hb dK_shiftedDown_63 rfl (lv_at hl 1 rfl) ?_
        refine lv_iload hx hb dK_shiftedDown_64 (lv_at hl 4 rfl) ?_
        refine lv_iload hx hb dK_shiftedDown_66 (lv_at hl 3 rfl) ?_
        refine zr_iadd hx hb dK_shiftedDown_68 ?_
        refine lv_iconst (v := iZ (1)) hx hb dK_shiftedDown_69 (by decide) ?_
        refine zr_iadd hx hb dK_shiftedDown_70 ?_
        refine lv_bipush (v := iZ (28)) hx hb dK_shiftedDown_71 (by decide) ?_
        refine lv_iload hx hb dK_shiftedDown_73 (lv_at hl 2 rfl) ?_
        refine lv_bipush (v := iZ (28)) hx hb dK_shiftedDown_75 (by decide) ?_
        refine zr_irem hx hb (by unfold zi; omega) (by unfold zi; omega) (by omega) (by omega) dK_shiftedDown_77 ?_
        refine zr_isub hx hb dK_shiftedDown_78 ?_
        refine zc_i (y := iZ (↑(28 - sk % 28))) (congrArg iZ (by omega)) ?_
        refine zcV_l 2 (As := [.int (iZ ((↑i + (↑(sk / 28))) + 1)), .int (iZ (↑(28 - sk % 28)))]) (rest := [.int (iZ (↑i)), .ref (B + (an0 + 1))]) rfl ⟨hx, hb, hml, hown, ht⟩ (mW_limbShifted l E B v (zo E B o an0 sp0) a hla (v a).1 (v a).2.1 (v a).2.2 rfl ((↑i + (↑(sk / 28))) + 1) (by omega) (28 - sk % 28) (by omega)) tw_419 tw_579 tw_417 tw_418 tw_2 qW_limbShifted (by rw [hR]; decide) (zW_recv hK hZ hla) hZ hK hl.1 rfl rfl (Nat.le_of_ble_eq_true rfl) dK_shiftedDown_79 ⟨Nat.zero_le _, Nat.zero_le _⟩ hS (fun r_9 v1 H locs hp hZ _ hS => ?_)
        obtain ⟨hv1, hr1⟩ := hp
        rw [hv1] at hZ
        subst hr1
        clear hv1 v1
        have hva : v a = v0 a := fr a ne_a
        rw [hva, ← hde, ← hne, show (↑i + ↑(sk / 28) + 1 + 1 : Int).toNat = i + sk / 28 + 1 + 1 by omega, sh_dn hdd nn sk i]
        refine zw_st (x := wv dd nn / 2 ^ sk / wP i % 268435456) hx hb hK hZ hlan eva hS (by omega) (by omega) (Nat.mod_lt _ (by decide)) dK_shiftedDown_82 (fun v H locs eva ho hZ hS => ?_)
        rw [Int.toNat_natCast] at eva
        have hVx : zN (v a) x := by rw [ho a ne_a]; exact hVx
        have fr : ∀ j, j ≠ an0 → v j = v0 j := fun j h0 => (ho j h0).trans (fr j h0)
        refine lv_iinc (v := iZ (↑i + 1)) (lv' := [(6, .int (iZ (↑i + 1))), (0, .ref (B + 22)), (1, .ref (B + a)), (4, .int (iZ (↑sk))), (5, .int (iZ (↑(sk / 28))))]) hx hb dK_shiftedDown_83 hl (k := 4) rfl (iZ_add _ _) (by decide) rfl (fun ls hl => ?_)
        refine lv_goto (tgt := 42) hx hb dK_shiftedDown_86 (by decide) ?_
        rw [show (↑i + 1 : Int) = ↑(i + 1) from by omega] at hl
        exact ihL42 (i + 1) (va_up ee i (wv dd nn / 2 ^ sk / wP i % 268435456)) bb v _ _ _ (by omega) (by omega) (eva) (fun j hj => by rcases Nat.lt_or_ge j i with h9 | h9; rw [va_up_ne _ _ (by omega)]; exact he1 j h9; rw [show j = i by omega, va_up_self]) hVx fr hZ hS (lv_sub hl [1, 2, 3, 4, 0] rfl)
  exact L42 _ 0 ee b_2 v _ _ _ (Nat.lt_succ_self _) (Nat.zero_le _) (eva) (fun j hj => absurd hj (Nat.not_lt_zero _)) hVx fr hZ hS (lv_sub hl [3, 4, 2, 1, 0] rfl)
