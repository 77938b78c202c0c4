set_option maxHeartbeats 4000000 in
set_option maxRecDepth 100000 in
theorem mK_fillPowers (l : Launch) (E : zE) (B : Nat) (v0 : Nat → zV) (o : Nat → va_E) (an0 sp0 : Nat) (hA0 : swp 27 29 an0 sp0) (kc : Nat) (hlkc : lp kc = true) (bs : Nat) (hVbs : zN (v0 kc) ((bs : Nat) : Int)) (b : Nat) (hlb : lp b = true) (md : Nat) (hVmd : zN (v0 b) ((md : Nat) : Int)) (hb9 : b < 22) (hc9 : kc = 25 ∨ kc = 35 ∨ kc = 37) (hbs : bs < md) (hXm : zX ((md : Nat) : Int)) :
    Met l yK_fillPowers (zws yK_fillPowers cK_fillPowers 4 none) { frames := 5, cells := 0, slots := 0, locals := 170 } (zPc E (zD E B v0 (zo E B o an0 sp0)) [.ref (B + 22), .ref (B + kc), .ref (B + b)]) (va_Qv (fun u : (Nat → zV) × Nat × Nat × Nat => (∀ j, j < 22 → u.1 j = v0 j) ∧ swp 27 29 u.2.1 u.2.2.1 ∧ (∀ j, j < 16 → zN (u.1 (40 + 2 * j)) ((bs ^ j % md : Nat) : Int))) (fun (u : (Nat → zV) × Nat × Nat × Nat) t => zD E B u.1 (zo E B o u.2.1 u.2.2.1) t.heap ∧ zK E t) (zA B 80)) 0 0 (zA B 80) := by
  have hA1 : (an0 = 27 ∧ sp0 = 29) ∨ (an0 = 29 ∧ sp0 = 27) := hA0
  have ne_0_1 : nA 23 an0 := by show 23 ≠ an0; omega
  have ne_0_2 : nA 23 sp0 := by show 23 ≠ sp0; omega
  have ne_0_3 : nA 23 kc := by show 23 ≠ kc; omega
  have ne_0_4 : nA 23 b := by show 23 ≠ b; omega
  have ne_1_2 : nA an0 sp0 := by show an0 ≠ sp0; omega
  have ne_1_3 : nA an0 kc := by show an0 ≠ kc; omega
  have ne_1_4 : nA an0 b := by show an0 ≠ b; omega
  have ne_1_5 : nA an0 31 := by show an0 ≠ 31; omega
  have ne_2_3 : nA sp0 kc := by show sp0 ≠ kc; omega
  have ne_2_4 : nA sp0 b := by show sp0 ≠ b; omega
  have ne_2_5 : nA sp0 31 := by show sp0 ≠ 31; omega
  have ne_3_4 : nA kc b := by show kc ≠ b; omega
  have ne_3_5 : nA kc 31 := by show kc ≠ 31; omega
  have ne_3_6 : nA kc 27 := by show kc ≠ 27; omega
  have ne_3_7 : nA kc 29 := by show kc ≠ 29; omega
  have ne_4_5 : nA b 31 := by show b ≠ 31; omega
  have ne_4_6 : nA b 27 := by show b ≠ 27; omega
  have ne_4_7 : nA b 29 := by show b ≠ 29; omega
  clear hc9
  clear hA1
  refine zof_v (P' := fun (u : (Nat → zV) × Nat × Nat × Nat) H => zD E B u.1 (zo E B o u.2.1 u.2.2.1) H) (by decide) (Nat.le_of_ble_eq_true rfl) fun p e R s m args below meth c Q ls hR hx hb hml ht hown hK hZ hl hend => ?_
  have hS : va_S (zA B 80) s.heap s.heap [] := va_S.rf
  have hown : s.vm.findClass "WholeDesk$Reckoner" = some m.cls := hown
  have hl : lv_has ls 4 [(0, .ref (B + 22)), (1, .ref (B + kc)), (2, .ref (B + b))] := hl
  have hlan : lp an0 = true := (swp_lp hA0 (by decide) (by decide)).1
  have hlsp : lp sp0 = true := (swp_lp hA0 (by decide) (by decide)).2
  have fr : ∀ j, j < 22 → v0 j = v0 j := fun j _ => rfl
  refine lv_aload_n hx hb dK_fillPowers_0 rfl (lv_at hl 0 rfl) ?_
  refine zk_first hx hb ht hown hK hZ tw_65 dK_fillPowers_1 ?_
  refine lv_aload_n hx hb dK_fillPowers_4 rfl (lv_at hl 1 rfl) ?_
  refine zcV_v 1 (As := [.ref (B + kc)]) (rest := []) rfl ⟨hx, hb, hml, hown, ht⟩ (mW_copy l E B v0 (zo E B o an0 sp0) 31 (by decide) (v0 31).1 (v0 31).2.1 (v0 31).2.2 rfl kc hlkc (v0 kc).1 (v0 kc).2.1 (v0 kc).2.2 rfl ne_3_5) tw_345 tw_368 tw_343 tw_344 tw_2 qW_copy (by rw [hR]; decide) (zW_recv hK hZ (by decide)) hZ hK hl.1 rfl rfl (Nat.le_of_ble_eq_true rfl) dK_fillPowers_5 ⟨Nat.zero_le _, Nat.zero_le _⟩ hS (fun v H locs hp hZ _ hS => ?_)
  obtain ⟨ho, d9, ev9, hd9⟩ := hp
  have hN9 : zN (v 31) (((bs : Nat) : Int)) := by rw [ev9]; exact zN_copy hVbs hd9
  have hVbs : zN (v kc) (((bs : Nat) : Int)) := by rw [ho _ ne_3_5]; exact hVbs
  have hVmd : zN (v b) (((md : Nat) : Int)) := by rw [ho _ ne_4_5]; exact hVmd
  have fr : ∀ j, j < 22 → v j = v0 j := fun j h0 => (ho j (by omega)).trans (fr j h0)
  have hNf : zN (v 31) (((bs : Nat) : Int)) := hN9
  refine lv_aload_n hx hb dK_fillPowers_8 rfl (lv_at hl 0 rfl) ?_
  refine zk_answer hx hb ht hown hK hZ tw_63 dK_fillPowers_9 ?_
  refine lv_lconst (v := lZ (1)) hx hb dK_fillPowers_12 (by decide) ?_
  refine zcV_v 1 (As := [.long (lZ (1))]) (rest := []) rfl ⟨hx, hb, hml, hown, ht⟩ (mW_become l E B v (zo E B o an0 sp0) an0 hlan (v an0).1 (v an0).2.1 (v an0).2.2 rfl ((1 : Int)) (by omega)) tw_290 tw_458 tw_288 tw_289 tw_2 qW_become (by rw [hR]; decide) (zW_recv hK hZ hlan) hZ hK hl.1 rfl rfl (Nat.le_of_ble_eq_true rfl) dK_fillPowers_13 ⟨Nat.zero_le _, Nat.zero_le _⟩ hS (fun v H locs hp hZ _ hS => ?_)
  obtain ⟨ho, hN9⟩ := hp
  have hVmd : zN (v b) (((md : Nat) : Int)) := by rw [ho _ (Ne.symm ne_1_4)]; exact hVmd
  have hNf : zN (v 31) (((bs : Nat) : Int)) := by rw [ho _ (Ne.symm ne_1_5)]; exact hNf
  have fr : ∀ j, j < 22 → v j = v0 j := fun j h0 => (ho j (swp_ne hA0 (by omega) (by omega)).1).trans (fr j h0)
  have hNan : zN (v an0) ((1 : Int)) := hN9
  refine lv_aload_n hx hb dK_fillPowers_16 rfl (lv_at hl 0 rfl) ?_
  refine zk_answer hx hb ht hown hK hZ tw_63 dK_fillPowers_17 ?_
  refine lv_aload_n hx hb dK_fillPowers_20 rfl (lv_at hl 2 rfl) ?_
  refine lv_aload_n hx hb dK_fillPowers_21 rfl (lv_at hl 0 rfl) ?_
  refine zk_quotient hx hb ht hown hK hZ tw_59 dK_fillPowers_22 ?_
  refine zcV_v 2 (As := [.ref (B + b), .ref (B + 23)]) (rest := []) rfl ⟨hx, hb, hml, hown, ht⟩ (mW_divideOut l E B v (zo E B o an0 sp0) an0 hlan (v an0).1 (v an0).2.1 (v an0).2.2 rfl b hlb (v b).1 (v b).2.1 (v b).2.2 rfl 23 (by decide) (v 23).1 (v 23).2.1 (v 23).2.2 rfl (Ne.symm ne_1_4) ne_0_1 ne_0_4 hNan.1 hNan.2.1 ((zN_len (hZ.2 an0 hlan).1 hNan).mpr (by show (1 : Int).natAbs < wP 151; exact Nat.lt_of_lt_of_le (show 1 < wP 1 by decide) (wP_mono (by decide)))) (fun h9 => absurd ((zN_0 hVmd).mp h9) (by omega)) hVmd.1) tw_415 tw_412 tw_413 tw_414 tw_2 qW_divideOut (by rw [hR]; decide) (zW_recv hK hZ hlan) hZ hK hl.1 rfl rfl (Nat.le_of_ble_eq_true rfl) dK_fillPowers_25 ⟨Nat.zero_le _, Nat.zero_le _⟩ hS (fun v H locs hp hZ _ hS => ?_)
  obtain ⟨ho, q9, r9, he9, hr9, hN8, hN9⟩ := hp
  obtain ⟨e8, e9⟩ := zN_div hNan hVmd he9 hr9
  rw [e8] at hN8
  rw [e9, zN_rest hNan] at hN9
  have hVmd : zN (v b) (((md : Nat) : Int)) := by rw [ho _ (Ne.symm ne_1_4) (Ne.symm ne_0_4)]; exact hVmd
  have hNf : zN (v 31) (((bs : Nat) : Int)) := by rw [ho _ (Ne.symm ne_1_5) (by decide)]; exact hNf
  have fr : ∀ j, j < 22 → v j = v0 j := fun j h0 => (ho j (swp_ne hA0 (by omega) (by omega)).1 (by omega)).trans (fr j h0)
  have hN23 : zN (v 23) (((((1 : Int)).natAbs / (((md : Nat) : Int)).natAbs : Nat) : Int)) := hN8
  have hNan : zN (v an0) (((1 : Int)).tmod (((md : Nat) : Int))) := hN9
  refine lv_aload_n hx hb dK_fillPowers_28 rfl (lv_at hl 0 rfl) ?_
  refine zk_powers hx hb ht hown hK hZ tw_69 dK_fillPowers_29 ?_
  refine lv_iconst (v := iZ (0)) hx hb dK_fillPowers_32 (by decide) ?_
  refine zk_pw (i := 0) hx hb hK hZ (by omega) dK_fillPowers_33 ?_
  refine W.eq (g2 := F0 m 34 ls ([.ref (B + 40)])) rfl ?_
  refine lv_aload_n hx hb dK_fillPowers_34 rfl (lv_at hl 0 rfl) ?_
  refine zk_answer hx hb ht hown hK hZ tw_63 dK_fillPowers_35 ?_
  refine zcV_v 1 (As := [.ref (B + an0)]) (rest := []) rfl ⟨hx, hb, hml, hown, ht⟩ (mW_copy l E B v (zo E B o an0 sp0) 40 (by decide) (v 40).1 (v 40).2.1 (v 40).2.2 rfl an0 hlan (v an0).1 (v an0).2.1 (v an0).2.2 rfl (Ne.symm (swp_ne hA0 (by omega) (by omega)).1)) tw_345 tw_368 tw_343 tw_344 tw_2 qW_copy (by rw [hR]; decide) (zW_recv hK hZ (by decide)) hZ hK hl.1 rfl rfl (Nat.le_of_ble_eq_true rfl) dK_fillPowers_38 ⟨Nat.zero_le _, Nat.zero_le _⟩ hS (fun v H locs hp hZ _ hS => ?_)
  obtain ⟨ho, d9, ev9, hd9⟩ := hp
  have hN9 : zN (v 40) (((1 : Int)).tmod (((md : Nat) : Int))) := by rw [ev9]; exact zN_copy hNan hd9
  have hN23 : zN (v 23) (((((1 : Int)).natAbs / (((md : Nat) : Int)).natAbs : Nat) : Int)) := by rw [ho _ (by decide)]; exact hN23
  have hNan : zN (v an0) (((1 : Int)).tmod (((md : Nat) : Int))) := by rw [ho _ (Ne.symm (swp_ne hA0 (by omega) (by omega)).1)]; exact hNan
  have hVmd : zN (v b) (((md : Nat) : Int)) := by rw [ho _ (Ne.symm (by omega))]; exact hVmd
  have hNf : zN (v 31) (((bs : Nat) : Int)) := by rw [ho _ (by decide)]; exact hNf
  have fr : ∀ j, j < 22 → v j = v0 j := fun j h0 => (ho j (by omega)).trans (fr j h0)
  have hNpw : zN (v 40) (((1 : Int)).tmod (((md : Nat) : Int))) := hN9
  have hPw : ∀ j, j < 1 → zN (v (40 + 2 * j)) ((bs ^ j % md : Nat) : Int) := fun j hj => by rw [show j = 0 by omega]; exact hNpw
  refine lv_iconst (v := iZ (1)) hx hb dK_fillPowers_41 (by decide) ?_
  refine lv_istore_n (lv' := [(3, .int (iZ (1))), (0, .ref (B + 22)), (1, .ref (B + kc)), (2, .ref (B + b))]) hx hb dK_fillPowers_42 rfl hl (by decide) rfl (fun ls hl => ?_)
  have L43 : ∀ (fu : Nat) (i : Nat) (an sp : Nat) (v : Nat → zV) (H : Heap) (locs : List Loc) (ls : Array Slot), 16 - i < fu → swp 27 29 an sp → (1 ≤ i) → (i ≤ 16) → (∀ j, j < i → zN (v (40 + 2 * j)) ((bs ^ j % md : Nat) : Int)) → zN (v an) (((bs ^ (i - 1) % md : Nat) : Int)) → zN (v b) (((md : Nat) : Int)) → zN (v 31) (((bs : Nat) : Int)) → (∀ j, j < 22 → v j = v0 j) → zD E B v (zo E B o an sp) H → va_S (zA B 80) s.heap H locs → lv_has ls 4 [(0, .ref (B + 22)), (2, .ref (B + b)), (3, .int (iZ (↑i)))] → W p l e R s m args below meth c H locs 0 0 Q (F0 m 43 ls []) := by
    intro fu
    induction fu with
    | zero => intro i an sp v H locs ls hm; exact absurd hm (Nat.not_lt_zero _)
    | succ fu ihL43 =>
      intro i an sp v H locs ls hm hA9 hi1 hi hPw hNan hVmd hNf fr hZ hS hl
      have hl_sw1 : lp an = true := (swp_lp hA9 (by decide) (by decide)).1
      have hl_sw2 : lp sp = true := (swp_lp hA9 (by decide) (by decide)).2
      have n_sw : nA an sp := swp_as hA9 (by decide)
      have n_sw_23 := swp_ne (o := 23) hA9 (by decide) (by decide)
      have n_sw_kc := swp_ne (o := kc) hA9 ne_3_6 ne_3_7
      have n_sw_b := swp_ne (o := b) hA9 ne_4_6 ne_4_7
      have n_sw_31 := swp_ne (o := 31) hA9 (by decide) (by decide)
      have hsw_sw := hA9
      refine lv_iload_n hx hb dK_fillPowers_43 rfl (lv_at hl 2 rfl) ?_
      refine lv_bipush (v := iZ (16)) hx hb dK_fillPowers_44 (by decide) ?_
      refine zr_icmp_ge (tgt := 77) hx hb (by omega) (by omega) dK_fillPowers_46 (by decide) (fun c_1 => ?_) (fun c_1 => ?_)
      · have hi9 : i = 16 := by omega
        rw [hi9] at hPw
        exact hend 77 (v, an, sp, 0) _ _ _ dK_fillPowers_77 (⟨fr, hA9, hPw⟩) hZ hS
      · refine lv_aload_n hx hb dK_fillPowers_49 rfl (lv_at hl 0 rfl) ?_
        refine lv_aload_n hx hb dK_fillPowers_50 rfl (lv_at hl 0 rfl) ?_
        refine zk_first hx hb ht hown hK hZ tw_65 dK_fillPowers_51 ?_
        refine lv_aload_n hx hb dK_fillPowers_54 rfl (lv_at hl 1 rfl) ?_
        refine zcV_v 2 (As := [.ref (B + 31), .ref (B + b)]) (rest := []) rfl ⟨hx, hb, hml, hown, ht⟩ (mK_timesModulo l E B v o an sp hA9 (((bs ^ (i - 1) % md : Nat) : Int)) hNan 31 (by decide) (((bs : Nat) : Int)) hNf b hlb (((md : Nat) : Int)) hVmd n_sw_31.2 ⟨by omega, by omega, by omega⟩ (by omega) (pm_smm1 hbs hXm)) tw_543 tw_540 tw_542 tp_9 tw_3 qK_timesModulo (by rw [hR]; decide) (zK_recv hK hZ) hZ hK hl.1 rfl rfl (Nat.le_of_ble_eq_true rfl) dK_fillPowers_55 ⟨Nat.zero_le _, Nat.zero_le _⟩ hS (fun u H locs hp hZ _ hS => ?_)
        obtain ⟨v, a9, s9, o9⟩ := u
        obtain ⟨ho, ⟨e8, e9⟩, hN9⟩ := hp
        dsimp only at ho e8 e9 hN9 hZ
        rw [e8, e9] at hZ
        have hVmd : zN (v b) (((md : Nat) : Int)) := by rw [ho _ (Ne.symm ne_0_4) ne_4_6 ne_4_7]; exact hVmd
        have hNf : zN (v 31) (((bs : Nat) : Int)) := by rw [ho _ (by decide) (by decide) (by decide)]; exact hNf
        have fr : ∀ j, j < 22 → v j = v0 j := fun j h0 => (ho j (by omega) (by omega) (by omega)).trans (fr j h0)
        have hPw : ∀ j, j < i → zN (v (40 + 2 * j)) ((bs ^ j % md : Nat) : Int) := fun j hj => by rw [ho _ (by omega) (by omega) (by omega)]; exact hPw j hj
        have hNan : zN (v sp) (((((bs ^ (i - 1) % md : Nat) : Int)) * (((bs : Nat) : Int))).tmod (((md : Nat) : Int))) := hN9
        have hA9 : swp 27 29 sp an := swp_sym hA9
        rw [pm_mul1 bs (i - 1) md hbs, show i - 1 + 1 = i by omega] at hNan
        refine lv_aload_n hx hb dK_fillPowers_58 rfl (lv_at hl 0 rfl) ?_
        refine zk_powers hx hb ht hown hK hZ tw_69 dK_fillPowers_59 ?_
        refine lv_iload_n hx hb dK_fillPowers_62 rfl (lv_at hl 2 rfl) ?_
        refine zk_pw (i := i) hx hb hK hZ (by omega) dK_fillPowers_63 ?_
        refine lv_aload_n hx hb dK_fillPowers_64 rfl (lv_at hl 0 rfl) ?_
        refine zk_answer hx hb ht hown hK hZ tw_63 dK_fillPowers_65 ?_
        refine zcV_v 1 (As := [.ref (B + sp)]) (rest := []) rfl ⟨hx, hb, hml, hown, ht⟩ (mW_copy l E B v (zo E B o sp an) (40 + 2 * i) (by rw [lp_iff]; omega) (v (40 + 2 * i)).1 (v (40 + 2 * i)).2.1 (v (40 + 2 * i)).2.2 rfl sp hl_sw2 (v sp).1 (v sp).2.1 (v sp).2.2 rfl (Ne.symm (swp_ne hsw_sw (by omega) (by omega)).2)) tw_345 tw_368 tw_343 tw_344 tw_2 qW_copy (by rw [hR]; decide) (zW_recv hK hZ (by rw [lp_iff]; omega)) hZ hK hl.1 rfl rfl (Nat.le_of_ble_eq_true rfl) dK_fillPowers_68 ⟨Nat.zero_le _, Nat.zero_le _⟩ hS (fun v H locs hp hZ _ hS => ?_)
        obtain ⟨ho, d9, ev9, hd9⟩ := hp
        have hN9 : zN (v (40 + 2 * i)) (((bs ^ i % md : Nat) : Int)) := by rw [ev9]; exact zN_copy hNan hd9
        have hNan : zN (v sp) (((bs ^ i % md : Nat) : Int)) := by rw [ho _ (Ne.symm (swp_ne hsw_sw (by omega) (by omega)).2)]; exact hNan
        have hVmd : zN (v b) (((md : Nat) : Int)) := by rw [ho _ (Ne.symm (by omega))]; exact hVmd
        have hNf : zN (v 31) (((bs : Nat) : Int)) := by rw [ho _ (Ne.symm (by omega))]; exact hNf
        have fr : ∀ j, j < 22 → v j = v0 j := fun j h0 => (ho j (by omega)).trans (fr j h0)
        have hPw : ∀ j, j < i → zN (v (40 + 2 * j)) ((bs ^ j % md : Nat) : Int) := fun j hj => by rw [ho _ (by omega)]; exact hPw j hj
        have hNpw : zN (v (40 + 2 * i)) (((bs ^ i % md : Nat) : Int)) := hN9
        refine lv_iinc (v := iZ (↑i + 1)) (lv' := [(3, .int (iZ (↑i + 1))), (0, .ref (B + 22)), (2, .ref (B + b))]) hx hb dK_fillPowers_71 hl (k := 2) rfl (iZ_add _ _) (by decide) rfl (fun ls hl => ?_)
        refine lv_goto (tgt := 43) hx hb dK_fillPowers_74 (by decide) ?_
        rw [show (↑i + 1 : Int) = ↑(i + 1) from by omega] at hl
        exact ihL43 (i + 1) sp an v _ _ _ (by omega) hA9 (by omega) (by omega) (fun j hj => by rcases Nat.lt_or_ge j i with h9 | h9; exact hPw j h9; rw [show j = i by omega]; exact hNpw) (by rw [Nat.add_sub_cancel]; exact hNan) hVmd hNf fr hZ hS (lv_sub hl [1, 2, 0] rfl)
  exact L43 _ 1 an0 sp0 v _ _ _ (Nat.lt_succ_self _) hA0 (Nat.le_refl 1) (by decide) (hPw) (hNan) hVmd hNf fr hZ hS (lv_sub hl [1, 3, 0] rfl)
