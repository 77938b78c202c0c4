set_option maxHeartbeats 4000000 in
set_option maxRecDepth 100000 in
theorem mK_spread (l : Launch) (E : zE) (B : Nat) (v0 : Nat → zV) (o : Nat → va_E) (an0 sp0 : Nat) (hA0 : swp 27 29 an0 sp0) (a : Nat) (hla : lp a = true) (x : Int) (hVx : zN (v0 a) x) (kc : Nat) (hlc : lp kc = true) (hac : a ≠ kc) (n1 : Nat) (hn1 : (v0 a).2.1 < n1 ∧ n1 ≤ 152) :
    Met l yK_spread (zws yK_spread cK_spread 3 none) { frames := 2, cells := 0, slots := 0, locals := 70 } (zPc E (zD E B v0 (zo E B o an0 sp0)) [.ref (B + a), .int (iZ (↑n1)), .ref (B + kc)]) (va_Qv (fun u : (Nat → zV) × Nat × Nat × Nat => (∀ j, j ≠ kc → u.1 j = v0 j) ∧ (u.2.1 = an0 ∧ u.2.2.1 = sp0) ∧ ∃ A, zM (u.1 kc) n1 A (decide (x < 0)) ∧ rp (28 * n1) x A) (fun (u : (Nat → zV) × Nat × Nat × Nat) t => zD E B u.1 (zo E B o u.2.1 u.2.2.1) t.heap ∧ zK E t) (zA B 80)) 0 0 (zA B 80) := by
  have hA1 : (an0 = 27 ∧ sp0 = 29) ∨ (an0 = 29 ∧ sp0 = 27) := hA0
  have ne_0_1 : nA a kc := by show a ≠ kc; omega
  clear hA1
  refine zof_v (P' := fun (u : (Nat → zV) × Nat × Nat × Nat) H => zD E B u.1 (zo E B o u.2.1 u.2.2.1) H) (by decide) (Nat.le_of_ble_eq_true rfl) fun p e R s m args below meth c Q ls hR hx hb hml ht hown hK hZ hl hend => ?_
  have hS : va_S (zA B 80) s.heap s.heap [] := va_S.rf
  have hown : s.vm.findClass "WholeDesk$Reckoner" = some m.cls := hown
  have hl : lv_has ls 3 [(0, .ref (B + a)), (1, .int (iZ (↑n1))), (2, .ref (B + kc))] := hl
  have hlan : lp an0 = true := (swp_lp hA0 (by decide) (by decide)).1
  have hlsp : lp sp0 = true := (swp_lp hA0 (by decide) (by decide)).2
  have hrp := rp_of (n1 := n1) (hZ.2 a hla).1 hVx (Nat.le_refl _) (by omega)
  have hnx := zN_neg hVx
  have fr : ∀ j, j ≠ kc → v0 j = v0 j := fun j _ => rfl
  refine lv_aload_n hx hb dK_spread_0 rfl (lv_at hl 2 rfl) ?_
  refine lv_aload_n hx hb dK_spread_1 rfl (lv_at hl 0 rfl) ?_
  refine zcV_v 1 (As := [.ref (B + a)]) (rest := []) rfl ⟨hx, hb, hml, hown, ht⟩ (mW_copy l E B v0 (zo E B o an0 sp0) kc hlc (v0 kc).1 (v0 kc).2.1 (v0 kc).2.2 rfl a hla (v0 a).1 (v0 a).2.1 (v0 a).2.2 rfl ne_0_1) tw_345 tw_368 tw_343 tw_344 tw_2 qW_copy (by rw [hR]; decide) (zW_recv hK hZ hlc) hZ hK hl.1 rfl rfl (Nat.le_of_ble_eq_true rfl) dK_spread_2 ⟨Nat.zero_le _, Nat.zero_le _⟩ hS (fun v H locs hp hZ _ hS => ?_)
  obtain ⟨ho, d9, ev9, hd9⟩ := hp
  have hN9 : zN (v kc) (x) := by rw [ev9]; exact zN_copy hVx hd9
  have hVx : zN (v a) (x) := by rw [ho _ ne_0_1]; exact hVx
  have fr : ∀ j, j ≠ kc → v j = v0 j := fun j h0 => (ho j h0).trans (fr j h0)
  have hNc : zN (v kc) (x) := hN9
  have hbc : (v kc).2.2 = decide (x < 0) := by rw [Bool.eq_iff_iff, decide_eq_true_iff]; exact zN_neg hNc
  refine lv_aload_n hx hb dK_spread_5 rfl (lv_at hl 2 rfl) ?_
  refine lv_iload_n hx hb dK_spread_6 rfl (lv_at hl 1 rfl) ?_
  have hM_c : zM (v kc) (v kc).2.1 (x).natAbs (v kc).2.2 := zN_M hNc
  obtain ⟨n_1, hnn_1⟩ : ∃ n9, n9 = (v kc).2.1 := ⟨_, rfl⟩
  obtain ⟨b_2, hbb_2⟩ : ∃ b9, b9 = (v kc).2.2 := ⟨_, rfl⟩
  rw [← hnn_1, ← hbb_2] at hM_c
  have hst9 : max (v kc).2.1 (min (↑n1 : Int) 152).toNat = n1 := by have h8 := zN_cnt (hZ.2 kc hlc).1 (hZ.2 a hla).1 hNc hVx; rw [fr a hac] at h8; omega
  refine zcV_v 1 (As := [.int (iZ (↑n1))]) (rest := []) rfl ⟨hx, hb, hml, hown, ht⟩ (mW_stretch l E B v (zo E B o an0 sp0) kc hlc (v kc).1 (v kc).2.1 (v kc).2.2 rfl (↑n1) (by unfold zi; omega)) tw_304 tw_370 tw_302 tw_303 tw_2 qW_stretch (by rw [hR]; decide) (zW_recv hK hZ hlc) hZ hK hl.1 rfl rfl (Nat.le_of_ble_eq_true rfl) dK_spread_7 ⟨Nat.zero_le _, Nat.zero_le _⟩ hS (fun v H locs hp hZ _ hS => ?_)
  obtain ⟨ho, d9, n9, ev9, hn9, hlo9, hhi9⟩ := hp
  rw [hst9] at hn9
  have hle9 := hst9 ▸ Nat.le_max_left _ _
  have hM9 := zM_stretch hM_c ev9 (by rw [hn9]; exact hle9) hlo9 hhi9
  rw [hn9] at hM9
  have hVx : zN (v a) (x) := by rw [ho _ ne_0_1]; exact hVx
  have fr : ∀ j, j ≠ kc → v j = v0 j := fun j h0 => (ho j h0).trans (fr j h0)
  have hM_c : zM (v kc) (n1) ((x).natAbs) (b_2) := hM9
  have hbb : b_2 = decide (x < 0) := hbb_2.trans hbc
  refine lv_aload_n hx hb dK_spread_10 rfl (lv_at hl 0 rfl) ?_
  refine zw_below (d := (v a).1) (n := (v a).2.1) (b := (v a).2.2) hx hb ht hown hK hZ hla rfl tw_38 dK_spread_11 ?_
  refine zr_if_eq (tgt := 21) hx hb (by have := bZ_01 (v a).2.2; omega) dK_spread_14 (by decide) (fun c_3 => ?_) (fun c_3 => ?_)
  · exact hend 21 (v, an0, sp0, 0) _ _ _ dK_spread_21 (⟨fr, ⟨rfl, rfl⟩, _, hbb ▸ hM_c, hrp.1, by rw [if_neg (by rw [← hnx, ← fr a hac, show (v a).2.2 = false from bZ_f.mp (by assumption)]; decide)]⟩) hZ hS
  · have hx0 : x < 0 := by rw [← hnx, ← fr a hac]; exact bZ_nf.mp (by assumption)
    refine lv_aload_n hx hb dK_spread_17 rfl (lv_at hl 2 rfl) ?_
    refine zcV_v 0 (As := []) (rest := []) rfl ⟨hx, hb, hml, hown, ht⟩ (mW_turn l E B v (zo E B o an0 sp0) kc hlc (v kc).1 (v kc).2.1 (v kc).2.2 rfl) tw_563 tw_560 tw_561 tw_562 tw_2 qW_turn (by rw [hR]; decide) (zW_recv hK hZ hlc) hZ hK hl.1 rfl rfl (Nat.le_of_ble_eq_true rfl) dK_spread_18 ⟨Nat.zero_le _, Nat.zero_le _⟩ hS (fun v H locs hp hZ _ hS => ?_)
    obtain ⟨ho, d9, c9, ev9, hc9, hI9⟩ := hp
    have hM9 := zM_turn hM_c ev9 hI9 (by omega)
    have hVx : zN (v a) (x) := by rw [ho _ ne_0_1]; exact hVx
    have fr : ∀ j, j ≠ kc → v j = v0 j := fun j h0 => (ho j h0).trans (fr j h0)
    have hM_c : zM (v kc) (n1) (wP (n1) - ((x).natAbs)) (b_2) := hM9
    exact hend 21 (v, an0, sp0, 0) _ _ _ dK_spread_21 (⟨fr, ⟨rfl, rfl⟩, _, hbb ▸ hM_c, hrp.1, by rw [if_pos hx0, ← wP_two]⟩) hZ hS

set_option maxHeartbeats 4000000 in
set_option maxRecDepth 100000 in
theorem mK_joined (l : Launch) (E : zE) (B : Nat) (v0 : Nat → zV) (o : Nat → va_E) (a b : Nat) (how : Nat) (hhow : how < 4) :
    Met l yK_joined (zws yK_joined cK_joined 5 (some .long)) { frames := 0, cells := 0, slots := 0, locals := 0 } (zPc E (zD E B v0 o) [.long (lZ (↑a)), .long (lZ (↑b)), .int (iZ (↑how))]) (va_Ql (fun (r : Int64) (v : Nat → zV) => v = v0 ∧ r = lZ ↑(jop how a b)) (fun v t => zD E B v o t.heap ∧ zK E t) (zA B 80)) 0 0 (zA B 80) := by
  refine zof_l (by decide) (Nat.le_of_ble_eq_true rfl) fun p e R s m args below meth c Q ls hR hx hb hml ht hown hK hZ hl hend => ?_
  have hS : va_S (zA B 80) s.heap s.heap [] := va_S.rf
  have hown : s.vm.findClass "WholeDesk$Reckoner" = some m.cls := hown
  have hl : lv_has ls 5 [(0, .long (lZ (↑a))), (2, .long (lZ (↑b))), (4, .int (iZ (↑how)))] := hl
  refine lv_iload hx hb dK_joined_0 (lv_at hl 2 rfl) ?_
  have hti : (iZ (how : Int)).toInt = how := iZ_toInt (by unfold zi; omega)
  obtain h9 | h9 | h9 | h9 : how = 0 ∨ how = 1 ∨ how = 2 ∨ how = 3 := by omega
  · refine lv_tableIn (tgt := 28) hx hb dK_joined_2 (by rw [hti]; omega) (by rw [hti]; omega) (by rw [hti, h9]; rfl) (by decide) ?_
    refine lv_lload_n hx hb dK_joined_28 rfl (lv_at hl 0 rfl) ?_
    refine lv_lload_n hx hb dK_joined_29 rfl (lv_at hl 1 rfl) ?_
    refine zn_land hx hb (a := a) (b := b) dK_joined_30 ?_
    exact hend 31 (_) v0 _ _ _ dK_joined_31 (⟨rfl, by rw [h9]; rfl⟩) hZ hS
  · refine lv_tableIn (tgt := 32) hx hb dK_joined_2 (by rw [hti]; omega) (by rw [hti]; omega) (by rw [hti, h9]; rfl) (by decide) ?_
    refine lv_lload_n hx hb dK_joined_32 rfl (lv_at hl 0 rfl) ?_
    refine lv_lload_n hx hb dK_joined_33 rfl (lv_at hl 1 rfl) ?_
    refine zn_lor hx hb (a := a) (b := b) dK_joined_34 ?_
    exact hend 35 (_) v0 _ _ _ dK_joined_35 (⟨rfl, by rw [h9]; rfl⟩) hZ hS
  · refine lv_tableIn (tgt := 36) hx hb dK_joined_2 (by rw [hti]; omega) (by rw [hti]; omega) (by rw [hti, h9]; rfl) (by decide) ?_
    refine lv_lload_n hx hb dK_joined_36 rfl (lv_at hl 0 rfl) ?_
    refine lv_lload_n hx hb dK_joined_37 rfl (lv_at hl 1 rfl) ?_
    refine zn_lxor hx hb (a := a) (b := b) dK_joined_38 ?_
    exact hend 39 (_) v0 _ _ _ dK_joined_39 (⟨rfl, by rw [h9]; rfl⟩) hZ hS
  · refine lv_tableOut (tgt := 40) hx hb dK_joined_2 (by rw [hti]; omega) (by decide) ?_
    refine lv_lload_n hx hb dK_joined_40 rfl (lv_at hl 0 rfl) ?_
    refine lv_lload_n hx hb dK_joined_41 rfl (lv_at hl 1 rfl) ?_
    refine lv_ldc2 (v := lZ (-1)) hx hb hown (ht _ tw_379) dK_joined_42 ?_
    refine zc_l (y := lZ ((18446744073709551615 : Nat) : Int)) (lZ_congr (by decide)) ?_
    refine zn_lxor hx hb (a := b) (b := 18446744073709551615) dK_joined_45 ?_
    refine zn_land hx hb (a := a) (b := (b ^^^ 18446744073709551615)) dK_joined_46 ?_
    exact hend 47 (_) v0 _ _ _ dK_joined_47 (⟨rfl, by rw [h9]; rfl⟩) hZ hS

set_option maxHeartbeats 4000000 in
set_option maxRecDepth 100000 in
theorem mK_combined (l : Launch) (E : zE) (B : Nat) (v0 : Nat → zV) (o : Nat → va_E) (an0 sp0 : Nat) (hA0 : swp 27 29 an0 sp0) (a : Nat) (hla : lp a = true) (x : Int) (hVx : zN (v0 a) x) (hXx : zX x) (b : Nat) (hlb : lp b = true) (y : Int) (hVy : zN (v0 b) y) (hXy : zX y) (how : Nat) (hhow : how < 4) (ha : a < 22) (hb9 : b < 22) :
    Met l yK_combined (zws yK_combined cK_combined 6 (some (.object "WholeDesk$Whole"))) { frames := 3, cells := 0, slots := 0, locals := 98 } (zPc E (zD E B v0 (zo E B o an0 sp0)) [.ref (B + 22), .ref (B + a), .ref (B + b), .int (iZ (↑how))]) (va_Qr (fun u : (Nat → zV) × Nat × Nat × Nat => (∀ j, j ≠ an0 → j ≠ sp0 → u.1 j = v0 j) ∧ (u.2.1 = an0 ∧ u.2.2.1 = sp0) ∧ u.2.2.2 = an0 ∧ ∃ z, zN (u.1 an0) z ∧ ∀ i, tbz z i = bop how (tbz x i) (tbz y i)) (fun (u : (Nat → zV) × Nat × Nat × Nat) a t => (a = B + u.2.2.2 ∧ zD E B u.1 (zo E B o u.2.1 u.2.2.1) t.heap) ∧ zK E t) (zA B 80)) 0 0 (zA B 80) := by
  have hA1 : (an0 = 27 ∧ sp0 = 29) ∨ (an0 = 29 ∧ sp0 = 27) := hA0
  have ne_0_1 : nA an0 sp0 := by show an0 ≠ sp0; omega
  have ne_0_2 : nA an0 a := by show an0 ≠ a; omega
  have ne_0_3 : nA an0 b := by show an0 ≠ b; omega
  have ne_1_2 : nA sp0 a := by show sp0 ≠ a; omega
  have ne_1_3 : nA sp0 b := by show sp0 ≠ b; omega
  clear ha
  clear hb9
  clear hA1
  have ne_as : an0 ≠ sp0 := ne_0_1
  have ne_b_sp : b ≠ sp0 := (Ne.symm ne_1_3)
  have ne_b_an : b ≠ an0 := (Ne.symm ne_0_3)
  refine zof_r (P' := fun (u : (Nat → zV) × Nat × Nat × Nat) a H => a = B + u.2.2.2 ∧ zD E B u.1 (zo E B o u.2.1 u.2.2.1) H) (by decide) (Nat.le_of_ble_eq_true rfl) fun p e R s m args below meth c Q ls hR hx hb hml ht hown hK hZ hl hend => ?_
  have hS : va_S (zA B 80) s.heap s.heap [] := va_S.rf
  have hown : s.vm.findClass "WholeDesk$Reckoner" = some m.cls := hown
  have hl : lv_has ls 6 [(0, .ref (B + 22)), (1, .ref (B + a)), (2, .ref (B + b)), (3, .int (iZ (↑how)))] := hl
  have hlan : lp an0 = true := (swp_lp hA0 (by decide) (by decide)).1
  have hlsp : lp sp0 = true := (swp_lp hA0 (by decide) (by decide)).2
  have hca := (zN_len (hZ.2 a hla).1 hVx).mpr (zX_74 hXx)
  have hcb := (zN_len (hZ.2 b hlb).1 hVy).mpr (zX_74 hXy)
  obtain ⟨tp, htp⟩ : ∃ t, t = max (v0 a).2.1 (v0 b).2.1 := ⟨_, rfl⟩
  have hxt := (rp_of (n := tp) (n1 := tp + 1) (hZ.2 a hla).1 hVx (by omega) (by omega)).2
  have hyt := (rp_of (n := tp) (n1 := tp + 1) (hZ.2 b hlb).1 hVy (by omega) (by omega)).2
  have hca0 : (v0 a).2.1 ≤ tp := by omega
  have hcb0 : (v0 b).2.1 ≤ tp := by omega
  have fr : ∀ j, j ≠ an0 → j ≠ sp0 → v0 j = v0 j := fun j _ _ => rfl
  refine lv_aload_n hx hb dK_combined_0 rfl (lv_at hl 1 rfl) ?_
  refine zw_count (d := (v0 a).1) (n := (v0 a).2.1) (b := (v0 a).2.2) hx hb ht hown hK hZ hla rfl tw_33 dK_combined_1 ?_
  refine lv_aload_n hx hb dK_combined_4 rfl (lv_at hl 2 rfl) ?_
  refine zw_count (d := (v0 b).1) (n := (v0 b).2.1) (b := (v0 b).2.2) hx hb ht hown hK hZ hlb rfl tw_33 dK_combined_5 ?_
  refine zr_max hx hb (by rw [hml]; exact hl.1.symm) ht hown tw_369 (by rw [hR]; decide) (by rw [hR]; exact Nat.le_of_ble_eq_true rfl) (Nat.zero_le _) (Nat.zero_le _) (by unfold zi; omega) (by unfold zi; omega) dK_combined_8 ?_
  refine zc_i (y := iZ ↑tp) (congrArg iZ (by omega)) ?_
  refine lv_istore (lv' := [(4, .int (iZ (↑tp))), (0, .ref (B + 22)), (1, .ref (B + a)), (2, .ref (B + b)), (3, .int (iZ (↑how)))]) hx hb dK_combined_11 hl (by decide) rfl (fun ls hl => ?_)
  refine lv_aload_n hx hb dK_combined_13 rfl (lv_at hl 2 rfl) ?_
  refine lv_iload hx hb dK_combined_14 (lv_at hl 0 rfl) ?_
  refine lv_iconst (v := iZ (1)) hx hb dK_combined_16 (by decide) ?_
  refine zr_iadd hx hb dK_combined_17 ?_
  refine zc_i (y := iZ ↑(tp + 1)) (congrArg iZ (by omega)) ?_
  refine lv_aload_n hx hb dK_combined_18 rfl (lv_at hl 1 rfl) ?_
  refine zk_answer hx hb ht hown hK hZ tw_63 dK_combined_19 ?_
  refine zcS_v 3 (As := [.ref (B + a), .int (iZ (↑(tp + 1))), .ref (B + an0)]) (rest := []) ⟨hx, hb, hml, hown, ht⟩ (mK_spread l E B v0 o an0 sp0 hA0 a hla (x) hVx an0 hlan (Ne.symm ne_0_2) (tp + 1) (by omega)) tw_559 tw_557 tw_558 tw_3 qK_spread (by rw [hR]; decide) hZ hK hl.1 rfl rfl (Nat.le_of_ble_eq_true rfl) dK_combined_22 ⟨Nat.zero_le _, Nat.zero_le _⟩ hS (fun u H locs hp hZ _ hS => ?_)
  obtain ⟨v, a9, s9, o9⟩ := u
  obtain ⟨ho, ⟨e8, e9⟩, A_an, hM9, hrp_an⟩ := hp
  dsimp only at ho e8 e9 hM9 hZ
  rw [e8, e9] at hZ
  have hVx : zN (v a) (x) := by rw [ho _ (Ne.symm ne_0_2)]; exact hVx
  have hVy : zN (v b) (y) := by rw [ho _ (Ne.symm ne_0_3)]; exact hVy
  have fr : ∀ j, j ≠ an0 → j ≠ sp0 → v j = v0 j := fun j h0 h1 => (ho j h0).trans (fr j h0 h1)
  have hM_an : zM (v an0) (tp + 1) (A_an) (decide ((x) < 0)) := hM9
  refine lv_aload_n hx hb dK_combined_25 rfl (lv_at hl 3 rfl) ?_
  refine lv_iload hx hb dK_combined_26 (lv_at hl 0 rfl) ?_
  refine lv_iconst (v := iZ (1)) hx hb dK_combined_28 (by decide) ?_
  refine zr_iadd hx hb dK_combined_29 ?_
  refine zc_i (y := iZ ↑(tp + 1)) (congrArg iZ (by omega)) ?_
  refine lv_aload_n hx hb dK_combined_30 rfl (lv_at hl 1 rfl) ?_
  refine zk_spare hx hb ht hown hK hZ tw_64 dK_combined_31 ?_
  refine zcS_v 3 (As := [.ref (B + b), .int (iZ (↑(tp + 1))), .ref (B + sp0)]) (rest := []) ⟨hx, hb, hml, hown, ht⟩ (mK_spread l E B v o an0 sp0 hA0 b hlb (y) hVy sp0 hlsp (Ne.symm ne_1_3) (tp + 1) (by rw [fr b ne_b_an ne_b_sp]; omega)) tw_559 tw_557 tw_558 tw_3 qK_spread (by rw [hR]; decide) hZ hK hl.1 rfl rfl (Nat.le_of_ble_eq_true rfl) dK_combined_34 ⟨Nat.zero_le _, Nat.zero_le _⟩ hS (fun u H locs hp hZ _ hS => ?_)
  obtain ⟨v, a9, s9, o9⟩ := u
  obtain ⟨ho, ⟨e8, e9⟩, A_sp, hM9, hrp_sp⟩ := hp
  dsimp only at ho e8 e9 hM9 hZ
  rw [e8, e9] at hZ
  have hM_an : zM (v an0) (tp + 1) (A_an) (decide ((x) < 0)) := by rw [ho _ ne_0_1]; exact hM_an
  have hVx : zN (v a) (x) := by rw [ho _ (Ne.symm ne_1_2)]; exact hVx
  have hVy : zN (v b) (y) := by rw [ho _ (Ne.symm ne_1_3)]; exact hVy
  have fr : ∀ j, j ≠ an0 → j ≠ sp0 → v j = v0 j := fun j h0 h1 => (ho j h1).trans (fr j h0 h1)
  have hM_sp : zM (v sp0) (tp + 1) (A_sp) (decide ((y) < 0)) := hM9
  obtain ⟨dA, hdA⟩ : ∃ q, q = (v an0).1 := ⟨_, rfl⟩
  obtain ⟨dB, hdB⟩ : ∃ q, q = (v sp0).1 := ⟨_, rfl⟩
  have hda : ∀ i, dA i < 268435456 := by rw [hdA]; exact (hZ.2 an0 hlan).1
  have hdb : ∀ i, dB i < 268435456 := by rw [hdB]; exact (hZ.2 sp0 hlsp).1
  have hwA : wv dA (tp + 1) = A_an := by rw [hdA]; exact hM_an.2.1
  have hwB : wv dB (tp + 1) = A_sp := by rw [hdB]; exact hM_sp.2.1
  have evs : v sp0 = (dB, tp + 1, decide (y < 0)) := by rw [hdB]; exact Prod.ext rfl (Prod.ext hM_sp.1 hM_sp.2.2)
  have eva : v an0 = (dA, tp + 1, decide (x < 0)) := by rw [hdA]; exact Prod.ext rfl (Prod.ext hM_an.1 hM_an.2.2)
  clear hM_an hM_sp hdA hdB
  refine lv_iconst (v := iZ (0)) hx hb dK_combined_37 (by decide) ?_
  refine lv_istore (lv' := [(5, .int (iZ (0))), (4, .int (iZ (↑tp))), (0, .ref (B + 22)), (1, .ref (B + a)), (2, .ref (B + b)), (3, .int (iZ (↑how)))]) hx hb dK_combined_38 hl (by decide) rfl (fun ls hl => ?_)
  have L40 : ∀ (fu : Nat) (i : Nat) (ee : Nat → Nat) (v : Nat → zV) (H : Heap) (locs : List Loc) (ls : Array Slot), tp + 1 - i < fu → (i ≤ tp + 1) → (v sp0 = (dB, tp + 1, decide (y < 0))) → (v an0 = (ee, tp + 1, decide (x < 0))) → (∀ j, j < i → ee j = jop how (dA j) (dB j)) → (∀ j, i ≤ j → ee j = dA j) → (∀ j, j ≠ an0 → j ≠ sp0 → v j = v0 j) → zD E B v (zo E B o an0 sp0) H → va_S (zA B 80) s.heap H locs → lv_has ls 6 [(0, .ref (B + 22)), (3, .int (iZ (↑how))), (4, .int (iZ (↑tp))), (5, .int (iZ (↑i)))] → W p l e R s m args below meth c H locs 0 0 Q (F0 m 40 ls []) := by
    intro fu
    induction fu with
    | zero => intro i ee v H locs ls hm; exact absurd hm (Nat.not_lt_zero _)
    | succ fu ihL40 =>
      intro i ee v H locs ls hm hi evs eva he1 he2  fr hZ hS hl
      refine lv_iload hx hb dK_combined_40 (lv_at hl 3 rfl) ?_
      refine lv_aload_n hx hb dK_combined_42 rfl (lv_at hl 0 rfl) ?_
      refine zk_answer hx hb ht hown hK hZ tw_63 dK_combined_43 ?_
      refine zw_count (d := (v an0).1) (n := (v an0).2.1) (b := (v an0).2.2) hx hb ht hown hK hZ hlan rfl tw_33 dK_combined_46 ?_
      rw [show (v an0).2.1 = tp + 1 by rw [eva]]
      refine zr_icmp_ge (tgt := 91) hx hb (by omega) (by omega) dK_combined_49 (by decide) (fun c_1 => ?_) (fun c_1 => ?_)
      · have hi9 : i = tp + 1 := by omega
        rw [hi9] at he1
        obtain ⟨hC1, hC2, hC3, hC4⟩ := comb_all (hwA ▸ hrp_an) (hwB ▸ hrp_sp) hxt hyt hda hdb (by have := (hZ.2 an0 hlan).1; rw [eva] at this; exact this) he1 rfl
        have hM_an : zM (v an0) (tp + 1) (wv ee (tp + 1)) (decide (x < 0)) := by rw [eva]; exact ⟨rfl, rfl, rfl⟩
        refine lv_aload_n hx hb dK_combined_91 rfl (lv_at hl 0 rfl) ?_
        refine zk_answer hx hb ht hown hK hZ tw_63 dK_combined_92 ?_
        refine lv_aload_n hx hb dK_combined_95 rfl (lv_at hl 0 rfl) ?_
        refine zk_answer hx hb ht hown hK hZ tw_63 dK_combined_96 ?_
        refine lv_iload hx hb dK_combined_99 (lv_at hl 2 rfl) ?_
        refine zcV_l 1 (As := [.int (iZ (↑tp))]) (rest := [.ref (B + an0)]) rfl ⟨hx, hb, hml, hown, ht⟩ (mW_limb l E B v (zo E B o an0 sp0) an0 hlan (v an0).1 (v an0).2.1 (v an0).2.2 rfl (↑tp) (by unfold zi; omega)) tw_322 tw_544 tw_320 tw_321 tw_2 qW_limb (by rw [hR]; decide) (zW_recv hK hZ hlan) hZ hK hl.1 rfl rfl (Nat.le_of_ble_eq_true rfl) dK_combined_101 ⟨Nat.zero_le _, Nat.zero_le _⟩ hS (fun r_2 v1 H locs hp hZ _ hS => ?_)
        obtain ⟨hv1, hr1⟩ := hp
        rw [hv1] at hZ
        subst hr1
        clear hv1 v1
        rw [eva, show ((ee, tp + 1, decide (x < 0)) : zV).1 = ee from rfl, show ((ee, tp + 1, decide (x < 0)) : zV).2.1 = tp + 1 from rfl, wz_in (d := ee) (n := tp + 1) (by omega) (by omega), Int.toNat_natCast]
        have hee := (hZ.2 an0 hlan).1 tp
        rw [eva] at hee
        dsimp only at hee
        refine lv_lconst (v := lZ (0)) hx hb dK_combined_104 (by decide) ?_
        refine zr_lcmp_eq (tgt := 113) hx hb (by unfold zl; omega) (by unfold zl; omega) dK_combined_105 dK_combined_106 (by decide) (fun c_3 => ?_) (fun c_3 => ?_)
        · refine lv_iconst (v := iZ (0)) hx hb dK_combined_113 (by decide) ?_
          have het : ee tp = 0 := by omega
          clear eva
          refine W.eq (g2 := F0 m 114 ls (.int (iZ (bZ false)) :: .ref (B + an0) :: [])) rfl ?_
          refine zw_put_below (d := (v an0).1) (n := (v an0).2.1) (b := (v an0).2.2) (b1 := false) hx hb ht hown hK hZ hlan rfl hS tw_38 dK_combined_114 (fun v H locs ev ho hZ hS => ?_)
          have fr : ∀ j, j ≠ an0 → j ≠ sp0 → v j = v0 j := fun j h0 h1 => (ho j h0).trans (fr j h0 h1)
          have hM_an : zM (v an0) (tp + 1) (wv ee (tp + 1)) (false) := zM_b hM_an ev
          refine lv_aload_n hx hb dK_combined_117 rfl (lv_at hl 0 rfl) ?_
          refine zk_answer hx hb ht hown hK hZ tw_63 dK_combined_118 ?_
          refine zw_below (d := (v an0).1) (n := (v an0).2.1) (b := (v an0).2.2) hx hb ht hown hK hZ hlan rfl tw_38 dK_combined_121 ?_
          rw [hM_an.2.2]
          refine zr_if_eq (tgt := 134) hx hb (by decide) dK_combined_124 (by decide) (fun c_4 => ?_) (fun c_4 => ?_)
          · refine lv_aload_n hx hb dK_combined_134 rfl (lv_at hl 0 rfl) ?_
            refine zk_answer hx hb ht hown hK hZ tw_63 dK_combined_135 ?_
            refine zcV_v 0 (As := []) (rest := []) rfl ⟨hx, hb, hml, hown, ht⟩ (mW_trim l E B v (zo E B o an0 sp0) an0 hlan (v an0).1 (v an0).2.1 (v an0).2.2 rfl) tw_295 tw_384 tw_293 tw_294 tw_2 qW_trim (by rw [hR]; decide) (zW_recv hK hZ hlan) hZ hK hl.1 rfl rfl (Nat.le_of_ble_eq_true rfl) dK_combined_138 ⟨Nat.zero_le _, Nat.zero_le _⟩ hS (fun v H locs hp hZ _ hS => ?_)
            obtain ⟨ho, n9, ev9, hle9, hz9, hnz9⟩ := hp
            have hN9 := zM_trim hM_an ev9 hle9 hz9 hnz9
            have fr : ∀ j, j ≠ an0 → j ≠ sp0 → v j = v0 j := fun j h0 h1 => (ho j h0).trans (fr j h0 h1)
            have hNan : zN (v an0) (((wv ee (tp + 1) : Nat) : Int)) := (show (if (false) = true then -(((wv ee (tp + 1) : Nat) : Int)) else ((wv ee (tp + 1) : Nat) : Int)) = ((wv ee (tp + 1) : Nat) : Int) from by rw [if_neg (by decide)]) ▸ hN9
            refine lv_aload_n hx hb dK_combined_141 rfl (lv_at hl 0 rfl) ?_
            refine zk_answer hx hb ht hown hK hZ tw_63 dK_combined_142 ?_
            exact hend 145 (v, an0, sp0, an0) _ _ _ _ dK_combined_145 (⟨fr, ⟨rfl, rfl⟩, rfl, _, hNan, hC4 _ (by rw [if_neg (fun h9 => h9 het)])⟩) ⟨rfl, hZ⟩ hS
          · exact absurd c_4 (by decide)
        · refine lv_iconst (v := iZ (1)) hx hb dK_combined_109 (by decide) ?_
          refine lv_goto (tgt := 114) hx hb dK_combined_110 (by decide) ?_
          have het : ee tp ≠ 0 := by omega
          clear eva
          refine W.eq (g2 := F0 m 114 ls (.int (iZ (bZ true)) :: .ref (B + an0) :: [])) rfl ?_
          refine zw_put_below (d := (v an0).1) (n := (v an0).2.1) (b := (v an0).2.2) (b1 := true) hx hb ht hown hK hZ hlan rfl hS tw_38 dK_combined_114 (fun v H locs ev ho hZ hS => ?_)
          have fr : ∀ j, j ≠ an0 → j ≠ sp0 → v j = v0 j := fun j h0 h1 => (ho j h0).trans (fr j h0 h1)
          have hM_an : zM (v an0) (tp + 1) (wv ee (tp + 1)) (true) := zM_b hM_an ev
          refine lv_aload_n hx hb dK_combined_117 rfl (lv_at hl 0 rfl) ?_
          refine zk_answer hx hb ht hown hK hZ tw_63 dK_combined_118 ?_
          refine zw_below (d := (v an0).1) (n := (v an0).2.1) (b := (v an0).2.2) hx hb ht hown hK hZ hlan rfl tw_38 dK_combined_121 ?_
          rw [hM_an.2.2]
          refine zr_if_eq (tgt := 134) hx hb (by decide) dK_combined_124 (by decide) (fun c_5 => ?_) (fun c_5 => ?_)
          · exact absurd c_5 (by decide)
          · refine lv_aload_n hx hb dK_combined_127 rfl (lv_at hl 0 rfl) ?_
            refine zk_answer hx hb ht hown hK hZ tw_63 dK_combined_128 ?_
            refine zcV_v 0 (As := []) (rest := []) rfl ⟨hx, hb, hml, hown, ht⟩ (mW_turn l E B v (zo E B o an0 sp0) an0 hlan (v an0).1 (v an0).2.1 (v an0).2.2 rfl) tw_563 tw_560 tw_561 tw_562 tw_2 qW_turn (by rw [hR]; decide) (zW_recv hK hZ hlan) hZ hK hl.1 rfl rfl (Nat.le_of_ble_eq_true rfl) dK_combined_131 ⟨Nat.zero_le _, Nat.zero_le _⟩ hS (fun v H locs hp hZ _ hS => ?_)
            obtain ⟨ho, d9, c9, ev9, hc9, hI9⟩ := hp
            have hM9 := zM_turn hM_an ev9 hI9 (hC3 het)
            have fr : ∀ j, j ≠ an0 → j ≠ sp0 → v j = v0 j := fun j h0 h1 => (ho j h0).trans (fr j h0 h1)
            have hM_an : zM (v an0) (tp + 1) (wP (tp + 1) - (wv ee (tp + 1))) (true) := hM9
            refine lv_aload_n hx hb dK_combined_134 rfl (lv_at hl 0 rfl) ?_
            refine zk_answer hx hb ht hown hK hZ tw_63 dK_combined_135 ?_
            refine zcV_v 0 (As := []) (rest := []) rfl ⟨hx, hb, hml, hown, ht⟩ (mW_trim l E B v (zo E B o an0 sp0) an0 hlan (v an0).1 (v an0).2.1 (v an0).2.2 rfl) tw_295 tw_384 tw_293 tw_294 tw_2 qW_trim (by rw [hR]; decide) (zW_recv hK hZ hlan) hZ hK hl.1 rfl rfl (Nat.le_of_ble_eq_true rfl) dK_combined_138 ⟨Nat.zero_le _, Nat.zero_le _⟩ hS (fun v H locs hp hZ _ hS => ?_)
            obtain ⟨ho, n9, ev9, hle9, hz9, hnz9⟩ := hp
            have hN9 := zM_trim hM_an ev9 hle9 hz9 hnz9
            have fr : ∀ j, j ≠ an0 → j ≠ sp0 → v j = v0 j := fun j h0 h1 => (ho j h0).trans (fr j h0 h1)
            have hNan : zN (v an0) (-((2 ^ (28 * (tp + 1)) - wv ee (tp + 1) : Nat) : Int)) := (show (if (true) = true then -(((wP (tp + 1) - (wv ee (tp + 1)) : Nat) : Int)) else ((wP (tp + 1) - (wv ee (tp + 1)) : Nat) : Int)) = -((2 ^ (28 * (tp + 1)) - wv ee (tp + 1) : Nat) : Int) from by rw [if_pos rfl, ← wP_two]) ▸ hN9
            refine lv_aload_n hx hb dK_combined_141 rfl (lv_at hl 0 rfl) ?_
            refine zk_answer hx hb ht hown hK hZ tw_63 dK_combined_142 ?_
            exact hend 145 (v, an0, sp0, an0) _ _ _ _ dK_combined_145 (⟨fr, ⟨rfl, rfl⟩, rfl, _, hNan, hC4 _ (by rw [if_pos het])⟩) ⟨rfl, hZ⟩ hS
      · refine lv_aload_n hx hb dK_combined_52 rfl (lv_at hl 0 rfl) ?_
        refine zk_answer hx hb ht hown hK hZ tw_63 dK_combined_53 ?_
        refine zw_limbs (d := (v an0).1) (n := (v an0).2.1) (b := (v an0).2.2) hx hb ht hown hK hZ hlan rfl tw_32 dK_combined_56 ?_
        refine lv_iload hx hb dK_combined_59 (lv_at hl 3 rfl) ?_
        refine lv_aload_n hx hb dK_combined_61 rfl (lv_at hl 0 rfl) ?_
        refine zk_answer hx hb ht hown hK hZ tw_63 dK_combined_62 ?_
        refine zw_limbs (d := (v an0).1) (n := (v an0).2.1) (b := (v an0).2.2) hx hb ht hown hK hZ hlan rfl tw_32 dK_combined_65 ?_
        refine lv_iload hx hb dK_combined_68 (lv_at hl 3 rfl) ?_
        refine zw_ld hx hb hK hZ hlan eva (by omega) (by omega) dK_combined_70 ?_
        rw [Int.toNat_natCast, he2 i (Nat.le_refl i)]
        refine lv_aload_n hx hb dK_combined_71 rfl (lv_at hl 0 rfl) ?_
        refine zk_spare hx hb ht hown hK hZ tw_64 dK_combined_72 ?_
        refine lv_iload hx hb dK_combined_75 (lv_at hl 3 rfl) ?_
        refine zcV_l 1 (As := [.int (iZ (↑i))]) (rest := [.long (lZ (↑(dA i))), .int (iZ (↑i)), .ref (B + (an0 + 1))]) rfl ⟨hx, hb, hml, hown, ht⟩ (mW_limb l E B v (zo E B o an0 sp0) sp0 hlsp (v sp0).1 (v sp0).2.1 (v sp0).2.2 rfl (↑i) (by unfold zi; omega)) tw_322 tw_544 tw_320 tw_321 tw_2 qW_limb (by rw [hR]; decide) (zW_recv hK hZ hlsp) hZ hK hl.1 rfl rfl (Nat.le_of_ble_eq_true rfl) dK_combined_77 ⟨Nat.zero_le _, Nat.zero_le _⟩ hS (fun r_6 v1 H locs hp hZ _ hS => ?_)
        obtain ⟨hv1, hr1⟩ := hp
        rw [hv1] at hZ
        subst hr1
        clear hv1 v1
        rw [evs, show ((dB, tp + 1, decide (y < 0)) : zV).1 = dB from rfl, show ((dB, tp + 1, decide (y < 0)) : zV).2.1 = tp + 1 from rfl, wz_in (d := dB) (n := tp + 1) (by omega) (by omega), Int.toNat_natCast]
        refine lv_iload_n hx hb dK_combined_80 rfl (lv_at hl 1 rfl) ?_
        refine zcS_l 3 (As := [.long (lZ (↑(dA i))), .long (lZ (↑(dB i))), .int (iZ (↑how))]) (rest := [.int (iZ (↑i)), .ref (B + (an0 + 1))]) ⟨hx, hb, hml, hown, ht⟩ (mK_joined l E B v (zo E B o an0 sp0) (dA i) (dB i) how hhow) tw_566 tw_564 tw_565 tw_3 qK_joined (by rw [hR]; decide) hZ hK hl.1 rfl rfl (Nat.le_of_ble_eq_true rfl) dK_combined_81 ⟨Nat.zero_le _, Nat.zero_le _⟩ hS (fun r_7 v1 H locs hp hZ _ hS => ?_)
        obtain ⟨hv1, hr1⟩ := hp
        rw [hv1] at hZ
        subst hr1
        clear hv1 v1
        refine zw_st (x := jop how (dA i) (dB i)) hx hb hK hZ hlan eva hS (by omega) (by omega) (jop_lt (hda i) (hdb i)) dK_combined_84 (fun v H locs eva ho hZ hS => ?_)
        rw [Int.toNat_natCast] at eva
        have evs : v sp0 = (dB, tp + 1, decide (y < 0)) := by rw [ho sp0 (Ne.symm ne_as)]; exact evs
        have fr : ∀ j, j ≠ an0 → j ≠ sp0 → v j = v0 j := fun j h0 h1 => (ho j h0).trans (fr j h0 h1)
        refine lv_iinc (v := iZ (↑i + 1)) (lv' := [(5, .int (iZ (↑i + 1))), (0, .ref (B + 22)), (3, .int (iZ (↑how))), (4, .int (iZ (↑tp)))]) hx hb dK_combined_85 hl (k := 3) rfl (iZ_add _ _) (by decide) rfl (fun ls hl => ?_)
        refine lv_goto (tgt := 40) hx hb dK_combined_88 (by decide) ?_
        rw [show (↑i + 1 : Int) = ↑(i + 1) from by omega] at hl
        exact ihL40 (i + 1) (va_up ee i (jop how (dA i) (dB i))) v _ _ _ (by omega) (by omega) (evs) (eva) (fun j hj => by rcases Nat.lt_or_ge j i with h9 | h9; rw [va_up_ne _ _ (by omega)]; exact he1 j h9; rw [show j = i by omega, va_up_self]) (fun j hj => by rw [va_up_ne _ _ (by omega)]; exact he2 j (by omega))  fr hZ hS (lv_sub hl [1, 2, 3, 0] rfl)
  exact L40 _ 0 dA v _ _ _ (Nat.lt_succ_self _) (Nat.zero_le _) (evs) (eva) (fun j hj => absurd hj (Nat.not_lt_zero _)) (fun j _ => rfl)  fr hZ hS (lv_sub hl [2, 5, 1, 0] rfl)
