set_option maxHeartbeats 4000000 in
set_option maxRecDepth 100000 in
theorem mS_testRegister (l : Launch) (hl0 : l.stackTraces = false) (E : zE) (B : Nat) (v0 : Nat → zV) (o : Nat → va_E) (z : Int) (hz : zi z) :
    vx_Met l yS_testRegister (zws yS_testRegister cS_testRegister 1 none) { frames := 6, cells := 1, slots := 6, locals := 100 } (zPx E (zA B 80) (zD E B v0 o) [.int (iZ (z))]) (va_Qv (fun u : Unit => rok z) (fun u t => (fun (u : Unit) H => zD E B v0 o H) u t.heap ∧ zK E t) (zA B 80)) (vx_X (fun u : Unit => ¬ rok z) (fun C u t => (fun (C : String) (u : Unit) (H : Heap) => C = "java/lang/IllegalArgumentException" ∧ zD E B v0 o H) C u t.heap ∧ zK E t) (zA B 80)) 1 6 (zA B 80) := by
  refine zox_v (P' := fun (u : Unit) H => zD E B v0 o H) (BX := fun (C : String) (u : Unit) (H : Heap) => C = "java/lang/IllegalArgumentException" ∧ zD E B v0 o H) hl0 (fun C u H H1 _ hq h => ⟨h.1, zD_grow hq h.2⟩) (by decide) (Nat.le_of_ble_eq_true rfl) fun p e R s m args below meth c Q ls hR hx hb hml ht hown hK hZ hH hl hend hthr hpas => ?_
  have hS : va_S (zA B 80) s.heap s.heap [] := va_S.rf
  have hown : s.vm.findClass "WholeDesk" = some m.cls := hown
  have hl : lv_has ls 1 [(0, .int (iZ (z)))] := hl
  refine lv_iload_n hx hb dS_testRegister_0 rfl (lv_at hl 0 rfl) ?_
  refine zr_if_lt (tgt := 10) hx hb (hz) dS_testRegister_1 (by decide) (fun c_1 => ?_) (fun c_1 => ?_)
  · exact hthr _ _ _ _ _ _ 10 (()) _ _ _ _ _ _ zs_S_testRegister_10 hown dS_testRegister_10 dS_testRegister_13 dS_testRegister_14 dS_testRegister_16 dS_testRegister_19 hl.1 (by rw [hR]; decide) (by decide) (fun h9 => by have h8 := h9.1; have h7 := h9.2; omega) (⟨rfl, hZ⟩) hS
  · refine lv_iload_n hx hb dS_testRegister_4 rfl (lv_at hl 0 rfl) ?_
    refine lv_bipush (v := iZ (10)) hx hb dS_testRegister_5 (by decide) ?_
    refine zr_icmp_lt (tgt := 20) hx hb hz (by unfold zi; omega) dS_testRegister_7 (by decide) (fun c_2 => ?_) (fun c_2 => ?_)
    · exact hend 20 () _ _ _ _ _ (by decide) dS_testRegister_20 (⟨by omega, by omega⟩) (hZ) hS
    · exact hthr _ _ _ _ _ _ 10 (()) _ _ _ _ _ _ zs_S_testRegister_10 hown dS_testRegister_10 dS_testRegister_13 dS_testRegister_14 dS_testRegister_16 dS_testRegister_19 hl.1 (by rw [hR]; decide) (by decide) (fun h9 => by have h8 := h9.1; have h7 := h9.2; omega) (⟨rfl, hZ⟩) hS

set_option maxHeartbeats 4000000 in
set_option maxRecDepth 100000 in
theorem mS_testBase (l : Launch) (hl0 : l.stackTraces = false) (E : zE) (B : Nat) (v0 : Nat → zV) (o : Nat → va_E) (z : Int) (hz : zi z) :
    vx_Met l yS_testBase (zws yS_testBase cS_testBase 1 none) { frames := 6, cells := 1, slots := 6, locals := 100 } (zPx E (zA B 80) (zD E B v0 o) [.int (iZ (z))]) (va_Qv (fun u : Unit => 2 ≤ z ∧ z ≤ 36) (fun u t => (fun (u : Unit) H => zD E B v0 o H) u t.heap ∧ zK E t) (zA B 80)) (vx_X (fun u : Unit => ¬ (2 ≤ z ∧ z ≤ 36)) (fun C u t => (fun (C : String) (u : Unit) (H : Heap) => C = "java/lang/IllegalArgumentException" ∧ zD E B v0 o H) C u t.heap ∧ zK E t) (zA B 80)) 1 6 (zA B 80) := by
  refine zox_v (P' := fun (u : Unit) H => zD E B v0 o H) (BX := fun (C : String) (u : Unit) (H : Heap) => C = "java/lang/IllegalArgumentException" ∧ zD E B v0 o H) hl0 (fun C u H H1 _ hq h => ⟨h.1, zD_grow hq h.2⟩) (by decide) (Nat.le_of_ble_eq_true rfl) fun p e R s m args below meth c Q ls hR hx hb hml ht hown hK hZ hH hl hend hthr hpas => ?_
  have hS : va_S (zA B 80) s.heap s.heap [] := va_S.rf
  have hown : s.vm.findClass "WholeDesk" = some m.cls := hown
  have hl : lv_has ls 1 [(0, .int (iZ (z)))] := hl
  refine lv_iload_n hx hb dS_testBase_0 rfl (lv_at hl 0 rfl) ?_
  refine lv_iconst (v := iZ (2)) hx hb dS_testBase_1 (by decide) ?_
  refine zr_icmp_lt (tgt := 11) hx hb hz (by unfold zi; omega) dS_testBase_2 (by decide) (fun c_1 => ?_) (fun c_1 => ?_)
  · exact hthr _ _ _ _ _ _ 11 (()) _ _ _ _ _ _ zs_S_testBase_11 hown dS_testBase_11 dS_testBase_14 dS_testBase_15 dS_testBase_17 dS_testBase_20 hl.1 (by rw [hR]; decide) (by decide) (fun h9 => by have h8 := h9.1; have h7 := h9.2; omega) (⟨rfl, hZ⟩) hS
  · refine lv_iload_n hx hb dS_testBase_5 rfl (lv_at hl 0 rfl) ?_
    refine lv_bipush (v := iZ (36)) hx hb dS_testBase_6 (by decide) ?_
    refine zr_icmp_le (tgt := 21) hx hb hz (by unfold zi; omega) dS_testBase_8 (by decide) (fun c_2 => ?_) (fun c_2 => ?_)
    · exact hend 21 () _ _ _ _ _ (by decide) dS_testBase_21 (⟨by omega, by omega⟩) (hZ) hS
    · exact hthr _ _ _ _ _ _ 11 (()) _ _ _ _ _ _ zs_S_testBase_11 hown dS_testBase_11 dS_testBase_14 dS_testBase_15 dS_testBase_17 dS_testBase_20 hl.1 (by rw [hR]; decide) (by decide) (fun h9 => by have h8 := h9.1; have h7 := h9.2; omega) (⟨rfl, hZ⟩) hS

theorem sgn_x {w : zV} {x : Int} (h : zN w x) : (if w.2.1 = 0 then (0 : Int) else if w.2.2 = true then -1 else 1) = x.sign := by
  have h0 := zN_0 h
  have h1 := zN_neg h
  by_cases h2 : w.2.1 = 0
  · rw [if_pos h2, h0.mp h2]; rfl
  · rw [if_neg h2]
    have h3 : x ≠ 0 := fun h9 => h2 (h0.mpr h9)
    by_cases h4 : w.2.2 = true
    · rw [if_pos h4, Int.sign_eq_neg_one_of_neg (h1.mp h4)]
    · rw [if_neg h4]
      have h5 : ¬ x < 0 := fun h9 => h4 (h1.mpr h9)
      rw [Int.sign_eq_one_of_pos (by omega)]
theorem sgn_b (x : Int) : -1 ≤ x.sign ∧ x.sign ≤ 1 ∧ (x.sign ≤ 0 ↔ x ≤ 0) := by
  rcases Int.lt_trichotomy x 0 with h | h | h
  · rw [Int.sign_eq_neg_one_of_neg h]; omega
  · rw [h]; decide
  · rw [Int.sign_eq_one_of_pos h]; omega
set_option maxHeartbeats 4000000 in
set_option maxRecDepth 100000 in
theorem mS_testModulus (l : Launch) (hl0 : l.stackTraces = false) (E : zE) (B : Nat) (v0 : Nat → zV) (o : Nat → va_E) (k : Nat) (hk : lp k = true) (x : Int) (hN : zN (v0 k) x) :
    vx_Met l yS_testModulus (zws yS_testModulus cS_testModulus 1 none) { frames := 6, cells := 1, slots := 6, locals := 100 } (zPx E (zA B 80) (zD E B v0 o) [.ref (B + k)]) (va_Qv (fun u : Unit => 0 < x) (fun u t => (fun (u : Unit) H => zD E B v0 o H) u t.heap ∧ zK E t) (zA B 80)) (vx_X (fun u : Unit => ¬ 0 < x) (fun C u t => (fun (C : String) (u : Unit) (H : Heap) => C = "java/lang/ArithmeticException" ∧ zD E B v0 o H) C u t.heap ∧ zK E t) (zA B 80)) 1 6 (zA B 80) := by
  refine zox_v (P' := fun (u : Unit) H => zD E B v0 o H) (BX := fun (C : String) (u : Unit) (H : Heap) => C = "java/lang/ArithmeticException" ∧ zD E B v0 o H) hl0 (fun C u H H1 _ hq h => ⟨h.1, zD_grow hq h.2⟩) (by decide) (Nat.le_of_ble_eq_true rfl) fun p e R s m args below meth c Q ls hR hx hb hml ht hown hK hZ hH hl hend hthr hpas => ?_
  have hS : va_S (zA B 80) s.heap s.heap [] := va_S.rf
  have hown : s.vm.findClass "WholeDesk" = some m.cls := hown
  have hl : lv_has ls 1 [(0, .ref (B + k))] := hl
  refine lv_aload_n hx hb dS_testModulus_0 rfl (lv_at hl 0 rfl) ?_
  refine zcV_i  0 (As := []) (rest := []) rfl ⟨hx, hb, hml, hown, ht⟩ (mW_sign l E B v0 o k hk (v0 k).1 (v0 k).2.1 (v0 k).2.2 rfl) tw_438 tw_435 tw_436 tw_437 tw_2 qW_sign (by rw [hR]; decide) (zW_recv hK hZ hk) hZ hK hl.1 rfl rfl (Nat.le_of_ble_eq_true rfl) dS_testModulus_1 (by rw [hR]; decide) hS (fun r9 v1 H locs hp hZ _ hS => ?_)
  obtain ⟨hv1, hr1⟩ := hp
  rw [hv1] at hZ
  rw [sgn_x hN] at hr1
  subst hr1
  clear hv1 v1
  have hsb := sgn_b x
  refine zr_if_gt (tgt := 17) hx hb (by unfold zi; omega) dS_testModulus_4 (by decide) (fun c_1 => ?_) (fun c_1 => ?_)
  · exact hend 17 () _ _ _ _ _ (by decide) dS_testModulus_17 (Int.not_le.mp (fun h => absurd (hsb.2.2.mpr h) (by omega))) (hZ) hS
  · exact hthr _ _ _ _ _ _ 7 (()) _ _ _ _ _ _ zs_S_testModulus_7 hown dS_testModulus_7 dS_testModulus_10 dS_testModulus_11 dS_testModulus_13 dS_testModulus_16 hl.1 (by rw [hR]; decide) (by decide) (by have := hsb.2.2.mp (by omega); omega) (⟨rfl, hZ⟩) hS

set_option maxHeartbeats 4000000 in
set_option maxRecDepth 100000 in
theorem mS_keep (l : Launch) (hl0 : l.stackTraces = false) (E : zE) (B : Nat) (v0 : Nat → zV) (an sp ct : Nat) (f : Nat → Nat) (st : Nat) (g : Nat → Nat) (kc : Nat) (hlc : lp kc = true) (z : Int) (hN : zN (v0 kc) z) (to : Nat) (h10_to : to < 10) (hc : kc ≠ 2 + 2 * to) :
    vx_Met l yS_keep (zws yS_keep cS_keep 3 none) { frames := 6, cells := 1, slots := 6, locals := 100 } (zPx E (zA B 80) (zD E B v0 (zF E B an sp ct f st g)) [.ref B, .ref (B + kc), .int (iZ ↑to)]) (va_Qv (fun u : Nat → zV => (∀ j, j ≠ 2 + 2 * to → u j = v0 j) ∧ zN (u (2 + 2 * to)) z ∧ zX z) (fun u t => (fun (u : Nat → zV) H => zD E B u (zF E B an sp ct f st g) H) u t.heap ∧ zK E t) (zA B 80)) (vx_X (fun u : Unit => ¬ zX z) (fun C u t => (fun (C : String) (u : Unit) (H : Heap) => C = "java/lang/ArithmeticException" ∧ zD E B v0 (zF E B an sp ct f st g) H) C u t.heap ∧ zK E t) (zA B 80)) 1 6 (zA B 80) := by
  refine zox_v (P' := fun (u : Nat → zV) H => zD E B u (zF E B an sp ct f st g) H) (BX := fun (C : String) (u : Unit) (H : Heap) => C = "java/lang/ArithmeticException" ∧ zD E B v0 (zF E B an sp ct f st g) H) hl0 (fun C u H H1 _ hq h => ⟨h.1, zD_grow hq h.2⟩) (by decide) (Nat.le_of_ble_eq_true rfl) fun p e R s m args below meth c Q ls hR hx hb hml ht hown hK hZ hH hl hend hthr hpas => ?_
  have hS : va_S (zA B 80) s.heap s.heap [] := va_S.rf
  have hown : s.vm.findClass "WholeDesk" = some m.cls := hown
  have hl : lv_has ls 3 [(0, .ref (B)), (1, .ref (B + kc)), (2, .int (iZ (↑to)))] := hl
  refine lv_aload_n hx hb dS_keep_0 rfl (lv_at hl 1 rfl) ?_
  refine zcV_i  0 (As := []) (rest := []) rfl ⟨hx, hb, hml, hown, ht⟩ (mW_bits l E B v0 (zF E B an sp ct f st g) kc hlc (v0 kc).1 (v0 kc).2.1 (v0 kc).2.2 rfl) tw_318 tw_315 tw_316 tw_317 tw_2 qW_bits (by rw [hR]; decide) (zW_recv hK hZ hlc) hZ hK hl.1 rfl rfl (Nat.le_of_ble_eq_true rfl) dS_keep_1 (by rw [hR]; decide) hS (fun r9 v1 H locs hp hZ _ hS => ?_)
  obtain ⟨hv1, q, hr1, hq8, hq9⟩ := hp
  rw [hv1] at hZ
  subst hr1
  clear hv1 v1
  have hbl : bl (z).natAbs q := zN_bl (hZ.2 kc hlc).1 hN hq8 hq9
  clear hq8 hq9
  have hbz : q ≤ 4256 := (bl_le hbl).mpr (by rw [zN_abs hN]; have h9 := wv_lt (hZ.2 kc hlc).1 (v0 kc).2.1; rw [wP_two] at h9; exact Nat.lt_of_lt_of_le h9 (Nat.pow_le_pow_right (by decide) (by have := (hZ.2 kc hlc).2; omega)))
  refine lv_sipush (v := iZ (2048)) hx hb dS_keep_4 (by decide) ?_
  refine zr_icmp_le (tgt := 20) hx hb (by unfold zi; omega) (by unfold zi; omega) dS_keep_7 (by decide) (fun c_1 => ?_) (fun c_1 => ?_)
  · refine lv_aload_n hx hb dS_keep_20 rfl (lv_at hl 0 rfl) ?_
    refine zs_registers hx hb ht hown hK hZ tw_127 dS_keep_21 ?_
    refine lv_iload_n hx hb dS_keep_24 rfl (lv_at hl 2 rfl) ?_
    refine zs_reg (i := to) hx hb hK hZ h10_to dS_keep_25 ?_
    refine lv_aload_n hx hb dS_keep_26 rfl (lv_at hl 1 rfl) ?_
    refine zcV_v  1 (As := [.ref (B + kc)]) (rest := []) rfl ⟨hx, hb, hml, hown, ht⟩ (mW_copy l E B v0 (zF E B an sp ct f st g) (2 + 2 * to) (lp_reg h10_to) (v0 (2 + 2 * to)).1 (v0 (2 + 2 * to)).2.1 (v0 (2 + 2 * to)).2.2 rfl kc hlc (v0 kc).1 (v0 kc).2.1 (v0 kc).2.2 rfl hc) tw_345 tw_342 tw_343 tw_344 tw_2 qW_copy (by rw [hR]; decide) (zW_recv hK hZ (lp_reg h10_to)) hZ hK hl.1 rfl rfl (Nat.le_of_ble_eq_true rfl) dS_keep_27 (by rw [hR]; decide) hS (fun v H locs hp hZ _ hS => ?_)
    obtain ⟨ho, d9, ev9, hd9⟩ := hp
    have hNk : zN (v (2 + 2 * to)) (z) := by rw [ev9]; exact zN_copy hN hd9
    exact hend 30 v _ _ _ _ _ (by decide) dS_keep_30 (⟨ho, hNk, (bl_le hbl).mp (by omega)⟩) (hZ) hS
  · exact hthr _ _ _ _ _ _ 10 (()) _ _ _ _ _ _ zs_S_keep_10 hown dS_keep_10 dS_keep_13 dS_keep_14 dS_keep_16 dS_keep_19 hl.1 (by rw [hR]; decide) (by decide) (fun h9 => absurd ((bl_le hbl).mpr h9) (by omega)) (⟨rfl, hZ⟩) hS
