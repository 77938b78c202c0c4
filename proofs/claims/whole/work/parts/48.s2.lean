theorem zX_long {z : Int} (h : zl z) : zX z := by
  unfold zl at h
  show z.natAbs < 2 ^ 2048
  exact Nat.lt_of_lt_of_le (show z.natAbs < 2 ^ 64 by omega) (Nat.pow_le_pow_right (by decide) (by decide))
theorem zX_le {x y : Int} (h : zX y) (hx : x.natAbs ≤ y.natAbs) : zX x := Nat.lt_of_le_of_lt hx h
theorem zX_gcd {x y : Int} (hx : zX x) (hy : zX y) : zX ((Nat.gcd x.natAbs y.natAbs : Nat) : Int) := by
  show (((Nat.gcd x.natAbs y.natAbs : Nat) : Int)).natAbs < 2 ^ 2048
  rw [Int.natAbs_natCast]
  rcases Nat.eq_zero_or_pos x.natAbs with h | h
  · rw [h, Nat.gcd_zero_left]; exact hy
  · exact Nat.lt_of_le_of_lt (Nat.gcd_le_left _ h) hx
theorem zX_emod {x y : Int} (hy : zX y) (h0 : 0 < y) : zX (x % y) := zX_le hy (by have h1 := Int.emod_nonneg x (show y ≠ 0 by omega); have h2 := Int.emod_lt_of_pos x h0; omega)
theorem zX_tdiv {x y : Int} (hx : zX x) : zX (x.tdiv y) := zX_le hx (by rw [Int.natAbs_tdiv]; exact Nat.div_le_self _ _)
theorem zX_tmodS {x y : Int} (hx : zX x) : zX (x.tmod y) := zX_le hx (by rw [Int.natAbs_tmod]; exact Nat.mod_le _ _)
set_option maxHeartbeats 4000000 in
set_option maxRecDepth 100000 in
theorem mS_put (l : Launch) (hl0 : l.stackTraces = false) (E : zE) (B : Nat) (rg : Nat → Int) (ct : Nat) (f : Nat → Nat) (st : Nat) (g : Nat → Nat) (to : Int) (hz_to : zi to) (z : Int) (hzl : zl z) :
    vx_Met l yS_put (zws yS_put cS_put 4 none) { frames := 7, cells := 8, slots := 48, locals := 140 } (zPx E (zA B 80) (zQ E B (rg, ct, f, st, g)) [.ref (B), .int (iZ (to)), .long (lZ (z))]) (va_Qv (fun (u : zS) => SP (rok to) (False) (False) (fun τ => τ = (va_up rg to.toNat (z), ct, f, st, g)) (rg, ct, f, st, g) 0 u) (fun u t => zQ E B u t.heap ∧ zK E t) (zA B 80)) (vx_X (fun u : Nat × zS => SP (rok to) (False) (False) (fun τ => τ = (va_up rg to.toNat (z), ct, f, st, g)) (rg, ct, f, st, g) u.1 u.2 ∧ u.1 ≠ 0) (fun C u t => (fun (C : String) (u : Nat × zS) (H : Heap) => C = zcl u.1 ∧ zQ E B u.2 H) C u t.heap ∧ zK E t) (zA B 80)) 8 48 (zA B 80) := by
  refine zox_v (P' := fun (u : zS) H => zQ E B u H) (BX := fun (C : String) (u : Nat × zS) (H : Heap) => C = zcl u.1 ∧ zQ E B u.2 H) hl0 (fun C u H H1 _ hq h => ⟨h.1, zQ_grow hq h.2⟩) (by decide) (Nat.le_of_ble_eq_true rfl) fun p e R s m args below meth c Q ls hR hx hb hml ht hown hK hZ hH hl hend hthr hpas => ?_
  have hS : va_S (zA B 80) s.heap s.heap [] := va_S.rf
  have hown : s.vm.findClass "WholeDesk" = some m.cls := hown
  have hl : lv_has ls 4 [(0, .ref (B)), (1, .int (iZ (to))), (2, .long (lZ (z)))] := hl
  obtain ⟨hok, v0, an0, sp0, hZ, hA0, hr⟩ := hZ
  dsimp only at hZ hr
  have fr : ∀ j, j < 22 → v0 j = v0 j := fun j _ => rfl
  refine lv_iload_n hx hb dS_put_0 rfl (lv_at hl 1 rfl) ?_
  refine zxS_v (P' := fun (u : Unit) H => zD E B v0 (zF E B an0 sp0 ct f st g) H) (BX := fun (C : String) (u : Unit) (H : Heap) => C = "java/lang/IllegalArgumentException" ∧ zD E B v0 (zF E B an0 sp0 ct f st g) H) 1 (As := [.int (iZ (to))]) (rest := []) ⟨hx, hb, hml, hown, ht⟩ (mS_testRegister l hl0 E B v0 (zF E B an0 sp0 ct f st g) (to) (hz_to)) tw_246 tw_244 tw_245 tw_1 qS_testRegister (by rw [hR]; decide) hZ hK hH hl.1 rfl rfl (Nat.le_of_ble_eq_true rfl) dS_put_1 (by rw [hR]; decide) hS (fun C ce q9 u H locs hp hZ hS hce hcv hcl => hpas C ce q9 _ (1, (rg, ct, f, st, g)) H locs _ _ _ _ (by decide) (⟨Or.inl ⟨rfl, fun h9 => hp (by first | exact h9 | exact h9.1 | exact h9.2.1 | exact h9.2.2.1 | exact h9.2.2.2.1 | exact h9.2.2.2 | exact h9.2.2 | exact h9.2), rfl⟩, by show 1 ≠ 0; decide⟩) (⟨hZ.1, ⟨hok, v0, an0, sp0, hZ.2, hA0, zR_same fr hr⟩⟩) hS hce hcv hcl) (fun u H locs hp hZ _ hS => ?_)
  obtain ⟨nto, rfl⟩ : ∃ n : Nat, to = (n : Int) := ⟨to.toNat, by have := hp.1; omega⟩
  have hk_nto : rok ↑nto := hp
  have h10_nto : nto < 10 := by have := hp.2; omega
  refine lv_aload_n hx hb dS_put_4 rfl (lv_at hl 0 rfl) ?_
  refine zs_registers hx hb ht hown hK hZ tw_127 dS_put_5 ?_
  refine lv_iload_n hx hb dS_put_8 rfl (lv_at hl 1 rfl) ?_
  refine zs_reg (i := nto) hx hb hK hZ h10_nto dS_put_9 ?_
  have hN_nto : zN (v0 (2 + 2 * nto)) (rg nto) := zR_same fr hr nto h10_nto
  have hX_nto : zX (rg nto) := hok.1 nto h10_nto
  refine lv_lload_n hx hb dS_put_10 rfl (lv_at hl 2 rfl) ?_
  refine zcV_v  1 (As := [.long (lZ (z))]) (rest := []) rfl ⟨hx, hb, hml, hown, ht⟩ (mW_become l E B v0 (zF E B an0 sp0 ct f st g) (2 + 2 * nto) (lp_reg h10_nto) (v0 (2 + 2 * nto)).1 (v0 (2 + 2 * nto)).2.1 (v0 (2 + 2 * nto)).2.2 rfl (z) hzl) tw_290 tw_356 tw_288 tw_289 tw_2 qW_become (by rw [hR]; decide) (zW_recv hK hZ (lp_reg h10_nto)) hZ hK hl.1 rfl rfl (Nat.le_of_ble_eq_true rfl) dS_put_11 (by rw [hR]; decide) hS (fun v H locs hp hZ _ hS => ?_)
  obtain ⟨ho, hNk⟩ := hp
  have hXk := zX_long hzl
  have hQ9 : zR10 v (va_up rg nto (z)) := zR_up fr hr ho hNk
  have hok9 : okS (va_up rg nto (z), ct, f, st, g) := okS_up hok hXk
  exact hend 14 (va_up rg nto (z), ct, f, st, g) _ _ _ _ _ (by decide) dS_put_14 (Or.inr (Or.inr (Or.inr ⟨rfl, by repeat (first | assumption | constructor), rfl⟩))) (⟨hok9, v, an0, sp0, hZ, hA0, hQ9⟩) hS

set_option maxHeartbeats 4000000 in
set_option maxRecDepth 100000 in
theorem mS_add (l : Launch) (hl0 : l.stackTraces = false) (E : zE) (B : Nat) (rg : Nat → Int) (ct : Nat) (f : Nat → Nat) (st : Nat) (g : Nat → Nat) (a : Int) (hz_a : zi a) (b : Int) (hz_b : zi b) (to : Int) (hz_to : zi to) (less : Bool) :
    vx_Met l yS_add (zws yS_add cS_add 5 none) { frames := 7, cells := 8, slots := 48, locals := 140 } (zPx E (zA B 80) (zQ E B (rg, ct, f, st, g)) [.ref (B), .int (iZ (a)), .int (iZ (b)), .int (iZ (to)), .int (iZ (bZ less))]) (va_Qv (fun (u : zS) => SP (rok a ∧ rok b ∧ rok to) (False) (¬ zX (zsum (rg a.toNat) (rg b.toNat) less)) (fun τ => zX (zsum (rg a.toNat) (rg b.toNat) less) ∧ τ = (va_up rg to.toNat (zsum (rg a.toNat) (rg b.toNat) less), ct, f, st, g)) (rg, ct, f, st, g) 0 u) (fun u t => zQ E B u t.heap ∧ zK E t) (zA B 80)) (vx_X (fun u : Nat × zS => SP (rok a ∧ rok b ∧ rok to) (False) (¬ zX (zsum (rg a.toNat) (rg b.toNat) less)) (fun τ => zX (zsum (rg a.toNat) (rg b.toNat) less) ∧ τ = (va_up rg to.toNat (zsum (rg a.toNat) (rg b.toNat) less), ct, f, st, g)) (rg, ct, f, st, g) u.1 u.2 ∧ u.1 ≠ 0) (fun C u t => (fun (C : String) (u : Nat × zS) (H : Heap) => C = zcl u.1 ∧ zQ E B u.2 H) C u t.heap ∧ zK E t) (zA B 80)) 8 48 (zA B 80) := by
  refine zox_v (P' := fun (u : zS) H => zQ E B u H) (BX := fun (C : String) (u : Nat × zS) (H : Heap) => C = zcl u.1 ∧ zQ E B u.2 H) hl0 (fun C u H H1 _ hq h => ⟨h.1, zQ_grow hq h.2⟩) (by decide) (Nat.le_of_ble_eq_true rfl) fun p e R s m args below meth c Q ls hR hx hb hml ht hown hK hZ hH hl hend hthr hpas => ?_
  have hS : va_S (zA B 80) s.heap s.heap [] := va_S.rf
  have hown : s.vm.findClass "WholeDesk" = some m.cls := hown
  have hl : lv_has ls 5 [(0, .ref (B)), (1, .int (iZ (a))), (2, .int (iZ (b))), (3, .int (iZ (to))), (4, .int (iZ (bZ less)))] := hl
  obtain ⟨hok, v0, an0, sp0, hZ, hA0, hr⟩ := hZ
  dsimp only at hZ hr
  have fr : ∀ j, j < 22 → v0 j = v0 j := fun j _ => rfl
  refine lv_iload_n hx hb dS_add_0 rfl (lv_at hl 1 rfl) ?_
  refine zxS_v (P' := fun (u : Unit) H => zD E B v0 (zF E B an0 sp0 ct f st g) H) (BX := fun (C : String) (u : Unit) (H : Heap) => C = "java/lang/IllegalArgumentException" ∧ zD E B v0 (zF E B an0 sp0 ct f st g) H) 1 (As := [.int (iZ (a))]) (rest := []) ⟨hx, hb, hml, hown, ht⟩ (mS_testRegister l hl0 E B v0 (zF E B an0 sp0 ct f st g) (a) (hz_a)) tw_246 tw_244 tw_245 tw_1 qS_testRegister (by rw [hR]; decide) hZ hK hH hl.1 rfl rfl (Nat.le_of_ble_eq_true rfl) dS_add_1 (by rw [hR]; decide) hS (fun C ce q9 u H locs hp hZ hS hce hcv hcl => hpas C ce q9 _ (1, (rg, ct, f, st, g)) H locs _ _ _ _ (by decide) (⟨Or.inl ⟨rfl, fun h9 => hp (by first | exact h9 | exact h9.1 | exact h9.2.1 | exact h9.2.2.1 | exact h9.2.2.2.1 | exact h9.2.2.2 | exact h9.2.2 | exact h9.2), rfl⟩, by show 1 ≠ 0; decide⟩) (⟨hZ.1, ⟨hok, v0, an0, sp0, hZ.2, hA0, zR_same fr hr⟩⟩) hS hce hcv hcl) (fun u H locs hp hZ _ hS => ?_)
  obtain ⟨na, rfl⟩ : ∃ n : Nat, a = (n : Int) := ⟨a.toNat, by have := hp.1; omega⟩
  have hk_na : rok ↑na := hp
  have h10_na : na < 10 := by have := hp.2; omega
  refine lv_iload_n hx hb dS_add_4 rfl (lv_at hl 2 rfl) ?_
  refine zxS_v (P' := fun (u : Unit) H => zD E B v0 (zF E B an0 sp0 ct f st g) H) (BX := fun (C : String) (u : Unit) (H : Heap) => C = "java/lang/IllegalArgumentException" ∧ zD E B v0 (zF E B an0 sp0 ct f st g) H) 1 (As := [.int (iZ (b))]) (rest := []) ⟨hx, hb, hml, hown, ht⟩ (mS_testRegister l hl0 E B v0 (zF E B an0 sp0 ct f st g) (b) (hz_b)) tw_246 tw_244 tw_245 tw_1 qS_testRegister (by rw [hR]; decide) hZ hK hH hl.1 rfl rfl (Nat.le_of_ble_eq_true rfl) dS_add_5 (by rw [hR]; decide) hS (fun C ce q9 u H locs hp hZ hS hce hcv hcl => hpas C ce q9 _ (1, (rg, ct, f, st, g)) H locs _ _ _ _ (by decide) (⟨Or.inl ⟨rfl, fun h9 => hp (by first | exact h9 | exact h9.1 | exact h9.2.1 | exact h9.2.2.1 | exact h9.2.2.2.1 | exact h9.2.2.2 | exact h9.2.2 | exact h9.2), rfl⟩, by show 1 ≠ 0; decide⟩) (⟨hZ.1, ⟨hok, v0, an0, sp0, hZ.2, hA0, zR_same fr hr⟩⟩) hS hce hcv hcl) (fun u H locs hp hZ _ hS => ?_)
  obtain ⟨nb, rfl⟩ : ∃ n : Nat, b = (n : Int) := ⟨b.toNat, by have := hp.1; omega⟩
  have hk_nb : rok ↑nb := hp
  have h10_nb : nb < 10 := by have := hp.2; omega
  refine lv_iload_n hx hb dS_add_8 rfl (lv_at hl 3 rfl) ?_
  refine zxS_v (P' := fun (u : Unit) H => zD E B v0 (zF E B an0 sp0 ct f st g) H) (BX := fun (C : String) (u : Unit) (H : Heap) => C = "java/lang/IllegalArgumentException" ∧ zD E B v0 (zF E B an0 sp0 ct f st g) H) 1 (As := [.int (iZ (to))]) (rest := []) ⟨hx, hb, hml, hown, ht⟩ (mS_testRegister l hl0 E B v0 (zF E B an0 sp0 ct f st g) (to) (hz_to)) tw_246 tw_244 tw_245 tw_1 qS_testRegister (by rw [hR]; decide) hZ hK hH hl.1 rfl rfl (Nat.le_of_ble_eq_true rfl) dS_add_9 (by rw [hR]; decide) hS (fun C ce q9 u H locs hp hZ hS hce hcv hcl => hpas C ce q9 _ (1, (rg, ct, f, st, g)) H locs _ _ _ _ (by decide) (⟨Or.inl ⟨rfl, fun h9 => hp (by first | exact h9 | exact h9.1 | exact h9.2.1 | exact h9.2.2.1 | exact h9.2.2.2.1 | exact h9.2.2.2 | exact h9.2.2 | exact h9.2), rfl⟩, by show 1 ≠ 0; decide⟩) (⟨hZ.1, ⟨hok, v0, an0, sp0, hZ.2, hA0, zR_same fr hr⟩⟩) hS hce hcv hcl) (fun u H locs hp hZ _ hS => ?_)
  obtain ⟨nto, rfl⟩ : ∃ n : Nat, to = (n : Int) := ⟨to.toNat, by have := hp.1; omega⟩
  have hk_nto : rok ↑nto := hp
  have h10_nto : nto < 10 := by have := hp.2; omega
  refine lv_aload_n hx hb dS_add_12 rfl (lv_at hl 0 rfl) ?_
  refine lv_aload_n hx hb dS_add_13 rfl (lv_at hl 0 rfl) ?_
  refine zs_reckoner hx hb ht hown hK hZ tw_128 dS_add_14 ?_
  refine lv_aload_n hx hb dS_add_17 rfl (lv_at hl 0 rfl) ?_
  refine zs_registers hx hb ht hown hK hZ tw_127 dS_add_18 ?_
  refine lv_iload_n hx hb dS_add_21 rfl (lv_at hl 1 rfl) ?_
  refine zs_reg (i := na) hx hb hK hZ h10_na dS_add_22 ?_
  have hN_na : zN (v0 (2 + 2 * na)) (rg na) := zR_same fr hr na h10_na
  have hX_na : zX (rg na) := hok.1 na h10_na
  refine lv_aload_n hx hb dS_add_23 rfl (lv_at hl 0 rfl) ?_
  refine zs_registers hx hb ht hown hK hZ tw_127 dS_add_24 ?_
  refine lv_iload_n hx hb dS_add_27 rfl (lv_at hl 2 rfl) ?_
  refine zs_reg (i := nb) hx hb hK hZ h10_nb dS_add_28 ?_
  have hN_nb : zN (v0 (2 + 2 * nb)) (rg nb) := zR_same fr hr nb h10_nb
  have hX_nb : zX (rg nb) := hok.1 nb h10_nb
  refine lv_iload hx hb dS_add_29 (lv_at hl 4 rfl) ?_
  refine zcV_r (P' := fun (u : (Nat → zV) × Nat × Nat × Nat) a H => a = B + u.2.2.2 ∧ zD E B u.1 (zo E B (zd E B (zg E B (zs E B) st g) ct f) u.2.1 u.2.2.1) H) 3 (As := [.ref (B + (2 + 2 * na)), .ref (B + (2 + 2 * nb)), .int (iZ (bZ less))]) (rest := [.ref (B)]) rfl ⟨hx, hb, hml, hown, ht⟩ (mK_sum l E B v0 (zd E B (zg E B (zs E B) st g) ct f) an0 sp0 hA0 (2 + 2 * na) (lp_reg h10_na) (rg na) hN_na hX_na (2 + 2 * nb) (lp_reg h10_nb) (rg nb) hN_nb hX_nb less (swp_ne hA0 (by omega) (by omega)).1 (swp_ne hA0 (by omega) (by omega)).1) tw_367 tw_364 tw_365 tw_366 tw_3 qK_sum (by rw [hR]; decide) (zK_recv hK hZ) hZ hK hl.1 rfl rfl (Nat.le_of_ble_eq_true rfl) dS_add_31 (by rw [hR]; decide) hS (fun u r9 H locs hp hZ _ hS => ?_)
  obtain ⟨v, a9, s9, o9⟩ := u
  obtain ⟨er9, hZ⟩ := hZ
  obtain ⟨ho, e8, e9, e7, hN9⟩ := hp
  dsimp only at *
  rw [e7] at er9
  subst er9
  have fr : ∀ j, j < 22 → v j = v0 j := fun j hj => (ho j ((swp_ne hA0 (by omega) (by omega)).1)).trans (fr j hj)
  rw [e8, e9] at hZ
  have hZ : zD E B v (zF E B an0 sp0 ct f st g) H := by exact hZ
  refine lv_iload_n hx hb dS_add_34 rfl (lv_at hl 3 rfl) ?_
  refine zxV_v (P' := fun (u : Nat → zV) H => zD E B u (zF E B an0 sp0 ct f st g) H) (BX := fun (C : String) (u : Unit) (H : Heap) => C = "java/lang/ArithmeticException" ∧ zD E B v (zF E B an0 sp0 ct f st g) H) 2 (As := [.ref (B + an0), .int (iZ (↑nto))]) (rest := []) rfl ⟨hx, hb, hml, hown, ht⟩ (mS_keep l hl0 E B v an0 sp0 ct f st g an0 (swp_lp hA0 (by decide) (by decide)).1 (zsum (rg na) (rg nb) less) hN9 nto h10_nto (Ne.symm (swp_ne hA0 (by omega) (by omega)).1)) tw_314 tw_311 tw_313 tp_4 tw_1 qS_keep (by rw [hR]; decide) (zs_recv hK hZ) hZ hK hH hl.1 rfl rfl (Nat.le_of_ble_eq_true rfl) dS_add_35 (by rw [hR]; decide) hS (fun C ce q9 u H locs hp hZ hS hce hcv hcl => hpas C ce q9 _ (3, (rg, ct, f, st, g)) H locs _ _ _ _ (by decide) (⟨Or.inr (Or.inr (Or.inl ⟨rfl, by repeat (first | assumption | constructor), by first | exact hp | exact Or.inl hp | exact Or.inr hp, rfl⟩)), by show 3 ≠ 0; decide⟩) (⟨hZ.1, ⟨hok, v, an0, sp0, hZ.2, hA0, zR_same fr hr⟩⟩) hS hce hcv hcl) (fun v H locs hp hZ _ hS => ?_)
  obtain ⟨ho, hNk, hXk⟩ := hp
  have hQ9 : zR10 v (va_up rg nto (zsum (rg na) (rg nb) less)) := zR_up fr hr ho hNk
  have hok9 : okS (va_up rg nto (zsum (rg na) (rg nb) less), ct, f, st, g) := okS_up hok hXk
  exact hend 38 (va_up rg nto (zsum (rg na) (rg nb) less), ct, f, st, g) _ _ _ _ _ (by decide) dS_add_38 (Or.inr (Or.inr (Or.inr ⟨rfl, by repeat (first | assumption | constructor), hXk, rfl⟩))) (⟨hok9, v, an0, sp0, hZ, hA0, hQ9⟩) hS

set_option maxHeartbeats 4000000 in
set_option maxRecDepth 100000 in
theorem mS_multiply (l : Launch) (hl0 : l.stackTraces = false) (E : zE) (B : Nat) (rg : Nat → Int) (ct : Nat) (f : Nat → Nat) (st : Nat) (g : Nat → Nat) (a : Int) (hz_a : zi a) (b : Int) (hz_b : zi b) (to : Int) (hz_to : zi to) :
    vx_Met l yS_multiply (zws yS_multiply cS_multiply 4 none) { frames := 7, cells := 8, slots := 48, locals := 140 } (zPx E (zA B 80) (zQ E B (rg, ct, f, st, g)) [.ref (B), .int (iZ (a)), .int (iZ (b)), .int (iZ (to))]) (va_Qv (fun (u : zS) => SP (rok a ∧ rok b ∧ rok to) (False) (¬ zX (rg a.toNat * rg b.toNat)) (fun τ => zX (rg a.toNat * rg b.toNat) ∧ τ = (va_up rg to.toNat (rg a.toNat * rg b.toNat), ct, f, st, g)) (rg, ct, f, st, g) 0 u) (fun u t => zQ E B u t.heap ∧ zK E t) (zA B 80)) (vx_X (fun u : Nat × zS => SP (rok a ∧ rok b ∧ rok to) (False) (¬ zX (rg a.toNat * rg b.toNat)) (fun τ => zX (rg a.toNat * rg b.toNat) ∧ τ = (va_up rg to.toNat (rg a.toNat * rg b.toNat), ct, f, st, g)) (rg, ct, f, st, g) u.1 u.2 ∧ u.1 ≠ 0) (fun C u t => (fun (C : String) (u : Nat × zS) (H : Heap) => C = zcl u.1 ∧ zQ E B u.2 H) C u t.heap ∧ zK E t) (zA B 80)) 8 48 (zA B 80) := by
  refine zox_v (P' := fun (u : zS) H => zQ E B u H) (BX := fun (C : String) (u : Nat × zS) (H : Heap) => C = zcl u.1 ∧ zQ E B u.2 H) hl0 (fun C u H H1 _ hq h => ⟨h.1, zQ_grow hq h.2⟩) (by decide) (Nat.le_of_ble_eq_true rfl) fun p e R s m args below meth c Q ls hR hx hb hml ht hown hK hZ hH hl hend hthr hpas => ?_
  have hS : va_S (zA B 80) s.heap s.heap [] := va_S.rf
  have hown : s.vm.findClass "WholeDesk" = some m.cls := hown
  have hl : lv_has ls 4 [(0, .ref (B)), (1, .int (iZ (a))), (2, .int (iZ (b))), (3, .int (iZ (to)))] := hl
  obtain ⟨hok, v0, an0, sp0, hZ, hA0, hr⟩ := hZ
  dsimp only at hZ hr
  have fr : ∀ j, j < 22 → v0 j = v0 j := fun j _ => rfl
  refine lv_iload_n hx hb dS_multiply_0 rfl (lv_at hl 1 rfl) ?_
  refine zxS_v (P' := fun (u : Unit) H => zD E B v0 (zF E B an0 sp0 ct f st g) H) (BX := fun (C : String) (u : Unit) (H : Heap) => C = "java/lang/IllegalArgumentException" ∧ zD E B v0 (zF E B an0 sp0 ct f st g) H) 1 (As := [.int (iZ (a))]) (rest := []) ⟨hx, hb, hml, hown, ht⟩ (mS_testRegister l hl0 E B v0 (zF E B an0 sp0 ct f st g) (a) (hz_a)) tw_246 tw_244 tw_245 tw_1 qS_testRegister (by rw [hR]; decide) hZ hK hH hl.1 rfl rfl (Nat.le_of_ble_eq_true rfl) dS_multiply_1 (by rw [hR]; decide) hS (fun C ce q9 u H locs hp hZ hS hce hcv hcl => hpas C ce q9 _ (1, (rg, ct, f, st, g)) H locs _ _ _ _ (by decide) (⟨Or.inl ⟨rfl, fun h9 => hp (by first | exact h9 | exact h9.1 | exact h9.2.1 | exact h9.2.2.1 | exact h9.2.2.2.1 | exact h9.2.2.2 | exact h9.2.2 | exact h9.2), rfl⟩, by show 1 ≠ 0; decide⟩) (⟨hZ.1, ⟨hok, v0, an0, sp0, hZ.2, hA0, zR_same fr hr⟩⟩) hS hce hcv hcl) (fun u H locs hp hZ _ hS => ?_)
  obtain ⟨na, rfl⟩ : ∃ n : Nat, a = (n : Int) := ⟨a.toNat, by have := hp.1; omega⟩
  have hk_na : rok ↑na := hp
  have h10_na : na < 10 := by have := hp.2; omega
  refine lv_iload_n hx hb dS_multiply_4 rfl (lv_at hl 2 rfl) ?_
  refine zxS_v (P' := fun (u : Unit) H => zD E B v0 (zF E B an0 sp0 ct f st g) H) (BX := fun (C : String) (u : Unit) (H : Heap) => C = "java/lang/IllegalArgumentException" ∧ zD E B v0 (zF E B an0 sp0 ct f st g) H) 1 (As := [.int (iZ (b))]) (rest := []) ⟨hx, hb, hml, hown, ht⟩ (mS_testRegister l hl0 E B v0 (zF E B an0 sp0 ct f st g) (b) (hz_b)) tw_246 tw_244 tw_245 tw_1 qS_testRegister (by rw [hR]; decide) hZ hK hH hl.1 rfl rfl (Nat.le_of_ble_eq_true rfl) dS_multiply_5 (by rw [hR]; decide) hS (fun C ce q9 u H locs hp hZ hS hce hcv hcl => hpas C ce q9 _ (1, (rg, ct, f, st, g)) H locs _ _ _ _ (by decide) (⟨Or.inl ⟨rfl, fun h9 => hp (by first | exact h9 | exact h9.1 | exact h9.2.1 | exact h9.2.2.1 | exact h9.2.2.2.1 | exact h9.2.2.2 | exact h9.2.2 | exact h9.2), rfl⟩, by show 1 ≠ 0; decide⟩) (⟨hZ.1, ⟨hok, v0, an0, sp0, hZ.2, hA0, zR_same fr hr⟩⟩) hS hce hcv hcl) (fun u H locs hp hZ _ hS => ?_)
  obtain ⟨nb, rfl⟩ : ∃ n : Nat, b = (n : Int) := ⟨b.toNat, by have := hp.1; omega⟩
  have hk_nb : rok ↑nb := hp
  have h10_nb : nb < 10 := by have := hp.2; omega
  refine lv_iload_n hx hb dS_multiply_8 rfl (lv_at hl 3 rfl) ?_
  refine zxS_v (P' := fun (u : Unit) H => zD E B v0 (zF E B an0 sp0 ct f st g) H) (BX := fun (C : String) (u : Unit) (H : Heap) => C = "java/lang/IllegalArgumentException" ∧ zD E B v0 (zF E B an0 sp0 ct f st g) H) 1 (As := [.int (iZ (to))]) (rest := []) ⟨hx, hb, hml, hown, ht⟩ (mS_testRegister l hl0 E B v0 (zF E B an0 sp0 ct f st g) (to) (hz_to)) tw_246 tw_244 tw_245 tw_1 qS_testRegister (by rw [hR]; decide) hZ hK hH hl.1 rfl rfl (Nat.le_of_ble_eq_true rfl) dS_multiply_9 (by rw [hR]; decide) hS (fun C ce q9 u H locs hp hZ hS hce hcv hcl => hpas C ce q9 _ (1, (rg, ct, f, st, g)) H locs _ _ _ _ (by decide) (⟨Or.inl ⟨rfl, fun h9 => hp (by first | exact h9 | exact h9.1 | exact h9.2.1 | exact h9.2.2.1 | exact h9.2.2.2.1 | exact h9.2.2.2 | exact h9.2.2 | exact h9.2), rfl⟩, by show 1 ≠ 0; decide⟩) (⟨hZ.1, ⟨hok, v0, an0, sp0, hZ.2, hA0, zR_same fr hr⟩⟩) hS hce hcv hcl) (fun u H locs hp hZ _ hS => ?_)
  obtain ⟨nto, rfl⟩ : ∃ n : Nat, to = (n : Int) := ⟨to.toNat, by have := hp.1; omega⟩
  have hk_nto : rok ↑nto := hp
  have h10_nto : nto < 10 := by have := hp.2; omega
  refine lv_aload_n hx hb dS_multiply_12 rfl (lv_at hl 0 rfl) ?_
  refine lv_aload_n hx hb dS_multiply_13 rfl (lv_at hl 0 rfl) ?_
  refine zs_reckoner hx hb ht hown hK hZ tw_128 dS_multiply_14 ?_
  refine lv_aload_n hx hb dS_multiply_17 rfl (lv_at hl 0 rfl) ?_
  refine zs_registers hx hb ht hown hK hZ tw_127 dS_multiply_18 ?_
  refine lv_iload_n hx hb dS_multiply_21 rfl (lv_at hl 1 rfl) ?_
  refine zs_reg (i := na) hx hb hK hZ h10_na dS_multiply_22 ?_
  have hN_na : zN (v0 (2 + 2 * na)) (rg na) := zR_same fr hr na h10_na
  have hX_na : zX (rg na) := hok.1 na h10_na
  refine lv_aload_n hx hb dS_multiply_23 rfl (lv_at hl 0 rfl) ?_
  refine zs_registers hx hb ht hown hK hZ tw_127 dS_multiply_24 ?_
  refine lv_iload_n hx hb dS_multiply_27 rfl (lv_at hl 2 rfl) ?_
  refine zs_reg (i := nb) hx hb hK hZ h10_nb dS_multiply_28 ?_
  have hN_nb : zN (v0 (2 + 2 * nb)) (rg nb) := zR_same fr hr nb h10_nb
  have hX_nb : zX (rg nb) := hok.1 nb h10_nb
  refine zcV_r (P' := fun (u : (Nat → zV) × Nat × Nat × Nat) a H => a = B + u.2.2.2 ∧ zD E B u.1 (zo E B (zd E B (zg E B (zs E B) st g) ct f) u.2.1 u.2.2.1) H) 2 (As := [.ref (B + (2 + 2 * na)), .ref (B + (2 + 2 * nb))]) (rest := [.ref (B)]) rfl ⟨hx, hb, hml, hown, ht⟩ (mK_product l E B v0 (zd E B (zg E B (zs E B) st g) ct f) an0 sp0 hA0 (2 + 2 * na) (lp_reg h10_na) (rg na) hN_na (2 + 2 * nb) (lp_reg h10_nb) (rg nb) hN_nb (swp_ne hA0 (by omega) (by omega)).1 (swp_ne hA0 (by omega) (by omega)).1 (zX_smm hX_na hX_nb)) tw_395 tw_392 tw_393 tw_394 tw_3 qK_product (by rw [hR]; decide) (zK_recv hK hZ) hZ hK hl.1 rfl rfl (Nat.le_of_ble_eq_true rfl) dS_multiply_29 (by rw [hR]; decide) hS (fun u r9 H locs hp hZ _ hS => ?_)
  obtain ⟨v, a9, s9, o9⟩ := u
  obtain ⟨er9, hZ⟩ := hZ
  obtain ⟨ho, e8, e9, e7, hN9⟩ := hp
  dsimp only at *
  rw [e7] at er9
  subst er9
  have fr : ∀ j, j < 22 → v j = v0 j := fun j hj => (ho j ((swp_ne hA0 (by omega) (by omega)).1)).trans (fr j hj)
  rw [e8, e9] at hZ
  have hZ : zD E B v (zF E B an0 sp0 ct f st g) H := by exact hZ
  refine lv_iload_n hx hb dS_multiply_32 rfl (lv_at hl 3 rfl) ?_
  refine zxV_v (P' := fun (u : Nat → zV) H => zD E B u (zF E B an0 sp0 ct f st g) H) (BX := fun (C : String) (u : Unit) (H : Heap) => C = "java/lang/ArithmeticException" ∧ zD E B v (zF E B an0 sp0 ct f st g) H) 2 (As := [.ref (B + an0), .int (iZ (↑nto))]) (rest := []) rfl ⟨hx, hb, hml, hown, ht⟩ (mS_keep l hl0 E B v an0 sp0 ct f st g an0 (swp_lp hA0 (by decide) (by decide)).1 ((rg na) * (rg nb)) hN9 nto h10_nto (Ne.symm (swp_ne hA0 (by omega) (by omega)).1)) tw_314 tw_311 tw_313 tp_4 tw_1 qS_keep (by rw [hR]; decide) (zs_recv hK hZ) hZ hK hH hl.1 rfl rfl (Nat.le_of_ble_eq_true rfl) dS_multiply_33 (by rw [hR]; decide) hS (fun C ce q9 u H locs hp hZ hS hce hcv hcl => hpas C ce q9 _ (3, (rg, ct, f, st, g)) H locs _ _ _ _ (by decide) (⟨Or.inr (Or.inr (Or.inl ⟨rfl, by repeat (first | assumption | constructor), by first | exact hp | exact Or.inl hp | exact Or.inr hp, rfl⟩)), by show 3 ≠ 0; decide⟩) (⟨hZ.1, ⟨hok, v, an0, sp0, hZ.2, hA0, zR_same fr hr⟩⟩) hS hce hcv hcl) (fun v H locs hp hZ _ hS => ?_)
  obtain ⟨ho, hNk, hXk⟩ := hp
  have hQ9 : zR10 v (va_up rg nto ((rg na) * (rg nb))) := zR_up fr hr ho hNk
  have hok9 : okS (va_up rg nto ((rg na) * (rg nb)), ct, f, st, g) := okS_up hok hXk
  exact hend 36 (va_up rg nto ((rg na) * (rg nb)), ct, f, st, g) _ _ _ _ _ (by decide) dS_multiply_36 (Or.inr (Or.inr (Or.inr ⟨rfl, by repeat (first | assumption | constructor), hXk, rfl⟩))) (⟨hok9, v, an0, sp0, hZ, hA0, hQ9⟩) hS

set_option maxHeartbeats 4000000 in
set_option maxRecDepth 100000 in
theorem mS_modulo (l : Launch) (hl0 : l.stackTraces = false) (E : zE) (B : Nat) (rg : Nat → Int) (ct : Nat) (f : Nat → Nat) (st : Nat) (g : Nat → Nat) (a : Int) (hz_a : zi a) (mm : Int) (hz_mm : zi mm) (to : Int) (hz_to : zi to) :
    vx_Met l yS_modulo (zws yS_modulo cS_modulo 4 none) { frames := 7, cells := 8, slots := 48, locals := 180 } (zPx E (zA B 80) (zQ E B (rg, ct, f, st, g)) [.ref (B), .int (iZ (a)), .int (iZ (mm)), .int (iZ (to))]) (va_Qv (fun (u : zS) => SP (rok a ∧ rok mm ∧ rok to) (False) (¬ 0 < rg mm.toNat) (fun τ => 0 < rg mm.toNat ∧ τ = (va_up rg to.toNat (rg a.toNat % rg mm.toNat), ct, f, st, g)) (rg, ct, f, st, g) 0 u) (fun u t => zQ E B u t.heap ∧ zK E t) (zA B 80)) (vx_X (fun u : Nat × zS => SP (rok a ∧ rok mm ∧ rok to) (False) (¬ 0 < rg mm.toNat) (fun τ => 0 < rg mm.toNat ∧ τ = (va_up rg to.toNat (rg a.toNat % rg mm.toNat), ct, f, st, g)) (rg, ct, f, st, g) u.1 u.2 ∧ u.1 ≠ 0) (fun C u t => (fun (C : String) (u : Nat × zS) (H : Heap) => C = zcl u.1 ∧ zQ E B u.2 H) C u t.heap ∧ zK E t) (zA B 80)) 8 48 (zA B 80) := by
  refine zox_v (P' := fun (u : zS) H => zQ E B u H) (BX := fun (C : String) (u : Nat × zS) (H : Heap) => C = zcl u.1 ∧ zQ E B u.2 H) hl0 (fun C u H H1 _ hq h => ⟨h.1, zQ_grow hq h.2⟩) (by decide) (Nat.le_of_ble_eq_true rfl) fun p e R s m args below meth c Q ls hR hx hb hml ht hown hK hZ hH hl hend hthr hpas => ?_
  have hS : va_S (zA B 80) s.heap s.heap [] := va_S.rf
  have hown : s.vm.findClass "WholeDesk" = some m.cls := hown
  have hl : lv_has ls 4 [(0, .ref (B)), (1, .int (iZ (a))), (2, .int (iZ (mm))), (3, .int (iZ (to)))] := hl
  obtain ⟨hok, v0, an0, sp0, hZ, hA0, hr⟩ := hZ
  dsimp only at hZ hr
  have fr : ∀ j, j < 22 → v0 j = v0 j := fun j _ => rfl
  refine lv_iload_n hx hb dS_modulo_0 rfl (lv_at hl 1 rfl) ?_
  refine zxS_v (P' := fun (u : Unit) H => zD E B v0 (zF E B an0 sp0 ct f st g) H) (BX := fun (C : String) (u : Unit) (H : Heap) => C = "java/lang/IllegalArgumentException" ∧ zD E B v0 (zF E B an0 sp0 ct f st g) H) 1 (As := [.int (iZ (a))]) (rest := []) ⟨hx, hb, hml, hown, ht⟩ (mS_testRegister l hl0 E B v0 (zF E B an0 sp0 ct f st g) (a) (hz_a)) tw_246 tw_244 tw_245 tw_1 qS_testRegister (by rw [hR]; decide) hZ hK hH hl.1 rfl rfl (Nat.le_of_ble_eq_true rfl) dS_modulo_1 (by rw [hR]; decide) hS (fun C ce q9 u H locs hp hZ hS hce hcv hcl => hpas C ce q9 _ (1, (rg, ct, f, st, g)) H locs _ _ _ _ (by decide) (⟨Or.inl ⟨rfl, fun h9 => hp (by first | exact h9 | exact h9.1 | exact h9.2.1 | exact h9.2.2.1 | exact h9.2.2.2.1 | exact h9.2.2.2 | exact h9.2.2 | exact h9.2), rfl⟩, by show 1 ≠ 0; decide⟩) (⟨hZ.1, ⟨hok, v0, an0, sp0, hZ.2, hA0, zR_same fr hr⟩⟩) hS hce hcv hcl) (fun u H locs hp hZ _ hS => ?_)
  obtain ⟨na, rfl⟩ : ∃ n : Nat, a = (n : Int) := ⟨a.toNat, by have := hp.1; omega⟩
  have hk_na : rok ↑na := hp
  have h10_na : na < 10 := by have := hp.2; omega
  refine lv_iload_n hx hb dS_modulo_4 rfl (lv_at hl 2 rfl) ?_
  refine zxS_v (P' := fun (u : Unit) H => zD E B v0 (zF E B an0 sp0 ct f st g) H) (BX := fun (C : String) (u : Unit) (H : Heap) => C = "java/lang/IllegalArgumentException" ∧ zD E B v0 (zF E B an0 sp0 ct f st g) H) 1 (As := [.int (iZ (mm))]) (rest := []) ⟨hx, hb, hml, hown, ht⟩ (mS_testRegister l hl0 E B v0 (zF E B an0 sp0 ct f st g) (mm) (hz_mm)) tw_246 tw_244 tw_245 tw_1 qS_testRegister (by rw [hR]; decide) hZ hK hH hl.1 rfl rfl (Nat.le_of_ble_eq_true rfl) dS_modulo_5 (by rw [hR]; decide) hS (fun C ce q9 u H locs hp hZ hS hce hcv hcl => hpas C ce q9 _ (1, (rg, ct, f, st, g)) H locs _ _ _ _ (by decide) (⟨Or.inl ⟨rfl, fun h9 => hp (by first | exact h9 | exact h9.1 | exact h9.2.1 | exact h9.2.2.1 | exact h9.2.2.2.1 | exact h9.2.2.2 | exact h9.2.2 | exact h9.2), rfl⟩, by show 1 ≠ 0; decide⟩) (⟨hZ.1, ⟨hok, v0, an0, sp0, hZ.2, hA0, zR_same fr hr⟩⟩) hS hce hcv hcl) (fun u H locs hp hZ _ hS => ?_)
  obtain ⟨nmm, rfl⟩ : ∃ n : Nat, mm = (n : Int) := ⟨mm.toNat, by have := hp.1; omega⟩
  have hk_nmm : rok ↑nmm := hp
  have h10_nmm : nmm < 10 := by have := hp.2; omega
  refine lv_iload_n hx hb dS_modulo_8 rfl (lv_at hl 3 rfl) ?_
  refine zxS_v (P' := fun (u : Unit) H => zD E B v0 (zF E B an0 sp0 ct f st g) H) (BX := fun (C : String) (u : Unit) (H : Heap) => C = "java/lang/IllegalArgumentException" ∧ zD E B v0 (zF E B an0 sp0 ct f st g) H) 1 (As := [.int (iZ (to))]) (rest := []) ⟨hx, hb, hml, hown, ht⟩ (mS_testRegister l hl0 E B v0 (zF E B an0 sp0 ct f st g) (to) (hz_to)) tw_246 tw_244 tw_245 tw_1 qS_testRegister (by rw [hR]; decide) hZ hK hH hl.1 rfl rfl (Nat.le_of_ble_eq_true rfl) dS_modulo_9 (by rw [hR]; decide) hS (fun C ce q9 u H locs hp hZ hS hce hcv hcl => hpas C ce q9 _ (1, (rg, ct, f, st, g)) H locs _ _ _ _ (by decide) (⟨Or.inl ⟨rfl, fun h9 => hp (by first | exact h9 | exact h9.1 | exact h9.2.1 | exact h9.2.2.1 | exact h9.2.2.2.1 | exact h9.2.2.2 | exact h9.2.2 | exact h9.2), rfl⟩, by show 1 ≠ 0; decide⟩) (⟨hZ.1, ⟨hok, v0, an0, sp0, hZ.2, hA0, zR_same fr hr⟩⟩) hS hce hcv hcl) (fun u H locs hp hZ _ hS => ?_)
  obtain ⟨nto, rfl⟩ : ∃ n : Nat, to = (n : Int) := ⟨to.toNat, by have := hp.1; omega⟩
  have hk_nto : rok ↑nto := hp
  have h10_nto : nto < 10 := by have := hp.2; omega
  refine lv_aload_n hx hb dS_modulo_12 rfl (lv_at hl 0 rfl) ?_
  refine zs_registers hx hb ht hown hK hZ tw_127 dS_modulo_13 ?_
  refine lv_iload_n hx hb dS_modulo_16 rfl (lv_at hl 2 rfl) ?_
  refine zs_reg (i := nmm) hx hb hK hZ h10_nmm dS_modulo_17 ?_
  have hN_nmm : zN (v0 (2 + 2 * nmm)) (rg nmm) := zR_same fr hr nmm h10_nmm
  have hX_nmm : zX (rg nmm) := hok.1 nmm h10_nmm
  refine zxS_v (P' := fun (u : Unit) H => zD E B v0 (zF E B an0 sp0 ct f st g) H) (BX := fun (C : String) (u : Unit) (H : Heap) => C = "java/lang/ArithmeticException" ∧ zD E B v0 (zF E B an0 sp0 ct f st g) H) 1 (As := [.ref (B + (2 + 2 * nmm))]) (rest := []) ⟨hx, hb, hml, hown, ht⟩ (mS_testModulus l hl0 E B v0 (zF E B an0 sp0 ct f st g) (2 + 2 * nmm) (lp_reg h10_nmm) (rg nmm) hN_nmm) tw_434 tw_432 tw_433 tw_1 qS_testModulus (by rw [hR]; decide) hZ hK hH hl.1 rfl rfl (Nat.le_of_ble_eq_true rfl) dS_modulo_18 (by rw [hR]; decide) hS (fun C ce q9 u H locs hp hZ hS hce hcv hcl => hpas C ce q9 _ (3, (rg, ct, f, st, g)) H locs _ _ _ _ (by decide) (⟨Or.inr (Or.inr (Or.inl ⟨rfl, by repeat (first | assumption | constructor), by first | exact hp | exact Or.inl hp | exact Or.inr hp, rfl⟩)), by show 3 ≠ 0; decide⟩) (⟨hZ.1, ⟨hok, v0, an0, sp0, hZ.2, hA0, zR_same fr hr⟩⟩) hS hce hcv hcl) (fun u H locs hp hZ _ hS => ?_)
  have hmod := hp
  refine lv_aload_n hx hb dS_modulo_21 rfl (lv_at hl 0 rfl) ?_
  refine lv_aload_n hx hb dS_modulo_22 rfl (lv_at hl 0 rfl) ?_
  refine zs_reckoner hx hb ht hown hK hZ tw_128 dS_modulo_23 ?_
  refine lv_aload_n hx hb dS_modulo_26 rfl (lv_at hl 0 rfl) ?_
  refine zs_registers hx hb ht hown hK hZ tw_127 dS_modulo_27 ?_
  refine lv_iload_n hx hb dS_modulo_30 rfl (lv_at hl 1 rfl) ?_
  refine zs_reg (i := na) hx hb hK hZ h10_na dS_modulo_31 ?_
  have hN_na : zN (v0 (2 + 2 * na)) (rg na) := zR_same fr hr na h10_na
  have hX_na : zX (rg na) := hok.1 na h10_na
  refine lv_aload_n hx hb dS_modulo_32 rfl (lv_at hl 0 rfl) ?_
  refine zs_registers hx hb ht hown hK hZ tw_127 dS_modulo_33 ?_
  refine lv_iload_n hx hb dS_modulo_36 rfl (lv_at hl 2 rfl) ?_
  refine zs_reg (i := nmm) hx hb hK hZ h10_nmm dS_modulo_37 ?_
  refine zcV_r (P' := fun (u : (Nat → zV) × Nat × Nat × Nat) a H => a = B + u.2.2.2 ∧ zD E B u.1 (zo E B (zd E B (zg E B (zs E B) st g) ct f) u.2.1 u.2.2.1) H) 2 (As := [.ref (B + (2 + 2 * na)), .ref (B + (2 + 2 * nmm))]) (rest := [.ref (B)]) rfl ⟨hx, hb, hml, hown, ht⟩ (mK_residue l E B v0 (zd E B (zg E B (zs E B) st g) ct f) an0 sp0 hA0 (2 + 2 * na) (lp_reg h10_na) (rg na) hN_na (2 + 2 * nmm) (lp_reg h10_nmm) (rg nmm) hN_nmm ⟨by omega, by omega⟩ ⟨by omega, by omega⟩ hmod (zX_sm hX_na)) tw_443 tw_440 tw_441 tw_442 tw_3 qK_residue (by rw [hR]; decide) (zK_recv hK hZ) hZ hK hl.1 rfl rfl (Nat.le_of_ble_eq_true rfl) dS_modulo_38 (by rw [hR]; decide) hS (fun u r9 H locs hp hZ _ hS => ?_)
  obtain ⟨v, a9, s9, o9⟩ := u
  obtain ⟨er9, hZ⟩ := hZ
  obtain ⟨ho, ⟨e8, e9⟩, e7, hN9⟩ := hp
  dsimp only at *
  rw [e7] at er9
  subst er9
  have fr : ∀ j, j < 22 → v j = v0 j := fun j hj => (ho j (by omega) (by omega)).trans (fr j hj)
  rw [e8, e9] at hZ
  have hZ : zD E B v (zF E B an0 sp0 ct f st g) H := by exact hZ
  refine lv_iload_n hx hb dS_modulo_41 rfl (lv_at hl 3 rfl) ?_
  refine zxV_v (P' := fun (u : Nat → zV) H => zD E B u (zF E B an0 sp0 ct f st g) H) (BX := fun (C : String) (u : Unit) (H : Heap) => C = "java/lang/ArithmeticException" ∧ zD E B v (zF E B an0 sp0 ct f st g) H) 2 (As := [.ref (B + 25), .int (iZ (↑nto))]) (rest := []) rfl ⟨hx, hb, hml, hown, ht⟩ (mS_keep l hl0 E B v an0 sp0 ct f st g 25 (by decide) ((rg na) % (rg nmm)) hN9 nto h10_nto (by omega)) tw_314 tw_311 tw_313 tp_4 tw_1 qS_keep (by rw [hR]; decide) (zs_recv hK hZ) hZ hK hH hl.1 rfl rfl (Nat.le_of_ble_eq_true rfl) dS_modulo_42 (by rw [hR]; decide) hS (fun C ce q9 u H locs hp hZ hS hce hcv hcl => hpas C ce q9 _ (3, (rg, ct, f, st, g)) H locs _ _ _ _ (by decide) (absurd (zX_emod (hok.1 nmm h10_nmm) hmod) hp) (⟨hZ.1, ⟨hok, v, an0, sp0, hZ.2, hA0, zR_same fr hr⟩⟩) hS hce hcv hcl) (fun v H locs hp hZ _ hS => ?_)
  obtain ⟨ho, hNk, hXk⟩ := hp
  have hQ9 : zR10 v (va_up rg nto ((rg na) % (rg nmm))) := zR_up fr hr ho hNk
  have hok9 : okS (va_up rg nto ((rg na) % (rg nmm)), ct, f, st, g) := okS_up hok hXk
  exact hend 45 (va_up rg nto ((rg na) % (rg nmm)), ct, f, st, g) _ _ _ _ _ (by decide) dS_modulo_45 (Or.inr (Or.inr (Or.inr ⟨rfl, by repeat (first | assumption | constructor), hmod, rfl⟩))) (⟨hok9, v, an0, sp0, hZ, hA0, hQ9⟩) hS

set_option maxHeartbeats 4000000 in
set_option maxRecDepth 100000 in
theorem mS_common (l : Launch) (hl0 : l.stackTraces = false) (E : zE) (B : Nat) (rg : Nat → Int) (ct : Nat) (f : Nat → Nat) (st : Nat) (g : Nat → Nat) (a : Int) (hz_a : zi a) (b : Int) (hz_b : zi b) (to : Int) (hz_to : zi to) :
    vx_Met l yS_common (zws yS_common cS_common 4 none) { frames := 7, cells := 8, slots := 48, locals := 180 } (zPx E (zA B 80) (zQ E B (rg, ct, f, st, g)) [.ref (B), .int (iZ (a)), .int (iZ (b)), .int (iZ (to))]) (va_Qv (fun (u : zS) => SP (rok a ∧ rok b ∧ rok to) (False) (False) (fun τ => τ = (va_up rg to.toNat (((Nat.gcd (rg a.toNat).natAbs (rg b.toNat).natAbs : Nat) : Int)), ct, f, st, g)) (rg, ct, f, st, g) 0 u) (fun u t => zQ E B u t.heap ∧ zK E t) (zA B 80)) (vx_X (fun u : Nat × zS => SP (rok a ∧ rok b ∧ rok to) (False) (False) (fun τ => τ = (va_up rg to.toNat (((Nat.gcd (rg a.toNat).natAbs (rg b.toNat).natAbs : Nat) : Int)), ct, f, st, g)) (rg, ct, f, st, g) u.1 u.2 ∧ u.1 ≠ 0) (fun C u t => (fun (C : String) (u : Nat × zS) (H : Heap) => C = zcl u.1 ∧ zQ E B u.2 H) C u t.heap ∧ zK E t) (zA B 80)) 8 48 (zA B 80) := by
  refine zox_v (P' := fun (u : zS) H => zQ E B u H) (BX := fun (C : String) (u : Nat × zS) (H : Heap) => C = zcl u.1 ∧ zQ E B u.2 H) hl0 (fun C u H H1 _ hq h => ⟨h.1, zQ_grow hq h.2⟩) (by decide) (Nat.le_of_ble_eq_true rfl) fun p e R s m args below meth c Q ls hR hx hb hml ht hown hK hZ hH hl hend hthr hpas => ?_
  have hS : va_S (zA B 80) s.heap s.heap [] := va_S.rf
  have hown : s.vm.findClass "WholeDesk" = some m.cls := hown
  have hl : lv_has ls 4 [(0, .ref (B)), (1, .int (iZ (a))), (2, .int (iZ (b))), (3, .int (iZ (to)))] := hl
  obtain ⟨hok, v0, an0, sp0, hZ, hA0, hr⟩ := hZ
  dsimp only at hZ hr
  have fr : ∀ j, j < 22 → v0 j = v0 j := fun j _ => rfl
  refine lv_iload_n hx hb dS_common_0 rfl (lv_at hl 1 rfl) ?_
  refine zxS_v (P' := fun (u : Unit) H => zD E B v0 (zF E B an0 sp0 ct f st g) H) (BX := fun (C : String) (u : Unit) (H : Heap) => C = "java/lang/IllegalArgumentException" ∧ zD E B v0 (zF E B an0 sp0 ct f st g) H) 1 (As := [.int (iZ (a))]) (rest := []) ⟨hx, hb, hml, hown, ht⟩ (mS_testRegister l hl0 E B v0 (zF E B an0 sp0 ct f st g) (a) (hz_a)) tw_246 tw_244 tw_245 tw_1 qS_testRegister (by rw [hR]; decide) hZ hK hH hl.1 rfl rfl (Nat.le_of_ble_eq_true rfl) dS_common_1 (by rw [hR]; decide) hS (fun C ce q9 u H locs hp hZ hS hce hcv hcl => hpas C ce q9 _ (1, (rg, ct, f, st, g)) H locs _ _ _ _ (by decide) (⟨Or.inl ⟨rfl, fun h9 => hp (by first | exact h9 | exact h9.1 | exact h9.2.1 | exact h9.2.2.1 | exact h9.2.2.2.1 | exact h9.2.2.2 | exact h9.2.2 | exact h9.2), rfl⟩, by show 1 ≠ 0; decide⟩) (⟨hZ.1, ⟨hok, v0, an0, sp0, hZ.2, hA0, zR_same fr hr⟩⟩) hS hce hcv hcl) (fun u H locs hp hZ _ hS => ?_)
  obtain ⟨na, rfl⟩ : ∃ n : Nat, a = (n : Int) := ⟨a.toNat, by have := hp.1; omega⟩
  have hk_na : rok ↑na := hp
  have h10_na : na < 10 := by have := hp.2; omega
  refine lv_iload_n hx hb dS_common_4 rfl (lv_at hl 2 rfl) ?_
  refine zxS_v (P' := fun (u : Unit) H => zD E B v0 (zF E B an0 sp0 ct f st g) H) (BX := fun (C : String) (u : Unit) (H : Heap) => C = "java/lang/IllegalArgumentException" ∧ zD E B v0 (zF E B an0 sp0 ct f st g) H) 1 (As := [.int (iZ (b))]) (rest := []) ⟨hx, hb, hml, hown, ht⟩ (mS_testRegister l hl0 E B v0 (zF E B an0 sp0 ct f st g) (b) (hz_b)) tw_246 tw_244 tw_245 tw_1 qS_testRegister (by rw [hR]; decide) hZ hK hH hl.1 rfl rfl (Nat.le_of_ble_eq_true rfl) dS_common_5 (by rw [hR]; decide) hS (fun C ce q9 u H locs hp hZ hS hce hcv hcl => hpas C ce q9 _ (1, (rg, ct, f, st, g)) H locs _ _ _ _ (by decide) (⟨Or.inl ⟨rfl, fun h9 => hp (by first | exact h9 | exact h9.1 | exact h9.2.1 | exact h9.2.2.1 | exact h9.2.2.2.1 | exact h9.2.2.2 | exact h9.2.2 | exact h9.2), rfl⟩, by show 1 ≠ 0; decide⟩) (⟨hZ.1, ⟨hok, v0, an0, sp0, hZ.2, hA0, zR_same fr hr⟩⟩) hS hce hcv hcl) (fun u H locs hp hZ _ hS => ?_)
  obtain ⟨nb, rfl⟩ : ∃ n : Nat, b = (n : Int) := ⟨b.toNat, by have := hp.1; omega⟩
  have hk_nb : rok ↑nb := hp
  have h10_nb : nb < 10 := by have := hp.2; omega
  refine lv_iload_n hx hb dS_common_8 rfl (lv_at hl 3 rfl) ?_
  refine zxS_v (P' := fun (u : Unit) H => zD E B v0 (zF E B an0 sp0 ct f st g) H) (BX := fun (C : String) (u : Unit) (H : Heap) => C = "java/lang/IllegalArgumentException" ∧ zD E B v0 (zF E B an0 sp0 ct f st g) H) 1 (As := [.int (iZ (to))]) (rest := []) ⟨hx, hb, hml, hown, ht⟩ (mS_testRegister l hl0 E B v0 (zF E B an0 sp0 ct f st g) (to) (hz_to)) tw_246 tw_244 tw_245 tw_1 qS_testRegister (by rw [hR]; decide) hZ hK hH hl.1 rfl rfl (Nat.le_of_ble_eq_true rfl) dS_common_9 (by rw [hR]; decide) hS (fun C ce q9 u H locs hp hZ hS hce hcv hcl => hpas C ce q9 _ (1, (rg, ct, f, st, g)) H locs _ _ _ _ (by decide) (⟨Or.inl ⟨rfl, fun h9 => hp (by first | exact h9 | exact h9.1 | exact h9.2.1 | exact h9.2.2.1 | exact h9.2.2.2.1 | exact h9.2.2.2 | exact h9.2.2 | exact h9.2), rfl⟩, by show 1 ≠ 0; decide⟩) (⟨hZ.1, ⟨hok, v0, an0, sp0, hZ.2, hA0, zR_same fr hr⟩⟩) hS hce hcv hcl) (fun u H locs hp hZ _ hS => ?_)
  obtain ⟨nto, rfl⟩ : ∃ n : Nat, to = (n : Int) := ⟨to.toNat, by have := hp.1; omega⟩
  have hk_nto : rok ↑nto := hp
  have h10_nto : nto < 10 := by have := hp.2; omega
  refine lv_aload_n hx hb dS_common_12 rfl (lv_at hl 0 rfl) ?_
  refine zs_registers hx hb ht hown hK hZ tw_127 dS_common_13 ?_
  refine lv_iload_n hx hb dS_common_16 rfl (lv_at hl 3 rfl) ?_
  refine zs_reg (i := nto) hx hb hK hZ h10_nto dS_common_17 ?_
  have hN_nto : zN (v0 (2 + 2 * nto)) (rg nto) := zR_same fr hr nto h10_nto
  have hX_nto : zX (rg nto) := hok.1 nto h10_nto
  refine lv_aload_n hx hb dS_common_18 rfl (lv_at hl 0 rfl) ?_
  refine zs_reckoner hx hb ht hown hK hZ tw_128 dS_common_19 ?_
  refine lv_aload_n hx hb dS_common_22 rfl (lv_at hl 0 rfl) ?_
  refine zs_registers hx hb ht hown hK hZ tw_127 dS_common_23 ?_
  refine lv_iload_n hx hb dS_common_26 rfl (lv_at hl 1 rfl) ?_
  refine zs_reg (i := na) hx hb hK hZ h10_na dS_common_27 ?_
  have hN_na : zN (v0 (2 + 2 * na)) (rg na) := zR_same fr hr na h10_na
  have hX_na : zX (rg na) := hok.1 na h10_na
  refine lv_aload_n hx hb dS_common_28 rfl (lv_at hl 0 rfl) ?_
  refine zs_registers hx hb ht hown hK hZ tw_127 dS_common_29 ?_
  refine lv_iload_n hx hb dS_common_32 rfl (lv_at hl 2 rfl) ?_
  refine zs_reg (i := nb) hx hb hK hZ h10_nb dS_common_33 ?_
  have hN_nb : zN (v0 (2 + 2 * nb)) (rg nb) := zR_same fr hr nb h10_nb
  have hX_nb : zX (rg nb) := hok.1 nb h10_nb
  refine zcV_r (P' := fun (u : (Nat → zV) × Nat × Nat × Nat) a H => a = B + u.2.2.2 ∧ zD E B u.1 (zo E B (zd E B (zg E B (zs E B) st g) ct f) u.2.1 u.2.2.1) H) 2 (As := [.ref (B + (2 + 2 * na)), .ref (B + (2 + 2 * nb))]) (rest := [.ref (B + (2 + 2 * nto))]) rfl ⟨hx, hb, hml, hown, ht⟩ (mK_shared l E B v0 (zd E B (zg E B (zs E B) st g) ct f) an0 sp0 hA0 (2 + 2 * na) (lp_reg h10_na) (rg na) hN_na hX_na (2 + 2 * nb) (lp_reg h10_nb) (rg nb) hN_nb hX_nb ⟨by omega, by omega, by omega⟩ ⟨by omega, by omega, by omega⟩) tw_500 tw_497 tw_498 tw_499 tw_3 qK_shared (by rw [hR]; decide) (zK_recv hK hZ) hZ hK hl.1 rfl rfl (Nat.le_of_ble_eq_true rfl) dS_common_34 (by rw [hR]; decide) hS (fun u r9 H locs hp hZ _ hS => ?_)
  obtain ⟨v, a9, s9, o9⟩ := u
  obtain ⟨er9, hZ⟩ := hZ
  obtain ⟨ho, ⟨e8, e9⟩, ho9, hN9⟩ := hp
  dsimp only at *
  subst er9
  have fr : ∀ j, j < 22 → v j = v0 j := fun j hj => (ho j (by omega) (by omega) (by omega)).trans (fr j hj)
  rw [e8, e9] at hZ
  have hZ : zD E B v (zF E B an0 sp0 ct f st g) H := by exact hZ
  have hlo9 : lp o9 = true := by rcases ho9 with h | h <;> rw [h] <;> decide
  refine zcV_v  1 (As := [.ref (B + o9)]) (rest := []) rfl ⟨hx, hb, hml, hown, ht⟩ (mW_copy l E B v (zF E B an0 sp0 ct f st g) (2 + 2 * nto) (lp_reg h10_nto) (v (2 + 2 * nto)).1 (v (2 + 2 * nto)).2.1 (v (2 + 2 * nto)).2.2 rfl o9 hlo9 (v o9).1 (v o9).2.1 (v o9).2.2 rfl (by omega)) tw_345 tw_342 tw_343 tw_344 tw_2 qW_copy (by rw [hR]; decide) (zW_recv hK hZ (lp_reg h10_nto)) hZ hK hl.1 rfl rfl (Nat.le_of_ble_eq_true rfl) dS_common_37 (by rw [hR]; decide) hS (fun v H locs hp hZ _ hS => ?_)
  obtain ⟨ho, d9, ev9, hd9⟩ := hp
  have hNk : zN (v (2 + 2 * nto)) (((Nat.gcd (rg na).natAbs (rg nb).natAbs : Nat) : Int)) := by rw [ev9]; exact zN_copy hN9 hd9
  have hXk := zX_gcd (hok.1 na h10_na) (hok.1 nb h10_nb)
  have hQ9 : zR10 v (va_up rg nto (((Nat.gcd (rg na).natAbs (rg nb).natAbs : Nat) : Int))) := zR_up fr hr ho hNk
  have hok9 : okS (va_up rg nto (((Nat.gcd (rg na).natAbs (rg nb).natAbs : Nat) : Int)), ct, f, st, g) := okS_up hok hXk
  exact hend 40 (va_up rg nto (((Nat.gcd (rg na).natAbs (rg nb).natAbs : Nat) : Int)), ct, f, st, g) _ _ _ _ _ (by decide) dS_common_40 (Or.inr (Or.inr (Or.inr ⟨rfl, by repeat (first | assumption | constructor), rfl⟩))) (⟨hok9, v, an0, sp0, hZ, hA0, hQ9⟩) hS

set_option maxHeartbeats 4000000 in
set_option maxRecDepth 100000 in
theorem mS_divide (l : Launch) (hl0 : l.stackTraces = false) (E : zE) (B : Nat) (rg : Nat → Int) (ct : Nat) (f : Nat → Nat) (st : Nat) (g : Nat → Nat) (a : Int) (hz_a : zi a) (b : Int) (hz_b : zi b) (q : Int) (hz_q : zi q) (t : Int) (hz_t : zi t) :
    vx_Met l yS_divide (zws yS_divide cS_divide 5 none) { frames := 7, cells := 8, slots := 48, locals := 180 } (zPx E (zA B 80) (zQ E B (rg, ct, f, st, g)) [.ref (B), .int (iZ (a)), .int (iZ (b)), .int (iZ (q)), .int (iZ (t))]) (va_Qv (fun (u : zS) => SP (rok a ∧ rok b ∧ rok q ∧ rok t) (False) (rg b.toNat = 0) (fun τ => rg b.toNat ≠ 0 ∧ τ = (va_up (va_up rg q.toNat ((rg a.toNat).tdiv (rg b.toNat))) t.toNat ((rg a.toNat).tmod (rg b.toNat)), ct, f, st, g)) (rg, ct, f, st, g) 0 u) (fun u t => zQ E B u t.heap ∧ zK E t) (zA B 80)) (vx_X (fun u : Nat × zS => SP (rok a ∧ rok b ∧ rok q ∧ rok t) (False) (rg b.toNat = 0) (fun τ => rg b.toNat ≠ 0 ∧ τ = (va_up (va_up rg q.toNat ((rg a.toNat).tdiv (rg b.toNat))) t.toNat ((rg a.toNat).tmod (rg b.toNat)), ct, f, st, g)) (rg, ct, f, st, g) u.1 u.2 ∧ u.1 ≠ 0) (fun C u t => (fun (C : String) (u : Nat × zS) (H : Heap) => C = zcl u.1 ∧ zQ E B u.2 H) C u t.heap ∧ zK E t) (zA B 80)) 8 48 (zA B 80) := by
  refine zox_v (P' := fun (u : zS) H => zQ E B u H) (BX := fun (C : String) (u : Nat × zS) (H : Heap) => C = zcl u.1 ∧ zQ E B u.2 H) hl0 (fun C u H H1 _ hq h => ⟨h.1, zQ_grow hq h.2⟩) (by decide) (Nat.le_of_ble_eq_true rfl) fun p e R s m args below meth c Q ls hR hx hb hml ht hown hK hZ hH hl hend hthr hpas => ?_
  have hS : va_S (zA B 80) s.heap s.heap [] := va_S.rf
  have hown : s.vm.findClass "WholeDesk" = some m.cls := hown
  have hl : lv_has ls 5 [(0, .ref (B)), (1, .int (iZ (a))), (2, .int (iZ (b))), (3, .int (iZ (q))), (4, .int (iZ (t)))] := hl
  obtain ⟨hok, v0, an0, sp0, hZ, hA0, hr⟩ := hZ
  dsimp only at hZ hr
  have fr : ∀ j, j < 22 → v0 j = v0 j := fun j _ => rfl
  refine lv_iload_n hx hb dS_divide_0 rfl (lv_at hl 1 rfl) ?_
  refine zxS_v (P' := fun (u : Unit) H => zD E B v0 (zF E B an0 sp0 ct f st g) H) (BX := fun (C : String) (u : Unit) (H : Heap) => C = "java/lang/IllegalArgumentException" ∧ zD E B v0 (zF E B an0 sp0 ct f st g) H) 1 (As := [.int (iZ (a))]) (rest := []) ⟨hx, hb, hml, hown, ht⟩ (mS_testRegister l hl0 E B v0 (zF E B an0 sp0 ct f st g) (a) (hz_a)) tw_246 tw_244 tw_245 tw_1 qS_testRegister (by rw [hR]; decide) hZ hK hH hl.1 rfl rfl (Nat.le_of_ble_eq_true rfl) dS_divide_1 (by rw [hR]; decide) hS (fun C ce q9 u H locs hp hZ hS hce hcv hcl => hpas C ce q9 _ (1, (rg, ct, f, st, g)) H locs _ _ _ _ (by decide) (⟨Or.inl ⟨rfl, fun h9 => hp (by first | exact h9 | exact h9.1 | exact h9.2.1 | exact h9.2.2.1 | exact h9.2.2.2.1 | exact h9.2.2.2 | exact h9.2.2 | exact h9.2), rfl⟩, by show 1 ≠ 0; decide⟩) (⟨hZ.1, ⟨hok, v0, an0, sp0, hZ.2, hA0, zR_same fr hr⟩⟩) hS hce hcv hcl) (fun u H locs hp hZ _ hS => ?_)
  obtain ⟨na, rfl⟩ : ∃ n : Nat, a = (n : Int) := ⟨a.toNat, by have := hp.1; omega⟩
  have hk_na : rok ↑na := hp
  have h10_na : na < 10 := by have := hp.2; omega
  refine lv_iload_n hx hb dS_divide_4 rfl (lv_at hl 2 rfl) ?_
  refine zxS_v (P' := fun (u : Unit) H => zD E B v0 (zF E B an0 sp0 ct f st g) H) (BX := fun (C : String) (u : Unit) (H : Heap) => C = "java/lang/IllegalArgumentException" ∧ zD E B v0 (zF E B an0 sp0 ct f st g) H) 1 (As := [.int (iZ (b))]) (rest := []) ⟨hx, hb, hml, hown, ht⟩ (mS_testRegister l hl0 E B v0 (zF E B an0 sp0 ct f st g) (b) (hz_b)) tw_246 tw_244 tw_245 tw_1 qS_testRegister (by rw [hR]; decide) hZ hK hH hl.1 rfl rfl (Nat.le_of_ble_eq_true rfl) dS_divide_5 (by rw [hR]; decide) hS (fun C ce q9 u H locs hp hZ hS hce hcv hcl => hpas C ce q9 _ (1, (rg, ct, f, st, g)) H locs _ _ _ _ (by decide) (⟨Or.inl ⟨rfl, fun h9 => hp (by first | exact h9 | exact h9.1 | exact h9.2.1 | exact h9.2.2.1 | exact h9.2.2.2.1 | exact h9.2.2.2 | exact h9.2.2 | exact h9.2), rfl⟩, by show 1 ≠ 0; decide⟩) (⟨hZ.1, ⟨hok, v0, an0, sp0, hZ.2, hA0, zR_same fr hr⟩⟩) hS hce hcv hcl) (fun u H locs hp hZ _ hS => ?_)
  obtain ⟨nb, rfl⟩ : ∃ n : Nat, b = (n : Int) := ⟨b.toNat, by have := hp.1; omega⟩
  have hk_nb : rok ↑nb := hp
  have h10_nb : nb < 10 := by have := hp.2; omega
  refine lv_iload_n hx hb dS_divide_8 rfl (lv_at hl 3 rfl) ?_
  refine zxS_v (P' := fun (u : Unit) H => zD E B v0 (zF E B an0 sp0 ct f st g) H) (BX := fun (C : String) (u : Unit) (H : Heap) => C = "java/lang/IllegalArgumentException" ∧ zD E B v0 (zF E B an0 sp0 ct f st g) H) 1 (As := [.int (iZ (q))]) (rest := []) ⟨hx, hb, hml, hown, ht⟩ (mS_testRegister l hl0 E B v0 (zF E B an0 sp0 ct f st g) (q) (hz_q)) tw_246 tw_244 tw_245 tw_1 qS_testRegister (by rw [hR]; decide) hZ hK hH hl.1 rfl rfl (Nat.le_of_ble_eq_true rfl) dS_divide_9 (by rw [hR]; decide) hS (fun C ce q9 u H locs hp hZ hS hce hcv hcl => hpas C ce q9 _ (1, (rg, ct, f, st, g)) H locs _ _ _ _ (by decide) (⟨Or.inl ⟨rfl, fun h9 => hp (by first | exact h9 | exact h9.1 | exact h9.2.1 | exact h9.2.2.1 | exact h9.2.2.2.1 | exact h9.2.2.2 | exact h9.2.2 | exact h9.2), rfl⟩, by show 1 ≠ 0; decide⟩) (⟨hZ.1, ⟨hok, v0, an0, sp0, hZ.2, hA0, zR_same fr hr⟩⟩) hS hce hcv hcl) (fun u H locs hp hZ _ hS => ?_)
  obtain ⟨nq, rfl⟩ : ∃ n : Nat, q = (n : Int) := ⟨q.toNat, by have := hp.1; omega⟩
  have hk_nq : rok ↑nq := hp
  have h10_nq : nq < 10 := by have := hp.2; omega
  refine lv_iload hx hb dS_divide_12 (lv_at hl 4 rfl) ?_
  refine zxS_v (P' := fun (u : Unit) H => zD E B v0 (zF E B an0 sp0 ct f st g) H) (BX := fun (C : String) (u : Unit) (H : Heap) => C = "java/lang/IllegalArgumentException" ∧ zD E B v0 (zF E B an0 sp0 ct f st g) H) 1 (As := [.int (iZ (t))]) (rest := []) ⟨hx, hb, hml, hown, ht⟩ (mS_testRegister l hl0 E B v0 (zF E B an0 sp0 ct f st g) (t) (hz_t)) tw_246 tw_244 tw_245 tw_1 qS_testRegister (by rw [hR]; decide) hZ hK hH hl.1 rfl rfl (Nat.le_of_ble_eq_true rfl) dS_divide_14 (by rw [hR]; decide) hS (fun C ce q9 u H locs hp hZ hS hce hcv hcl => hpas C ce q9 _ (1, (rg, ct, f, st, g)) H locs _ _ _ _ (by decide) (⟨Or.inl ⟨rfl, fun h9 => hp (by first | exact h9 | exact h9.1 | exact h9.2.1 | exact h9.2.2.1 | exact h9.2.2.2.1 | exact h9.2.2.2 | exact h9.2.2 | exact h9.2), rfl⟩, by show 1 ≠ 0; decide⟩) (⟨hZ.1, ⟨hok, v0, an0, sp0, hZ.2, hA0, zR_same fr hr⟩⟩) hS hce hcv hcl) (fun u H locs hp hZ _ hS => ?_)
  obtain ⟨nt, rfl⟩ : ∃ n : Nat, t = (n : Int) := ⟨t.toNat, by have := hp.1; omega⟩
  have hk_nt : rok ↑nt := hp
  have h10_nt : nt < 10 := by have := hp.2; omega
  refine lv_aload_n hx hb dS_divide_17 rfl (lv_at hl 0 rfl) ?_
  refine zs_registers hx hb ht hown hK hZ tw_127 dS_divide_18 ?_
  refine lv_iload_n hx hb dS_divide_21 rfl (lv_at hl 2 rfl) ?_
  refine zs_reg (i := nb) hx hb hK hZ h10_nb dS_divide_22 ?_
  have hN_nb : zN (v0 (2 + 2 * nb)) (rg nb) := zR_same fr hr nb h10_nb
  have hX_nb : zX (rg nb) := hok.1 nb h10_nb
  refine zw_count (d := (v0 (2 + 2 * nb)).1) (n := (v0 (2 + 2 * nb)).2.1) (b := (v0 (2 + 2 * nb)).2.2) hx hb ht hown hK hZ (lp_reg h10_nb) rfl tw_37 dS_divide_23 ?_
  refine zr_if_ne (tgt := 39) hx hb (by unfold zi; have := (hZ.2 _ (lp_reg h10_nb)).2; omega) dS_divide_26 (by decide) (fun c_1 => ?_) (fun c_1 => ?_)
  · have hy0 : rg nb ≠ 0 := fun h9 => absurd ((zN_0 hN_nb).mpr h9) (by omega)
    refine lv_aload_n hx hb dS_divide_39 rfl (lv_at hl 0 rfl) ?_
    refine zs_reckoner hx hb ht hown hK hZ tw_128 dS_divide_40 ?_
    refine lv_aload_n hx hb dS_divide_43 rfl (lv_at hl 0 rfl) ?_
    refine zs_registers hx hb ht hown hK hZ tw_127 dS_divide_44 ?_
    refine lv_iload_n hx hb dS_divide_47 rfl (lv_at hl 1 rfl) ?_
    refine zs_reg (i := na) hx hb hK hZ h10_na dS_divide_48 ?_
    have hN_na : zN (v0 (2 + 2 * na)) (rg na) := zR_same fr hr na h10_na
    have hX_na : zX (rg na) := hok.1 na h10_na
    refine lv_aload_n hx hb dS_divide_49 rfl (lv_at hl 0 rfl) ?_
    refine zs_registers hx hb ht hown hK hZ tw_127 dS_divide_50 ?_
    refine lv_iload_n hx hb dS_divide_53 rfl (lv_at hl 2 rfl) ?_
    refine zs_reg (i := nb) hx hb hK hZ h10_nb dS_divide_54 ?_
    refine zcV_v  2 (As := [.ref (B + (2 + 2 * na)), .ref (B + (2 + 2 * nb))]) (rest := []) rfl ⟨hx, hb, hml, hown, ht⟩ (mK_separate l E B v0 (zd E B (zg E B (zs E B) st g) ct f) an0 sp0 hA0 (2 + 2 * na) (lp_reg h10_na) (rg na) hN_na (2 + 2 * nb) (lp_reg h10_nb) (rg nb) hN_nb ⟨by omega, by omega⟩ ⟨by omega, by omega⟩ hy0 (zX_sm hX_na)) tw_411 tw_408 tw_409 tw_410 tw_3 qK_separate (by rw [hR]; decide) (zK_recv hK hZ) hZ hK hl.1 rfl rfl (Nat.le_of_ble_eq_true rfl) dS_divide_55 (by rw [hR]; decide) hS (fun u H locs hp hZ _ hS => ?_)
    obtain ⟨v, a9, s9, o9⟩ := u
    obtain ⟨ho, ⟨e8, e9⟩, hN8, hN9⟩ := hp
    dsimp only at *
    have fr : ∀ j, j < 22 → v j = v0 j := fun j hj => (ho j (by omega) (by omega)).trans (fr j hj)
    rw [e8, e9] at hZ
    have hZ : zD E B v (zF E B an0 sp0 ct f st g) H := by exact hZ
    refine lv_aload_n hx hb dS_divide_58 rfl (lv_at hl 0 rfl) ?_
    refine lv_aload_n hx hb dS_divide_59 rfl (lv_at hl 0 rfl) ?_
    refine zs_reckoner hx hb ht hown hK hZ tw_128 dS_divide_60 ?_
    refine zk_quotient (o := (zd E B (zg E B (zs E B) st g) ct f)) (an := an0) (sp := sp0) hx hb ht hown hK hZ tw_60 dS_divide_63 ?_
    refine lv_iload_n hx hb dS_divide_66 rfl (lv_at hl 3 rfl) ?_
    refine zxV_v (P' := fun (u : Nat → zV) H => zD E B u (zF E B an0 sp0 ct f st g) H) (BX := fun (C : String) (u : Unit) (H : Heap) => C = "java/lang/ArithmeticException" ∧ zD E B v (zF E B an0 sp0 ct f st g) H) 2 (As := [.ref (B + 23), .int (iZ (↑nq))]) (rest := []) rfl ⟨hx, hb, hml, hown, ht⟩ (mS_keep l hl0 E B v an0 sp0 ct f st g 23 (by decide) ((rg na).tdiv (rg nb)) hN8 nq h10_nq (by omega)) tw_314 tw_311 tw_313 tp_4 tw_1 qS_keep (by rw [hR]; decide) (zs_recv hK hZ) hZ hK hH hl.1 rfl rfl (Nat.le_of_ble_eq_true rfl) dS_divide_67 (by rw [hR]; decide) hS (fun C ce q9 u H locs hp hZ hS hce hcv hcl => hpas C ce q9 _ (3, (rg, ct, f, st, g)) H locs _ _ _ _ (by decide) (absurd (zX_tdiv (hok.1 na h10_na)) hp) (⟨hZ.1, ⟨hok, v, an0, sp0, hZ.2, hA0, zR_same fr hr⟩⟩) hS hce hcv hcl) (fun v H locs hp hZ _ hS => ?_)
    obtain ⟨ho, hNk, hXk⟩ := hp
    have hQ9 : zR10 v (va_up rg nq ((rg na).tdiv (rg nb))) := zR_up fr hr ho hNk
    have hok9 : okS (va_up rg nq ((rg na).tdiv (rg nb)), ct, f, st, g) := okS_up hok hXk
    have hN9 : zN (v 25) ((rg na).tmod (rg nb)) := by rw [ho 25 (by omega)]; exact hN9
    refine lv_aload_n hx hb dS_divide_70 rfl (lv_at hl 0 rfl) ?_
    refine lv_aload_n hx hb dS_divide_71 rfl (lv_at hl 0 rfl) ?_
    refine zs_reckoner hx hb ht hown hK hZ tw_128 dS_divide_72 ?_
    refine zk_rest (o := (zd E B (zg E B (zs E B) st g) ct f)) (an := an0) (sp := sp0) hx hb ht hown hK hZ tw_62 dS_divide_75 ?_
    refine lv_iload hx hb dS_divide_78 (lv_at hl 4 rfl) ?_
    refine zxV_v (P' := fun (u : Nat → zV) H => zD E B u (zF E B an0 sp0 ct f st g) H) (BX := fun (C : String) (u : Unit) (H : Heap) => C = "java/lang/ArithmeticException" ∧ zD E B v (zF E B an0 sp0 ct f st g) H) 2 (As := [.ref (B + 25), .int (iZ (↑nt))]) (rest := []) rfl ⟨hx, hb, hml, hown, ht⟩ (mS_keep l hl0 E B v an0 sp0 ct f st g 25 (by decide) ((rg na).tmod (rg nb)) hN9 nt h10_nt (by omega)) tw_314 tw_311 tw_313 tp_4 tw_1 qS_keep (by rw [hR]; decide) (zs_recv hK hZ) hZ hK hH hl.1 rfl rfl (Nat.le_of_ble_eq_true rfl) dS_divide_80 (by rw [hR]; decide) hS (fun C ce q9 u H locs hp hZ hS hce hcv hcl => hpas C ce q9 _ (3, (rg, ct, f, st, g)) H locs _ _ _ _ (by decide) (absurd (zX_tmodS (hok.1 na h10_na)) hp) (⟨hZ.1, absurd (zX_tmodS (hok.1 na h10_na)) hp⟩) hS hce hcv hcl) (fun v H locs hp hZ _ hS => ?_)
    obtain ⟨ho, hNk, hXk⟩ := hp
    have hok9 := okS_up (to := nt) hok9 hXk
    have hQ9 := zR_up (fun _ _ => rfl) hQ9 ho hNk
    exact hend 83 (va_up (va_up rg nq ((rg na).tdiv (rg nb))) nt ((rg na).tmod (rg nb)), ct, f, st, g) _ _ _ _ _ (by decide) dS_divide_83 (Or.inr (Or.inr (Or.inr ⟨rfl, by repeat (first | assumption | constructor), hy0, rfl⟩))) (⟨hok9, v, an0, sp0, hZ, hA0, hQ9⟩) hS
  · exact hthr _ _ _ _ _ _ 29 (3, (rg, ct, f, st, g)) _ _ _ _ _ _ zs_S_divide_29 hown dS_divide_29 dS_divide_32 dS_divide_33 dS_divide_35 dS_divide_38 hl.1 (by rw [hR]; decide) (by decide) (⟨Or.inr (Or.inr (Or.inl ⟨rfl, by repeat (first | assumption | constructor), (zN_0 hN_nb).mp (by omega), rfl⟩)), by show 3 ≠ 0; decide⟩) (⟨rfl, ⟨hok, v0, an0, sp0, hZ, hA0, zR_same fr hr⟩⟩) hS

set_option maxHeartbeats 4000000 in
set_option maxRecDepth 100000 in
theorem mS_bit (l : Launch) (hl0 : l.stackTraces = false) (E : zE) (B : Nat) (rg : Nat → Int) (ct : Nat) (f : Nat → Nat) (st : Nat) (g : Nat → Nat) (a : Int) (hz_a : zi a) (i : Int) (hz_i : zi i) :
    vx_Met l yS_bit (zws yS_bit cS_bit 3 (some .int)) { frames := 7, cells := 8, slots := 48, locals := 140 } (zPx E (zA B 80) (zQ E B (rg, ct, f, st, g)) [.ref (B), .int (iZ (a)), .int (iZ (i))]) (va_Qi (fun (r : Int32) (u : zS) => SP (rok a ∧ 0 ≤ i) (False) (False) (fun τ => τ = (rg, ct, f, st, g)) (rg, ct, f, st, g) 0 u ∧ r = iZ (bZ (tbz (rg a.toNat) i.toNat))) (fun u t => zQ E B u t.heap ∧ zK E t) (zA B 80)) (vx_X (fun u : Nat × zS => SP (rok a ∧ 0 ≤ i) (False) (False) (fun τ => τ = (rg, ct, f, st, g)) (rg, ct, f, st, g) u.1 u.2 ∧ u.1 ≠ 0) (fun C u t => (fun (C : String) (u : Nat × zS) (H : Heap) => C = zcl u.1 ∧ zQ E B u.2 H) C u t.heap ∧ zK E t) (zA B 80)) 8 48 (zA B 80) := by
  refine zox_i (P' := fun (u : zS) H => zQ E B u H) (BX := fun (C : String) (u : Nat × zS) (H : Heap) => C = zcl u.1 ∧ zQ E B u.2 H) hl0 (fun C u H H1 _ hq h => ⟨h.1, zQ_grow hq h.2⟩) (by decide) (Nat.le_of_ble_eq_true rfl) fun p e R s m args below meth c Q ls hR hx hb hml ht hown hK hZ hH hl hend hthr hpas => ?_
  have hS : va_S (zA B 80) s.heap s.heap [] := va_S.rf
  have hown : s.vm.findClass "WholeDesk" = some m.cls := hown
  have hl : lv_has ls 3 [(0, .ref (B)), (1, .int (iZ (a))), (2, .int (iZ (i)))] := hl
  obtain ⟨hok, v0, an0, sp0, hZ, hA0, hr⟩ := hZ
  dsimp only at hZ hr
  have fr : ∀ j, j < 22 → v0 j = v0 j := fun j _ => rfl
  refine lv_iload_n hx hb dS_bit_0 rfl (lv_at hl 1 rfl) ?_
  refine zxS_v (P' := fun (u : Unit) H => zD E B v0 (zF E B an0 sp0 ct f st g) H) (BX := fun (C : String) (u : Unit) (H : Heap) => C = "java/lang/IllegalArgumentException" ∧ zD E B v0 (zF E B an0 sp0 ct f st g) H) 1 (As := [.int (iZ (a))]) (rest := []) ⟨hx, hb, hml, hown, ht⟩ (mS_testRegister l hl0 E B v0 (zF E B an0 sp0 ct f st g) (a) (hz_a)) tw_246 tw_244 tw_245 tw_1 qS_testRegister (by rw [hR]; decide) hZ hK hH hl.1 rfl rfl (Nat.le_of_ble_eq_true rfl) dS_bit_1 (by rw [hR]; decide) hS (fun C ce q9 u H locs hp hZ hS hce hcv hcl => hpas C ce q9 _ (1, (rg, ct, f, st, g)) H locs _ _ _ _ (by decide) (⟨Or.inl ⟨rfl, fun h9 => hp (by first | exact h9 | exact h9.1 | exact h9.2.1 | exact h9.2.2.1 | exact h9.2.2.2.1 | exact h9.2.2.2 | exact h9.2.2 | exact h9.2), rfl⟩, by show 1 ≠ 0; decide⟩) (⟨hZ.1, ⟨hok, v0, an0, sp0, hZ.2, hA0, zR_same fr hr⟩⟩) hS hce hcv hcl) (fun u H locs hp hZ _ hS => ?_)
  obtain ⟨na, rfl⟩ : ∃ n : Nat, a = (n : Int) := ⟨a.toNat, by have := hp.1; omega⟩
  have hk_na : rok ↑na := hp
  have h10_na : na < 10 := by have := hp.2; omega
  refine lv_iload_n hx hb dS_bit_4 rfl (lv_at hl 2 rfl) ?_
  refine zr_if_ge (tgt := 18) hx hb (hz_i) dS_bit_5 (by decide) (fun c_1 => ?_) (fun c_1 => ?_)
  · have h0i : 0 ≤ i := by omega
    obtain ⟨ni, rfl⟩ : ∃ n : Nat, i = (n : Int) := ⟨i.toNat, by omega⟩
    have hi31 : ni < 2147483648 := by unfold zi at hz_i; omega
    refine lv_aload_n hx hb dS_bit_18 rfl (lv_at hl 0 rfl) ?_
    refine zs_registers hx hb ht hown hK hZ tw_127 dS_bit_19 ?_
    refine lv_iload_n hx hb dS_bit_22 rfl (lv_at hl 1 rfl) ?_
    refine zs_reg (i := na) hx hb hK hZ h10_na dS_bit_23 ?_
    have hN_na : zN (v0 (2 + 2 * na)) (rg na) := zR_same fr hr na h10_na
    have hX_na : zX (rg na) := hok.1 na h10_na
    refine lv_iload_n hx hb dS_bit_24 rfl (lv_at hl 2 rfl) ?_
    refine zcV_i  1 (As := [.int (iZ (↑ni))]) (rest := []) rfl ⟨hx, hb, hml, hown, ht⟩ (mW_bitAt l E B v0 (zF E B an0 sp0 ct f st g) (2 + 2 * na) (lp_reg h10_na) (v0 (2 + 2 * na)).1 (v0 (2 + 2 * na)).2.1 (v0 (2 + 2 * na)).2.2 rfl (rg na) hN_na ni hi31) tw_610 tw_607 tw_608 tw_609 tw_2 qW_bitAt (by rw [hR]; decide) (zW_recv hK hZ (lp_reg h10_na)) hZ hK hl.1 rfl rfl (Nat.le_of_ble_eq_true rfl) dS_bit_25 (by rw [hR]; decide) hS (fun r9 v1 H locs hp hZ _ hS => ?_)
    obtain ⟨hv1, hr1⟩ := hp
    rw [hv1] at hZ
    subst hr1
    clear hv1 v1
    exact hend 28 _ (rg, ct, f, st, g) _ _ _ _ _ (by decide) dS_bit_28 (⟨Or.inr (Or.inr (Or.inr ⟨rfl, by repeat (first | assumption | constructor), rfl⟩)), rfl⟩) (⟨hok, v0, an0, sp0, hZ, hA0, zR_same fr hr⟩) hS
  · exact hthr _ _ _ _ _ _ 8 (1, (rg, ct, f, st, g)) _ _ _ _ _ _ zs_S_bit_8 hown dS_bit_8 dS_bit_11 dS_bit_12 dS_bit_14 dS_bit_17 hl.1 (by rw [hR]; decide) (by decide) (⟨Or.inl ⟨rfl, fun h9 => absurd h9.2 (by omega), rfl⟩, by show 1 ≠ 0; decide⟩) (⟨rfl, ⟨hok, v0, an0, sp0, hZ, hA0, zR_same fr hr⟩⟩) hS

set_option maxHeartbeats 4000000 in
set_option maxRecDepth 100000 in
theorem mS_compare (l : Launch) (hl0 : l.stackTraces = false) (E : zE) (B : Nat) (rg : Nat → Int) (ct : Nat) (f : Nat → Nat) (st : Nat) (g : Nat → Nat) (a : Int) (hz_a : zi a) (b : Int) (hz_b : zi b) :
    vx_Met l yS_compare (zws yS_compare cS_compare 3 (some .int)) { frames := 7, cells := 8, slots := 48, locals := 140 } (zPx E (zA B 80) (zQ E B (rg, ct, f, st, g)) [.ref (B), .int (iZ (a)), .int (iZ (b))]) (va_Qi (fun (r : Int32) (u : zS) => SP (rok a ∧ rok b) (False) (False) (fun τ => τ = (rg, ct, f, st, g)) (rg, ct, f, st, g) 0 u ∧ r = iZ (cmpZ (rg a.toNat) (rg b.toNat))) (fun u t => zQ E B u t.heap ∧ zK E t) (zA B 80)) (vx_X (fun u : Nat × zS => SP (rok a ∧ rok b) (False) (False) (fun τ => τ = (rg, ct, f, st, g)) (rg, ct, f, st, g) u.1 u.2 ∧ u.1 ≠ 0) (fun C u t => (fun (C : String) (u : Nat × zS) (H : Heap) => C = zcl u.1 ∧ zQ E B u.2 H) C u t.heap ∧ zK E t) (zA B 80)) 8 48 (zA B 80) := by
  refine zox_i (P' := fun (u : zS) H => zQ E B u H) (BX := fun (C : String) (u : Nat × zS) (H : Heap) => C = zcl u.1 ∧ zQ E B u.2 H) hl0 (fun C u H H1 _ hq h => ⟨h.1, zQ_grow hq h.2⟩) (by decide) (Nat.le_of_ble_eq_true rfl) fun p e R s m args below meth c Q ls hR hx hb hml ht hown hK hZ hH hl hend hthr hpas => ?_
  have hS : va_S (zA B 80) s.heap s.heap [] := va_S.rf
  have hown : s.vm.findClass "WholeDesk" = some m.cls := hown
  have hl : lv_has ls 3 [(0, .ref (B)), (1, .int (iZ (a))), (2, .int (iZ (b)))] := hl
  obtain ⟨hok, v0, an0, sp0, hZ, hA0, hr⟩ := hZ
  dsimp only at hZ hr
  have fr : ∀ j, j < 22 → v0 j = v0 j := fun j _ => rfl
  refine lv_iload_n hx hb dS_compare_0 rfl (lv_at hl 1 rfl) ?_
  refine zxS_v (P' := fun (u : Unit) H => zD E B v0 (zF E B an0 sp0 ct f st g) H) (BX := fun (C : String) (u : Unit) (H : Heap) => C = "java/lang/IllegalArgumentException" ∧ zD E B v0 (zF E B an0 sp0 ct f st g) H) 1 (As := [.int (iZ (a))]) (rest := []) ⟨hx, hb, hml, hown, ht⟩ (mS_testRegister l hl0 E B v0 (zF E B an0 sp0 ct f st g) (a) (hz_a)) tw_246 tw_244 tw_245 tw_1 qS_testRegister (by rw [hR]; decide) hZ hK hH hl.1 rfl rfl (Nat.le_of_ble_eq_true rfl) dS_compare_1 (by rw [hR]; decide) hS (fun C ce q9 u H locs hp hZ hS hce hcv hcl => hpas C ce q9 _ (1, (rg, ct, f, st, g)) H locs _ _ _ _ (by decide) (⟨Or.inl ⟨rfl, fun h9 => hp (by first | exact h9 | exact h9.1 | exact h9.2.1 | exact h9.2.2.1 | exact h9.2.2.2.1 | exact h9.2.2.2 | exact h9.2.2 | exact h9.2), rfl⟩, by show 1 ≠ 0; decide⟩) (⟨hZ.1, ⟨hok, v0, an0, sp0, hZ.2, hA0, zR_same fr hr⟩⟩) hS hce hcv hcl) (fun u H locs hp hZ _ hS => ?_)
  obtain ⟨na, rfl⟩ : ∃ n : Nat, a = (n : Int) := ⟨a.toNat, by have := hp.1; omega⟩
  have hk_na : rok ↑na := hp
  have h10_na : na < 10 := by have := hp.2; omega
  refine lv_iload_n hx hb dS_compare_4 rfl (lv_at hl 2 rfl) ?_
  refine zxS_v (P' := fun (u : Unit) H => zD E B v0 (zF E B an0 sp0 ct f st g) H) (BX := fun (C : String) (u : Unit) (H : Heap) => C = "java/lang/IllegalArgumentException" ∧ zD E B v0 (zF E B an0 sp0 ct f st g) H) 1 (As := [.int (iZ (b))]) (rest := []) ⟨hx, hb, hml, hown, ht⟩ (mS_testRegister l hl0 E B v0 (zF E B an0 sp0 ct f st g) (b) (hz_b)) tw_246 tw_244 tw_245 tw_1 qS_testRegister (by rw [hR]; decide) hZ hK hH hl.1 rfl rfl (Nat.le_of_ble_eq_true rfl) dS_compare_5 (by rw [hR]; decide) hS (fun C ce q9 u H locs hp hZ hS hce hcv hcl => hpas C ce q9 _ (1, (rg, ct, f, st, g)) H locs _ _ _ _ (by decide) (⟨Or.inl ⟨rfl, fun h9 => hp (by first | exact h9 | exact h9.1 | exact h9.2.1 | exact h9.2.2.1 | exact h9.2.2.2.1 | exact h9.2.2.2 | exact h9.2.2 | exact h9.2), rfl⟩, by show 1 ≠ 0; decide⟩) (⟨hZ.1, ⟨hok, v0, an0, sp0, hZ.2, hA0, zR_same fr hr⟩⟩) hS hce hcv hcl) (fun u H locs hp hZ _ hS => ?_)
  obtain ⟨nb, rfl⟩ : ∃ n : Nat, b = (n : Int) := ⟨b.toNat, by have := hp.1; omega⟩
  have hk_nb : rok ↑nb := hp
  have h10_nb : nb < 10 := by have := hp.2; omega
  refine lv_aload_n hx hb dS_compare_8 rfl (lv_at hl 0 rfl) ?_
  refine zs_registers hx hb ht hown hK hZ tw_127 dS_compare_9 ?_
  refine lv_iload_n hx hb dS_compare_12 rfl (lv_at hl 1 rfl) ?_
  refine zs_reg (i := na) hx hb hK hZ h10_na dS_compare_13 ?_
  have hN_na : zN (v0 (2 + 2 * na)) (rg na) := zR_same fr hr na h10_na
  have hX_na : zX (rg na) := hok.1 na h10_na
  refine lv_aload_n hx hb dS_compare_14 rfl (lv_at hl 0 rfl) ?_
  refine zs_registers hx hb ht hown hK hZ tw_127 dS_compare_15 ?_
  refine lv_iload_n hx hb dS_compare_18 rfl (lv_at hl 2 rfl) ?_
  refine zs_reg (i := nb) hx hb hK hZ h10_nb dS_compare_19 ?_
  have hN_nb : zN (v0 (2 + 2 * nb)) (rg nb) := zR_same fr hr nb h10_nb
  have hX_nb : zX (rg nb) := hok.1 nb h10_nb
  refine zcV_i  1 (As := [.ref (B + (2 + 2 * nb))]) (rest := []) rfl ⟨hx, hb, hml, hown, ht⟩ (mW_against l E B v0 (zF E B an0 sp0 ct f st g) (2 + 2 * na) (lp_reg h10_na) (v0 (2 + 2 * na)).1 (v0 (2 + 2 * na)).2.1 (v0 (2 + 2 * na)).2.2 rfl (2 + 2 * nb) (lp_reg h10_nb) (v0 (2 + 2 * nb)).1 (v0 (2 + 2 * nb)).2.1 (v0 (2 + 2 * nb)).2.2 rfl (rg na) (rg nb) hN_na hN_nb) tw_622 tw_619 tw_620 tw_621 tw_2 qW_against (by rw [hR]; decide) (zW_recv hK hZ (lp_reg h10_na)) hZ hK hl.1 rfl rfl (Nat.le_of_ble_eq_true rfl) dS_compare_20 (by rw [hR]; decide) hS (fun r9 v1 H locs hp hZ _ hS => ?_)
  obtain ⟨hv1, hr1⟩ := hp
  rw [hv1] at hZ
  subst hr1
  clear hv1 v1
  exact hend 23 _ (rg, ct, f, st, g) _ _ _ _ _ (by decide) dS_compare_23 (⟨Or.inr (Or.inr (Or.inr ⟨rfl, by repeat (first | assumption | constructor), rfl⟩)), rfl⟩) (⟨hok, v0, an0, sp0, hZ, hA0, zR_same fr hr⟩) hS
