set_option maxHeartbeats 4000000 in
set_option maxRecDepth 100000 in
theorem mK_product (l : Launch) (E : zE) (B : Nat) (v0 : Nat → zV) (o : Nat → va_E) (an0 sp0 : Nat) (hA0 : (an0 = 27 ∧ sp0 = 29) ∨ (an0 = 29 ∧ sp0 = 27)) (a : Nat) (hla : lp a = true) (x : Int) (hVx : zN (v0 a) x) (b : Nat) (hlb : lp b = true) (y : Int) (hVy : zN (v0 b) y) (ha : a ≠ an0) (hb9 : b ≠ an0) (hxy : smm x y) :
    Met l yK_product (zws yK_product cK_product 3 (some (.object "WholeDesk$Whole"))) { frames := 2, cells := 0, slots := 0, locals := 64 } (zPc E (zD E B v0 (zo E B o an0 sp0)) [.ref (B + 22), .ref (B + a), .ref (B + b)]) (va_Qr (fun u : (Nat → zV) × Nat × Nat × Nat => (∀ j, j ≠ an0 → u.1 j = v0 j) ∧ u.2.1 = an0 ∧ u.2.2.1 = sp0 ∧ u.2.2.2 = an0 ∧ zN (u.1 an0) (x * y)) (fun (u : (Nat → zV) × Nat × Nat × Nat) a t => (a = B + u.2.2.2 ∧ zD E B u.1 (zo E B o u.2.1 u.2.2.1) t.heap) ∧ zK E t) (zA B 80)) 0 0 (zA B 80) := by
  refine zof_r (P' := fun (u : (Nat → zV) × Nat × Nat × Nat) a H => a = B + u.2.2.2 ∧ zD E B u.1 (zo E B o u.2.1 u.2.2.1) H) (by decide) (Nat.le_of_ble_eq_true rfl) fun p e R s m args below meth c Q ls hR hx hb hml ht hown hK hZ hl hend => ?_
  have hS : va_S (zA B 80) s.heap s.heap [] := va_S.rf
  have hown : s.vm.findClass "WholeDesk$Reckoner" = some m.cls := hown
  have hl : lv_has ls 3 [(0, .ref (B + 22)), (1, .ref (B + a)), (2, .ref (B + b))] := hl
  have hlan : lp an0 = true := by rw [lp_iff]; omega
  have hlsp : lp sp0 = true := by rw [lp_iff]; omega
  have ne_0_1 : an0 ≠ a := by omega
  have ne_0_2 : an0 ≠ b := by omega
  have ne_1_0 : a ≠ an0 := by omega
  have ne_2_0 : b ≠ an0 := by omega
  have fr : ∀ j, j ≠ an0 → v0 j = v0 j := fun j _ => rfl
  refine lv_aload_n hx hb dK_product_0 rfl (lv_at hl 0 rfl) ?_
  refine zk_answer hx hb ht hown hK hZ tw_63 dK_product_1 ?_
  refine lv_aload_n hx hb dK_product_4 rfl (lv_at hl 1 rfl) ?_
  refine lv_aload_n hx hb dK_product_5 rfl (lv_at hl 2 rfl) ?_
  refine zcV_v 2 (As := [.ref (B + a), .ref (B + b)]) (rest := []) rfl ⟨hx, hb, hml, hown, ht⟩ (mW_becomeProduct l E B v0 (zo E B o an0 sp0) an0 hlan (v0 an0).1 (v0 an0).2.1 (v0 an0).2.2 rfl a hla (v0 a).1 (v0 a).2.1 (v0 a).2.2 rfl b hlb (v0 b).1 (v0 b).2.1 (v0 b).2.2 rfl ne_1_0 ne_2_0 (zN_mulroom (hZ.2 a hla).1 (hZ.2 b hlb).1 (hZ.2 a hla).2 (hZ.2 b hlb).2 hVx hVy (hxy))) tw_399 tw_396 tw_397 tw_398 tw_2 qW_becomeProduct (by rw [hR]; decide) (zW_recv hK hZ hlan) hZ hK hl.1 rfl rfl (Nat.le_of_ble_eq_true rfl) dK_product_6 ⟨Nat.zero_le _, Nat.zero_le _⟩ hS (fun v H locs hp hZ _ hS => ?_)
  obtain ⟨ho, hN9⟩ := hp
  rw [zN_mul hVx hVy] at hN9
  have hVx : zN (v a) (x) := by rw [ho _ ne_1_0]; exact hVx
  have hVy : zN (v b) (y) := by rw [ho _ ne_2_0]; exact hVy
  have fr : ∀ j, j ≠ an0 → v j = v0 j := fun j h0 => (ho j h0).trans (fr j h0)
  have hNan : zN (v an0) ((x) * (y)) := hN9
  refine lv_aload_n hx hb dK_product_9 rfl (lv_at hl 0 rfl) ?_
  refine zk_answer hx hb ht hown hK hZ tw_63 dK_product_10 ?_
  exact hend 13 (v, an0, sp0, an0) _ _ _ _ dK_product_13 (⟨fr, rfl, rfl, rfl, hNan⟩) ⟨rfl, hZ⟩ hS

theorem tmod_res {x m : Int} (hm : 0 < m) (h : x.tmod m < 0) : ((m.natAbs : Nat) : Int) - (((x.tmod m).natAbs : Nat) : Int) = x % m := by
  have h1 := Int.emod_nonneg x (show m ≠ 0 by omega)
  have h2 := Int.emod_lt_of_pos x hm
  have h3 : x = m * x.tdiv m + x.tmod m := (Int.mul_tdiv_add_tmod x m).symm
  have h4 : x = m * (x / m) + x % m := (Int.mul_ediv_add_emod x m).symm
  have h5 : -m < x.tmod m := by
    have := Int.natAbs_tmod x m
    have h6 := Nat.mod_lt x.natAbs (show 0 < m.natAbs by omega)
    omega
  have h7 : m * (x / m - x.tdiv m) = x.tmod m - x % m := by rw [Int.mul_sub]; omega
  have h8 : x / m - x.tdiv m = -1 := by
    rcases Int.lt_trichotomy (x / m - x.tdiv m) (-1) with h9 | h9 | h9
    · have := Int.mul_le_mul_of_nonneg_left (show x / m - x.tdiv m ≤ -2 by omega) (show 0 ≤ m by omega)
      omega
    · exact h9
    · have := Int.mul_le_mul_of_nonneg_left (show 0 ≤ x / m - x.tdiv m by omega) (show 0 ≤ m by omega)
      omega
  rw [h8] at h7
  omega
theorem tmod_res0 {x m : Int} (hm : 0 < m) (h : ¬ x.tmod m < 0) : x.tmod m = x % m := by
  by_cases hx : 0 ≤ x
  · exact Int.tmod_eq_emod_of_nonneg hx
  · have h0 : x.tmod m = 0 := by
      have : x.tmod m ≤ 0 := by
        have h9 := Int.neg_tmod (-x) m
        rw [Int.neg_neg] at h9
        have := Int.tmod_nonneg m (show 0 ≤ -x by omega)
        omega
      omega
    rw [h0]
    exact (Int.emod_eq_zero_of_dvd (Int.dvd_of_tmod_eq_zero h0)).symm
set_option maxHeartbeats 4000000 in
set_option maxRecDepth 100000 in
theorem mK_residue (l : Launch) (E : zE) (B : Nat) (v0 : Nat → zV) (o : Nat → va_E) (an0 sp0 : Nat) (hA0 : (an0 = 27 ∧ sp0 = 29) ∨ (an0 = 29 ∧ sp0 = 27)) (a : Nat) (hla : lp a = true) (x : Int) (hVx : zN (v0 a) x) (b : Nat) (hlb : lp b = true) (y : Int) (hVy : zN (v0 b) y) (ha : a ≠ 23 ∧ a ≠ 25) (hb9 : b ≠ 23 ∧ b ≠ 25) (hy0 : 0 < y) (hxb : sm x) :
    Met l yK_residue (zws yK_residue cK_residue 3 (some (.object "WholeDesk$Whole"))) { frames := 4, cells := 0, slots := 0, locals := 140 } (zPc E (zD E B v0 (zo E B o an0 sp0)) [.ref (B + 22), .ref (B + a), .ref (B + b)]) (va_Qr (fun u : (Nat → zV) × Nat × Nat × Nat => (∀ j, j ≠ 23 → j ≠ 25 → u.1 j = v0 j) ∧ (u.2.1 = an0 ∧ u.2.2.1 = sp0) ∧ u.2.2.2 = 25 ∧ zN (u.1 25) (x % y)) (fun (u : (Nat → zV) × Nat × Nat × Nat) a t => (a = B + u.2.2.2 ∧ zD E B u.1 (zo E B o u.2.1 u.2.2.1) t.heap) ∧ zK E t) (zA B 80)) 0 0 (zA B 80) := by
  refine zof_r (P' := fun (u : (Nat → zV) × Nat × Nat × Nat) a H => a = B + u.2.2.2 ∧ zD E B u.1 (zo E B o u.2.1 u.2.2.1) H) (by decide) (Nat.le_of_ble_eq_true rfl) fun p e R s m args below meth c Q ls hR hx hb hml ht hown hK hZ hl hend => ?_
  have hS : va_S (zA B 80) s.heap s.heap [] := va_S.rf
  have hown : s.vm.findClass "WholeDesk$Reckoner" = some m.cls := hown
  have hl : lv_has ls 3 [(0, .ref (B + 22)), (1, .ref (B + a)), (2, .ref (B + b))] := hl
  have hlan : lp an0 = true := by rw [lp_iff]; omega
  have hlsp : lp sp0 = true := by rw [lp_iff]; omega
  have ne_0_2 : 25 ≠ a := by omega
  have ne_0_3 : 25 ≠ b := by omega
  have ne_1_2 : 23 ≠ a := by omega
  have ne_1_3 : 23 ≠ b := by omega
  have ne_2_0 : a ≠ 25 := by omega
  have ne_2_1 : a ≠ 23 := by omega
  have ne_3_0 : b ≠ 25 := by omega
  have ne_3_1 : b ≠ 23 := by omega
  have fr : ∀ j, j ≠ 23 → j ≠ 25 → v0 j = v0 j := fun j _ _ => rfl
  refine lv_aload_n hx hb dK_residue_0 rfl (lv_at hl 0 rfl) ?_
  refine zk_rest hx hb ht hown hK hZ tw_61 dK_residue_1 ?_
  refine lv_aload_n hx hb dK_residue_4 rfl (lv_at hl 1 rfl) ?_
  refine zcV_v 1 (As := [.ref (B + a)]) (rest := []) rfl ⟨hx, hb, hml, hown, ht⟩ (mW_copy l E B v0 (zo E B o an0 sp0) 25 (by decide) (v0 25).1 (v0 25).2.1 (v0 25).2.2 rfl a hla (v0 a).1 (v0 a).2.1 (v0 a).2.2 rfl ne_2_0) tw_345 tw_368 tw_343 tw_344 tw_2 qW_copy (by rw [hR]; decide) (zW_recv hK hZ (by decide)) hZ hK hl.1 rfl rfl (Nat.le_of_ble_eq_true rfl) dK_residue_5 ⟨Nat.zero_le _, Nat.zero_le _⟩ hS (fun v H locs hp hZ _ hS => ?_)
  obtain ⟨ho, d9, ev9, hd9⟩ := hp
  have hN9 : zN (v 25) (x) := by rw [ev9]; exact zN_copy hVx hd9
  have hVx : zN (v a) (x) := by rw [ho _ ne_2_0]; exact hVx
  have hVy : zN (v b) (y) := by rw [ho _ ne_3_0]; exact hVy
  have fr : ∀ j, j ≠ 23 → j ≠ 25 → v j = v0 j := fun j h0 h1 => (ho j h1).trans (fr j h0 h1)
  have hN25 : zN (v 25) (x) := hN9
  refine lv_aload_n hx hb dK_residue_8 rfl (lv_at hl 0 rfl) ?_
  refine zk_rest hx hb ht hown hK hZ tw_61 dK_residue_9 ?_
  refine lv_aload_n hx hb dK_residue_12 rfl (lv_at hl 2 rfl) ?_
  refine lv_aload_n hx hb dK_residue_13 rfl (lv_at hl 0 rfl) ?_
  refine zk_quotient hx hb ht hown hK hZ tw_59 dK_residue_14 ?_
  refine zcV_v 2 (As := [.ref (B + b), .ref (B + 23)]) (rest := []) rfl ⟨hx, hb, hml, hown, ht⟩ (mW_divideOut l E B v (zo E B o an0 sp0) 25 (by decide) (v 25).1 (v 25).2.1 (v 25).2.2 rfl b hlb (v b).1 (v b).2.1 (v b).2.2 rfl 23 (by decide) (v 23).1 (v 23).2.1 (v 23).2.2 rfl ne_3_0 (by decide) ne_1_3 hN25.1 hN25.2.1 ((zN_len (hZ.2 25 (by decide)).1 hN25).mpr (hxb)) (fun h9 => absurd ((zN_0 hVy).mp h9) (by omega)) hVy.1) tw_415 tw_412 tw_413 tw_414 tw_2 qW_divideOut (by rw [hR]; decide) (zW_recv hK hZ (by decide)) hZ hK hl.1 rfl rfl (Nat.le_of_ble_eq_true rfl) dK_residue_17 ⟨Nat.zero_le _, Nat.zero_le _⟩ hS (fun v H locs hp hZ _ hS => ?_)
  obtain ⟨ho, q9, r9, he9, hr9, hN8, hN9⟩ := hp
  obtain ⟨e8, e9⟩ := zN_div hN25 hVy he9 hr9
  rw [e8] at hN8
  rw [e9, zN_rest hN25] at hN9
  have hVx : zN (v a) (x) := by rw [ho _ ne_2_0 ne_2_1]; exact hVx
  have hVy : zN (v b) (y) := by rw [ho _ ne_3_0 ne_3_1]; exact hVy
  have fr : ∀ j, j ≠ 23 → j ≠ 25 → v j = v0 j := fun j h0 h1 => (ho j h1 h0).trans (fr j h0 h1)
  have hN23 : zN (v 23) ((((x).natAbs / (y).natAbs : Nat) : Int)) := hN8
  have hN25 : zN (v 25) ((x).tmod (y)) := hN9
  refine lv_aload_n hx hb dK_residue_20 rfl (lv_at hl 0 rfl) ?_
  refine zk_rest hx hb ht hown hK hZ tw_61 dK_residue_21 ?_
  refine zw_below (d := (v 25).1) (n := (v 25).2.1) (b := (v 25).2.2) hx hb ht hown hK hZ (by decide) rfl tw_38 dK_residue_24 ?_
  refine zr_if_eq (tgt := 38) hx hb (by have := bZ_01 (v 25).2.2; omega) dK_residue_27 (by decide) (fun c_1 => ?_) (fun c_1 => ?_)
  · have hneg : ¬ x.tmod y < 0 := fun h9 => by have h8 := (zN_neg hN25).mpr h9; have h7 := bZ_t.mpr h8; omega
    refine lv_aload_n hx hb dK_residue_38 rfl (lv_at hl 0 rfl) ?_
    refine zk_rest hx hb ht hown hK hZ tw_61 dK_residue_39 ?_
    exact hend 42 (v, an0, sp0, 25) _ _ _ _ dK_residue_42 (⟨fr, ⟨rfl, rfl⟩, rfl, by rw [← tmod_res0 hy0 hneg]; exact hN25⟩) ⟨rfl, hZ⟩ hS
  · have hneg : x.tmod y < 0 := (zN_neg hN25).mp (bZ_nf.mp (by assumption))
    refine lv_aload_n hx hb dK_residue_30 rfl (lv_at hl 0 rfl) ?_
    refine zk_rest hx hb ht hown hK hZ tw_61 dK_residue_31 ?_
    refine lv_aload_n hx hb dK_residue_34 rfl (lv_at hl 2 rfl) ?_
    refine zcV_v 1 (As := [.ref (B + b)]) (rest := []) rfl ⟨hx, hb, hml, hown, ht⟩ (mW_becomeLackTo l E B v (zo E B o an0 sp0) 25 (by decide) (v 25).1 (v 25).2.1 (v 25).2.2 rfl b hlb (v b).1 (v b).2.1 (v b).2.2 rfl ne_3_0 (by rw [← zN_abs hN25, ← zN_abs hVy]; rw [Int.natAbs_tmod]; exact Nat.le_of_lt (Nat.mod_lt _ (by omega)))) tw_383 tw_380 tw_381 tw_382 tw_2 qW_becomeLackTo (by rw [hR]; decide) (zW_recv hK hZ (by decide)) hZ hK hl.1 rfl rfl (Nat.le_of_ble_eq_true rfl) dK_residue_35 ⟨Nat.zero_le _, Nat.zero_le _⟩ hS (fun v H locs hp hZ _ hS => ?_)
    obtain ⟨ho, hN9⟩ := hp
    rw [← zN_abs hVy, ← zN_abs hN25] at hN9
    have hN23 : zN (v 23) ((((x).natAbs / (y).natAbs : Nat) : Int)) := by rw [ho _ (by decide)]; exact hN23
    have hVx : zN (v a) (x) := by rw [ho _ ne_2_0]; exact hVx
    have hVy : zN (v b) (y) := by rw [ho _ ne_3_0]; exact hVy
    have fr : ∀ j, j ≠ 23 → j ≠ 25 → v j = v0 j := fun j h0 h1 => (ho j h1).trans (fr j h0 h1)
    have hN25 : zN (v 25) ((((y).natAbs : Nat) : Int) - ((((x).tmod (y)).natAbs : Nat) : Int)) := hN9
    refine lv_aload_n hx hb dK_residue_38 rfl (lv_at hl 0 rfl) ?_
    refine zk_rest hx hb ht hown hK hZ tw_61 dK_residue_39 ?_
    exact hend 42 (v, an0, sp0, 25) _ _ _ _ dK_residue_42 (⟨fr, ⟨rfl, rfl⟩, rfl, by rw [← tmod_res hy0 hneg]; exact hN25⟩) ⟨rfl, hZ⟩ hS

set_option maxHeartbeats 4000000 in
set_option maxRecDepth 100000 in
theorem mK_times (l : Launch) (E : zE) (B : Nat) (v0 : Nat → zV) (o : Nat → va_E) (an0 sp0 : Nat) (hA0 : (an0 = 27 ∧ sp0 = 29) ∨ (an0 = 29 ∧ sp0 = 27)) (x : Int) (hNx : zN (v0 an0) x) (b : Nat) (hlb : lp b = true) (y : Int) (hVy : zN (v0 b) y) (hb9 : b ≠ sp0) (hxy : smm x y) :
    Met l yK_times (zws yK_times cK_times 3 none) { frames := 2, cells := 0, slots := 0, locals := 64 } (zPc E (zD E B v0 (zo E B o an0 sp0)) [.ref (B + 22), .ref (B + b)]) (va_Qv (fun u : (Nat → zV) × Nat × Nat × Nat => (∀ j, j ≠ 27 → j ≠ 29 → u.1 j = v0 j) ∧ (u.2.1 = sp0 ∧ u.2.2.1 = an0) ∧ zN (u.1 sp0) (x * y)) (fun (u : (Nat → zV) × Nat × Nat × Nat) t => zD E B u.1 (zo E B o u.2.1 u.2.2.1) t.heap ∧ zK E t) (zA B 80)) 0 0 (zA B 80) := by
  refine zof_v (P' := fun (u : (Nat → zV) × Nat × Nat × Nat) H => zD E B u.1 (zo E B o u.2.1 u.2.2.1) H) (by decide) (Nat.le_of_ble_eq_true rfl) fun p e R s m args below meth c Q ls hR hx hb hml ht hown hK hZ hl hend => ?_
  have hS : va_S (zA B 80) s.heap s.heap [] := va_S.rf
  have hown : s.vm.findClass "WholeDesk$Reckoner" = some m.cls := hown
  have hl : lv_has ls 3 [(0, .ref (B + 22)), (1, .ref (B + b))] := hl
  have hlan : lp an0 = true := by rw [lp_iff]; omega
  have hlsp : lp sp0 = true := by rw [lp_iff]; omega
  have ne_0_1 : an0 ≠ sp0 := by omega
  have ne_1_0 : sp0 ≠ an0 := by omega
  have ne_1_2 : sp0 ≠ b := by omega
  have ne_2_1 : b ≠ sp0 := by omega
  have fn_0 : ∀ j, j ≠ 27 → j ≠ 29 → j ≠ an0 := by omega
  have fn_1 : ∀ j, j ≠ 27 → j ≠ 29 → j ≠ sp0 := by omega
  have fr : ∀ j, j ≠ 27 → j ≠ 29 → v0 j = v0 j := fun j _ _ => rfl
  refine lv_aload_n hx hb dK_times_0 rfl (lv_at hl 0 rfl) ?_
  refine zk_spare hx hb ht hown hK hZ tw_64 dK_times_1 ?_
  refine lv_aload_n hx hb dK_times_4 rfl (lv_at hl 0 rfl) ?_
  refine zk_answer hx hb ht hown hK hZ tw_63 dK_times_5 ?_
  refine lv_aload_n hx hb dK_times_8 rfl (lv_at hl 1 rfl) ?_
  refine zcV_v 2 (As := [.ref (B + an0), .ref (B + b)]) (rest := []) rfl ⟨hx, hb, hml, hown, ht⟩ (mW_becomeProduct l E B v0 (zo E B o an0 sp0) sp0 hlsp (v0 sp0).1 (v0 sp0).2.1 (v0 sp0).2.2 rfl an0 hlan (v0 an0).1 (v0 an0).2.1 (v0 an0).2.2 rfl b hlb (v0 b).1 (v0 b).2.1 (v0 b).2.2 rfl ne_0_1 ne_2_1 (zN_mulroom (hZ.2 an0 hlan).1 (hZ.2 b hlb).1 (hZ.2 an0 hlan).2 (hZ.2 b hlb).2 hNx hVy (hxy))) tw_399 tw_396 tw_397 tw_398 tw_2 qW_becomeProduct (by rw [hR]; decide) (zW_recv hK hZ hlsp) hZ hK hl.1 rfl rfl (Nat.le_of_ble_eq_true rfl) dK_times_9 ⟨Nat.zero_le _, Nat.zero_le _⟩ hS (fun v H locs hp hZ _ hS => ?_)
  obtain ⟨ho, hN9⟩ := hp
  rw [zN_mul hNx hVy] at hN9
  have hNx : zN (v an0) (x) := by rw [ho _ ne_0_1]; exact hNx
  have hVy : zN (v b) (y) := by rw [ho _ ne_2_1]; exact hVy
  have fr : ∀ j, j ≠ 27 → j ≠ 29 → v j = v0 j := fun j h0 h1 => (ho j (fn_1 j h0 h1)).trans (fr j h0 h1)
  have hNsp : zN (v sp0) ((x) * (y)) := hN9
  refine lv_aload_n hx hb dK_times_12 rfl (lv_at hl 0 rfl) ?_
  refine zk_spare hx hb ht hown hK hZ tw_64 dK_times_13 ?_
  refine lv_astore_n (lv' := [(2, .ref (B + sp0)), (0, .ref (B + 22)), (1, .ref (B + b))]) hx hb dK_times_16 rfl hl (by decide) rfl (fun ls hl => ?_)
  refine lv_aload_n hx hb dK_times_17 rfl (lv_at hl 1 rfl) ?_
  refine lv_aload_n hx hb dK_times_18 rfl (lv_at hl 1 rfl) ?_
  refine zk_answer hx hb ht hown hK hZ tw_63 dK_times_19 ?_
  refine zk_put_spare (x := an0) hx hb ht hown hK hZ hS tw_64 dK_times_22 (fun H locs hZ hS => ?_)
  refine lv_aload_n hx hb dK_times_25 rfl (lv_at hl 1 rfl) ?_
  refine lv_aload_n hx hb dK_times_26 rfl (lv_at hl 0 rfl) ?_
  refine zk_put_answer (x := sp0) hx hb ht hown hK hZ hS tw_63 dK_times_27 (fun H locs hZ hS => ?_)
  exact hend 30 (v, sp0, an0, 0) _ _ _ dK_times_30 (⟨fr, ⟨rfl, rfl⟩, hNsp⟩) hZ hS
