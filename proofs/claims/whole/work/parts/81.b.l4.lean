set_option maxHeartbeats 4000000 in
set_option maxRecDepth 100000 in
theorem lc_put {p : Program} {l : Launch} {e : Env} {s : State} {m : MethodId} {below : List Frame} {meth : Method} {c : Code} {b L : Nat} {xs : Nat → Int32} {E : zE} {B : Nat} {Q : State → Prop} {j : Nat} (hl0 : l.stackTraces = false) (C : lwC p s m meth c b L xs E B) (hj : 5 * j + 5 ≤ L) (next : lwN p l e s m below meth c b E B Q j) {σ : zS} {t : Nat} {v : Int64} {H : Heap} {locs : List Loc} {ls : Array Slot} (hw : lwS s b E B j σ t v H locs ls) :
    W p l e room_1 s m #[Value.ref b] below meth c H locs (96 + 8 * j) (18190 + 48 * j) Q (F0 m 293 ls []) := by
  obtain ⟨⟨hx, hb, hret, hml, hown, hts, hX, hbl, hlk, hgv⟩, hL, hK, hH, hN, hB⟩ := C
  obtain ⟨hQ, hM, ho, hS, hl⟩ := hw
  have hown : s.vm.findClass "WholeDeskLaw" = some m.cls := hown
  have ht : ∀ w ∈ zt, w.before #[Value.ref b] s = true := fun w h => hts w (zt_tbl w h)
  have hb : c.code = cL_law := hb
  have hbA : ¬ zGA B b := fun h => by have h9 : B ≤ b := h; omega
  have hL9 : L ≤ 2000000000 := by omega
  have hrm := lw_room hL hj
  obtain ⟨rg, ct, f, st, g⟩ := σ
  obtain ⟨x1, h1⟩ : ∃ x : Int, (xs (5 * j + 1)).toInt = x := ⟨_, rfl⟩
  have z1 : zi x1 := by rw [← h1]; exact zi_toInt _
  obtain ⟨x2, h2⟩ : ∃ x : Int, (xs (5 * j + 2)).toInt = x := ⟨_, rfl⟩
  have z2 : zi x2 := by rw [← h2]; exact zi_toInt _
  obtain ⟨x3, h3⟩ : ∃ x : Int, (xs (5 * j + 3)).toInt = x := ⟨_, rfl⟩
  have z3 : zi x3 := by rw [← h3]; exact zi_toInt _
  refine lv_aload_n hx hb dL_law_293 rfl (lv_at hl 3 rfl) ?_
  refine lw_arg 1 h1 (by decide) hx hb hX hbl hbA hS hj hL9 (lv_at hl 4 rfl) (lv_at hl 0 rfl) dL_law_294 dL_law_295 dL_law_297 dL_law_298 dL_law_299 ?_
  refine lw_arg 2 h2 (by decide) hx hb hX hbl hbA hS hj hL9 (lv_at hl 4 rfl) (lv_at hl 0 rfl) dL_law_300 dL_law_301 dL_law_303 dL_law_304 dL_law_305 ?_
  refine zr_i2l hx hb z2 dL_law_306 ?_
  refine lv_bipush (v := iZ 32) hx hb dL_law_307 (by decide) ?_
  refine zr_lshl (n := 32) (P := 4294967296) hx hb (by decide) (by decide) dL_law_309 ?_
  refine lw_arg 3 h3 (by decide) hx hb hX hbl hbA hS hj hL9 (lv_at hl 4 rfl) (lv_at hl 0 rfl) dL_law_310 dL_law_311 dL_law_313 dL_law_314 dL_law_315 ?_
  refine zr_i2l hx hb z3 dL_law_316 ?_
  refine lv_ldc2 hx hb hown (ht _ tw_907) dL_law_317 ?_
  refine zr_mask (n := 32) (P := 4294967296) hx hb (by decide) (by decide) (by decide) dL_law_320 ?_
  refine lv_lor hx hb dL_law_321 ?_
  refine zc_l (lwL_of x2 x3) ?_
  refine zyS_i (P' := fun (u : Nat × zS) H => zQ E B u.2 H) 3 (As := [.ref B, .int (iZ x1), .long (lZ (lwL x2 x3))]) (rest := []) ⟨hx, hb, hml, hown, ht⟩ (mL_put l hl0 E B rg ct f st g x1 z1 (lwL x2 x3) (lwL_z x2 x3)) tw_351 tw_349 tw_350 tw_0 qL_put ⟨Nat.le_of_ble_eq_true rfl, Nat.le_of_ble_eq_true rfl⟩ hQ hK ((hH.kept hS.2.1).narrow lwA80) hN hl.1 rfl rfl (Nat.le_of_ble_eq_true rfl) dL_law_322 hrm lwA80 hS (fun r u H locs hp hQ hz9 hk9 hS => ?_)
  replace hM := lw_kM hM hk9
  replace ho := lw_kO ho hk9
  obtain ⟨k, σ1⟩ := u
  obtain ⟨hr, hsp⟩ := hp
  dsimp only at hQ hr hsp
  subst hr
  clear hk9
  refine lv_istore (lv' := [(5, .int (iZ ↑(tc k))), (4, .int (iZ ((5 * j : Nat) : Int))), (3, .ref (B + 95)), (2, .ref (B + 80)), (1, .ref B), (0, .ref b)]) hx hb dL_law_325 hl (by decide) rfl (fun ls hl => ?_)
  refine lv_aload_n hx hb dL_law_327 rfl (lv_at hl 3 rfl) ?_
  refine lw_arg 1 h1 (by decide) hx hb hX hbl hbA hS hj hL9 (lv_at hl 5 rfl) (lv_at hl 1 rfl) dL_law_328 dL_law_329 dL_law_331 dL_law_332 dL_law_333 ?_
  refine lw_arg 2 h2 (by decide) hx hb hX hbl hbA hS hj hL9 (lv_at hl 5 rfl) (lv_at hl 1 rfl) dL_law_334 dL_law_335 dL_law_337 dL_law_338 dL_law_339 ?_
  refine zr_i2l hx hb z2 dL_law_340 ?_
  refine lv_bipush (v := iZ 32) hx hb dL_law_341 (by decide) ?_
  refine zr_lshl (n := 32) (P := 4294967296) hx hb (by decide) (by decide) dL_law_343 ?_
  refine lw_arg 3 h3 (by decide) hx hb hX hbl hbA hS hj hL9 (lv_at hl 5 rfl) (lv_at hl 1 rfl) dL_law_344 dL_law_345 dL_law_347 dL_law_348 dL_law_349 ?_
  refine zr_i2l hx hb z3 dL_law_350 ?_
  refine lv_ldc2 hx hb hown (ht _ tw_907) dL_law_351 ?_
  refine zr_mask (n := 32) (P := 4294967296) hx hb (by decide) (by decide) (by decide) dL_law_354 ?_
  refine lv_lor hx hb dL_law_355 ?_
  refine zc_l (lwL_of x2 x3) ?_
  refine zyV_v (P' := fun (_ : Unit) H => zQM E (B + 80) σ1 (tc k) H) 2 (As := [.int (iZ x1), .long (lZ (lwL x2 x3))]) (rest := []) rfl ⟨hx, hb, hml, hown, ht⟩ (mM_put l E (B + 80) rg ct f st g t x1 z1 (lwL x2 x3) (lwL_z x2 x3) k σ1 hQ.1 hsp) tw_783 tw_780 tw_781 tw_782 tw_6 qM_put ⟨Nat.le_of_ble_eq_true rfl, Nat.le_of_ble_eq_true rfl⟩ (hM.recv hK) hM hK hl.1 rfl rfl (Nat.le_of_ble_eq_true rfl) dL_law_356 ⟨by omega, by omega⟩ lwA15 hS (fun u H locs hp hM hz9 hk9 hS => ?_)
  replace hQ := lw_kQ hQ hk9
  replace ho := lw_kO2 ho hk9
  clear hk9
  refine lv_aload_n hx hb dL_law_359 rfl (lv_at hl 3 rfl) ?_
  refine zyV_i (P' := fun (_ : Unit) H => zQM E (B + 80) σ1 (tc k) H) 0 (As := []) (rest := []) rfl ⟨hx, hb, hml, hown, ht⟩ (mM_thr l E (B + 80) σ1 (tc k)) tw_746 tw_743 tw_744 tw_745 tw_6 qM_thrown ⟨Nat.le_of_ble_eq_true rfl, Nat.le_of_ble_eq_true rfl⟩ (hM.recv hK) hM hK hl.1 rfl rfl (Nat.le_of_ble_eq_true rfl) dL_law_360 ⟨by omega, by omega⟩ lwA15 hS (fun r9 u H locs hr9 hM hz9 hk9 hS => ?_)
  replace hQ := lw_kQ hQ hk9
  replace ho := lw_kO2 ho hk9
  clear hk9
  subst hr9
  refine lv_iload hx hb dL_law_363 (lv_at hl 0 rfl) ?_
  refine lv_icmp_eq (tgt := 370) hx hb dL_law_365 (by decide) (fun _ => ?_) (fun h => absurd rfl h)
  refine lv_goto (tgt := 1394) hx hb dL_law_370 (by decide) ?_
  exact W.widen (by omega) (by omega) (next _ _ _ _ _ _ ⟨hQ, hM, ho, hS, lw_d1 hl⟩)
set_option maxHeartbeats 4000000 in
set_option maxRecDepth 100000 in
theorem lc_add {p : Program} {l : Launch} {e : Env} {s : State} {m : MethodId} {below : List Frame} {meth : Method} {c : Code} {b L : Nat} {xs : Nat → Int32} {E : zE} {B : Nat} {Q : State → Prop} {j : Nat} (hl0 : l.stackTraces = false) (C : lwC p s m meth c b L xs E B) (hj : 5 * j + 5 ≤ L) (next : lwN p l e s m below meth c b E B Q j) {σ : zS} {t : Nat} {v : Int64} {H : Heap} {locs : List Loc} {ls : Array Slot} (hw : lwS s b E B j σ t v H locs ls) :
    W p l e room_1 s m #[Value.ref b] below meth c H locs (96 + 8 * j) (18190 + 48 * j) Q (F0 m 373 ls []) := by
  obtain ⟨⟨hx, hb, hret, hml, hown, hts, hX, hbl, hlk, hgv⟩, hL, hK, hH, hN, hB⟩ := C
  obtain ⟨hQ, hM, ho, hS, hl⟩ := hw
  have hown : s.vm.findClass "WholeDeskLaw" = some m.cls := hown
  have ht : ∀ w ∈ zt, w.before #[Value.ref b] s = true := fun w h => hts w (zt_tbl w h)
  have hb : c.code = cL_law := hb
  have hbA : ¬ zGA B b := fun h => by have h9 : B ≤ b := h; omega
  have hL9 : L ≤ 2000000000 := by omega
  have hrm := lw_room hL hj
  obtain ⟨rg, ct, f, st, g⟩ := σ
  obtain ⟨x1, h1⟩ : ∃ x : Int, (xs (5 * j + 1)).toInt = x := ⟨_, rfl⟩
  have z1 : zi x1 := by rw [← h1]; exact zi_toInt _
  obtain ⟨x2, h2⟩ : ∃ x : Int, (xs (5 * j + 2)).toInt = x := ⟨_, rfl⟩
  have z2 : zi x2 := by rw [← h2]; exact zi_toInt _
  obtain ⟨x3, h3⟩ : ∃ x : Int, (xs (5 * j + 3)).toInt = x := ⟨_, rfl⟩
  have z3 : zi x3 := by rw [← h3]; exact zi_toInt _
  obtain ⟨x4, h4⟩ : ∃ x : Int, (xs (5 * j + 4)).toInt = x := ⟨_, rfl⟩
  have z4 : zi x4 := by rw [← h4]; exact zi_toInt _
  obtain ⟨less, hless⟩ : ∃ q : Bool, q = decide (x4 ≠ 0) := ⟨_, rfl⟩
  refine lv_aload_n hx hb dL_law_373 rfl (lv_at hl 3 rfl) ?_
  refine lw_arg 1 h1 (by decide) hx hb hX hbl hbA hS hj hL9 (lv_at hl 4 rfl) (lv_at hl 0 rfl) dL_law_374 dL_law_375 dL_law_377 dL_law_378 dL_law_379 ?_
  refine lw_arg 2 h2 (by decide) hx hb hX hbl hbA hS hj hL9 (lv_at hl 4 rfl) (lv_at hl 0 rfl) dL_law_380 dL_law_381 dL_law_383 dL_law_384 dL_law_385 ?_
  refine lw_arg 3 h3 (by decide) hx hb hX hbl hbA hS hj hL9 (lv_at hl 4 rfl) (lv_at hl 0 rfl) dL_law_386 dL_law_387 dL_law_389 dL_law_390 dL_law_391 ?_
  refine lw_arg 4 h4 (by decide) hx hb hX hbl hbA hS hj hL9 (lv_at hl 4 rfl) (lv_at hl 0 rfl) dL_law_392 dL_law_393 dL_law_395 dL_law_396 dL_law_397 ?_
  refine lw_bool less hless hx hb z4 dL_law_398 dL_law_401 dL_law_402 dL_law_405 ?_
  refine zyS_i (P' := fun (u : Nat × zS) H => zQ E B u.2 H) 5 (As := [.ref B, .int (iZ x1), .int (iZ x2), .int (iZ x3), .int (iZ (bZ less))]) (rest := []) ⟨hx, hb, hml, hown, ht⟩ (mL_add l hl0 E B rg ct f st g x1 z1 x2 z2 x3 z3 less) tw_359 tw_357 tw_358 tw_0 qL_add ⟨Nat.le_of_ble_eq_true rfl, Nat.le_of_ble_eq_true rfl⟩ hQ hK ((hH.kept hS.2.1).narrow lwA80) hN hl.1 rfl rfl (Nat.le_of_ble_eq_true rfl) dL_law_406 hrm lwA80 hS (fun r u H locs hp hQ hz9 hk9 hS => ?_)
  replace hM := lw_kM hM hk9
  replace ho := lw_kO ho hk9
  obtain ⟨k, σ1⟩ := u
  obtain ⟨hr, hsp⟩ := hp
  dsimp only at hQ hr hsp
  subst hr
  clear hk9
  refine lv_istore (lv' := [(5, .int (iZ ↑(tc k))), (4, .int (iZ ((5 * j : Nat) : Int))), (3, .ref (B + 95)), (2, .ref (B + 80)), (1, .ref B), (0, .ref b)]) hx hb dL_law_409 hl (by decide) rfl (fun ls hl => ?_)
  refine lv_aload_n hx hb dL_law_411 rfl (lv_at hl 3 rfl) ?_
  refine lw_arg 1 h1 (by decide) hx hb hX hbl hbA hS hj hL9 (lv_at hl 5 rfl) (lv_at hl 1 rfl) dL_law_412 dL_law_413 dL_law_415 dL_law_416 dL_law_417 ?_
  refine lw_arg 2 h2 (by decide) hx hb hX hbl hbA hS hj hL9 (lv_at hl 5 rfl) (lv_at hl 1 rfl) dL_law_418 dL_law_419 dL_law_421 dL_law_422 dL_law_423 ?_
  refine lw_arg 3 h3 (by decide) hx hb hX hbl hbA hS hj hL9 (lv_at hl 5 rfl) (lv_at hl 1 rfl) dL_law_424 dL_law_425 dL_law_427 dL_law_428 dL_law_429 ?_
  refine lw_arg 4 h4 (by decide) hx hb hX hbl hbA hS hj hL9 (lv_at hl 5 rfl) (lv_at hl 1 rfl) dL_law_430 dL_law_431 dL_law_433 dL_law_434 dL_law_435 ?_
  refine lw_bool less hless hx hb z4 dL_law_436 dL_law_439 dL_law_440 dL_law_443 ?_
  refine zyV_v (P' := fun (_ : Unit) H => zQM E (B + 80) σ1 (tc k) H) 4 (As := [.int (iZ x1), .int (iZ x2), .int (iZ x3), .int (iZ (bZ less))]) (rest := []) rfl ⟨hx, hb, hml, hown, ht⟩ (mM_add l E (B + 80) rg ct f st g t x1 z1 x2 z2 x3 z3 less k σ1 hQ.1 hsp) tw_787 tw_784 tw_785 tw_786 tw_6 qM_add ⟨Nat.le_of_ble_eq_true rfl, Nat.le_of_ble_eq_true rfl⟩ (hM.recv hK) hM hK hl.1 rfl rfl (Nat.le_of_ble_eq_true rfl) dL_law_444 ⟨by omega, by omega⟩ lwA15 hS (fun u H locs hp hM hz9 hk9 hS => ?_)
  replace hQ := lw_kQ hQ hk9
  replace ho := lw_kO2 ho hk9
  clear hk9
  refine lv_aload_n hx hb dL_law_447 rfl (lv_at hl 3 rfl) ?_
  refine zyV_i (P' := fun (_ : Unit) H => zQM E (B + 80) σ1 (tc k) H) 0 (As := []) (rest := []) rfl ⟨hx, hb, hml, hown, ht⟩ (mM_thr l E (B + 80) σ1 (tc k)) tw_746 tw_743 tw_744 tw_745 tw_6 qM_thrown ⟨Nat.le_of_ble_eq_true rfl, Nat.le_of_ble_eq_true rfl⟩ (hM.recv hK) hM hK hl.1 rfl rfl (Nat.le_of_ble_eq_true rfl) dL_law_448 ⟨by omega, by omega⟩ lwA15 hS (fun r9 u H locs hr9 hM hz9 hk9 hS => ?_)
  replace hQ := lw_kQ hQ hk9
  replace ho := lw_kO2 ho hk9
  clear hk9
  subst hr9
  refine lv_iload hx hb dL_law_451 (lv_at hl 0 rfl) ?_
  refine lv_icmp_eq (tgt := 458) hx hb dL_law_453 (by decide) (fun _ => ?_) (fun h => absurd rfl h)
  refine lv_goto (tgt := 1394) hx hb dL_law_458 (by decide) ?_
  exact W.widen (by omega) (by omega) (next _ _ _ _ _ _ ⟨hQ, hM, ho, hS, lw_d1 hl⟩)
set_option maxHeartbeats 4000000 in
set_option maxRecDepth 100000 in
theorem lc_multiply {p : Program} {l : Launch} {e : Env} {s : State} {m : MethodId} {below : List Frame} {meth : Method} {c : Code} {b L : Nat} {xs : Nat → Int32} {E : zE} {B : Nat} {Q : State → Prop} {j : Nat} (hl0 : l.stackTraces = false) (C : lwC p s m meth c b L xs E B) (hj : 5 * j + 5 ≤ L) (next : lwN p l e s m below meth c b E B Q j) {σ : zS} {t : Nat} {v : Int64} {H : Heap} {locs : List Loc} {ls : Array Slot} (hw : lwS s b E B j σ t v H locs ls) :
    W p l e room_1 s m #[Value.ref b] below meth c H locs (96 + 8 * j) (18190 + 48 * j) Q (F0 m 461 ls []) := by
  obtain ⟨⟨hx, hb, hret, hml, hown, hts, hX, hbl, hlk, hgv⟩, hL, hK, hH, hN, hB⟩ := C
  obtain ⟨hQ, hM, ho, hS, hl⟩ := hw
  have hown : s.vm.findClass "WholeDeskLaw" = some m.cls := hown
  have ht : ∀ w ∈ zt, w.before #[Value.ref b] s = true := fun w h => hts w (zt_tbl w h)
  have hb : c.code = cL_law := hb
  have hbA : ¬ zGA B b := fun h => by have h9 : B ≤ b := h; omega
  have hL9 : L ≤ 2000000000 := by omega
  have hrm := lw_room hL hj
  obtain ⟨rg, ct, f, st, g⟩ := σ
  obtain ⟨x1, h1⟩ : ∃ x : Int, (xs (5 * j + 1)).toInt = x := ⟨_, rfl⟩
  have z1 : zi x1 := by rw [← h1]; exact zi_toInt _
  obtain ⟨x2, h2⟩ : ∃ x : Int, (xs (5 * j + 2)).toInt = x := ⟨_, rfl⟩
  have z2 : zi x2 := by rw [← h2]; exact zi_toInt _
  obtain ⟨x3, h3⟩ : ∃ x : Int, (xs (5 * j + 3)).toInt = x := ⟨_, rfl⟩
  have z3 : zi x3 := by rw [← h3]; exact zi_toInt _
  refine lv_aload_n hx hb dL_law_461 rfl (lv_at hl 3 rfl) ?_
  refine lw_arg 1 h1 (by decide) hx hb hX hbl hbA hS hj hL9 (lv_at hl 4 rfl) (lv_at hl 0 rfl) dL_law_462 dL_law_463 dL_law_465 dL_law_466 dL_law_467 ?_
  refine lw_arg 2 h2 (by decide) hx hb hX hbl hbA hS hj hL9 (lv_at hl 4 rfl) (lv_at hl 0 rfl) dL_law_468 dL_law_469 dL_law_471 dL_law_472 dL_law_473 ?_
  refine lw_arg 3 h3 (by decide) hx hb hX hbl hbA hS hj hL9 (lv_at hl 4 rfl) (lv_at hl 0 rfl) dL_law_474 dL_law_475 dL_law_477 dL_law_478 dL_law_479 ?_
  refine zyS_i (P' := fun (u : Nat × zS) H => zQ E B u.2 H) 4 (As := [.ref B, .int (iZ x1), .int (iZ x2), .int (iZ x3)]) (rest := []) ⟨hx, hb, hml, hown, ht⟩ (mL_multiply l hl0 E B rg ct f st g x1 z1 x2 z2 x3 z3) tw_387 tw_385 tw_386 tw_0 qL_multiply ⟨Nat.le_of_ble_eq_true rfl, Nat.le_of_ble_eq_true rfl⟩ hQ hK ((hH.kept hS.2.1).narrow lwA80) hN hl.1 rfl rfl (Nat.le_of_ble_eq_true rfl) dL_law_480 hrm lwA80 hS (fun r u H locs hp hQ hz9 hk9 hS => ?_)
  replace hM := lw_kM hM hk9
  replace ho := lw_kO ho hk9
  obtain ⟨k, σ1⟩ := u
  obtain ⟨hr, hsp⟩ := hp
  dsimp only at hQ hr hsp
  subst hr
  clear hk9
  refine lv_istore (lv' := [(5, .int (iZ ↑(tc k))), (4, .int (iZ ((5 * j : Nat) : Int))), (3, .ref (B + 95)), (2, .ref (B + 80)), (1, .ref B), (0, .ref b)]) hx hb dL_law_483 hl (by decide) rfl (fun ls hl => ?_)
  refine lv_aload_n hx hb dL_law_485 rfl (lv_at hl 3 rfl) ?_
  refine lw_arg 1 h1 (by decide) hx hb hX hbl hbA hS hj hL9 (lv_at hl 5 rfl) (lv_at hl 1 rfl) dL_law_486 dL_law_487 dL_law_489 dL_law_490 dL_law_491 ?_
  refine lw_arg 2 h2 (by decide) hx hb hX hbl hbA hS hj hL9 (lv_at hl 5 rfl) (lv_at hl 1 rfl) dL_law_492 dL_law_493 dL_law_495 dL_law_496 dL_law_497 ?_
  refine lw_arg 3 h3 (by decide) hx hb hX hbl hbA hS hj hL9 (lv_at hl 5 rfl) (lv_at hl 1 rfl) dL_law_498 dL_law_499 dL_law_501 dL_law_502 dL_law_503 ?_
  refine zyV_v (P' := fun (_ : Unit) H => zQM E (B + 80) σ1 (tc k) H) 3 (As := [.int (iZ x1), .int (iZ x2), .int (iZ x3)]) (rest := []) rfl ⟨hx, hb, hml, hown, ht⟩ (mM_multiply l E (B + 80) rg ct f st g t x1 z1 x2 z2 x3 z3 k σ1 hQ.1 hsp) tw_808 tw_805 tw_806 tw_807 tw_6 qM_multiply ⟨Nat.le_of_ble_eq_true rfl, Nat.le_of_ble_eq_true rfl⟩ (hM.recv hK) hM hK hl.1 rfl rfl (Nat.le_of_ble_eq_true rfl) dL_law_504 ⟨by omega, by omega⟩ lwA15 hS (fun u H locs hp hM hz9 hk9 hS => ?_)
  replace hQ := lw_kQ hQ hk9
  replace ho := lw_kO2 ho hk9
  clear hk9
  refine lv_aload_n hx hb dL_law_507 rfl (lv_at hl 3 rfl) ?_
  refine zyV_i (P' := fun (_ : Unit) H => zQM E (B + 80) σ1 (tc k) H) 0 (As := []) (rest := []) rfl ⟨hx, hb, hml, hown, ht⟩ (mM_thr l E (B + 80) σ1 (tc k)) tw_746 tw_743 tw_744 tw_745 tw_6 qM_thrown ⟨Nat.le_of_ble_eq_true rfl, Nat.le_of_ble_eq_true rfl⟩ (hM.recv hK) hM hK hl.1 rfl rfl (Nat.le_of_ble_eq_true rfl) dL_law_508 ⟨by omega, by omega⟩ lwA15 hS (fun r9 u H locs hr9 hM hz9 hk9 hS => ?_)
  replace hQ := lw_kQ hQ hk9
  replace ho := lw_kO2 ho hk9
  clear hk9
  subst hr9
  refine lv_iload hx hb dL_law_511 (lv_at hl 0 rfl) ?_
  refine lv_icmp_eq (tgt := 518) hx hb dL_law_513 (by decide) (fun _ => ?_) (fun h => absurd rfl h)
  refine lv_goto (tgt := 1394) hx hb dL_law_518 (by decide) ?_
  exact W.widen (by omega) (by omega) (next _ _ _ _ _ _ ⟨hQ, hM, ho, hS, lw_d1 hl⟩)
