set_option maxHeartbeats 4000000 in
set_option maxRecDepth 100000 in
theorem lc_divide {p : Program} {l : Launch} {e : Env} {s : State} {m : MethodId} {below : List Frame} {meth : Method} {c : Code} {b L : Nat} {xs : Nat → Int32} {E : zE} {B : Nat} {Q : State → Prop} {j : Nat} (hl0 : l.stackTraces = false) (C : lwC p s m meth c b L xs E B) (hj : 5 * j + 5 ≤ L) (next : lwN p l e s m below meth c b E B Q j) {σ : zS} {t : Nat} {v : Int64} {H : Heap} {locs : List Loc} {ls : Array Slot} (hw : lwS s b E B j σ t v H locs ls) :
    W p l e room_1 s m #[Value.ref b] below meth c H locs (96 + 8 * j) (18190 + 48 * j) Q (F0 m 521 ls []) := by
  obtain ⟨⟨hx, hb, hret, hml, hown, hts, hX, hbl, hlk, hgv⟩, hL, hK, hH, hN, hB⟩ := C
  obtain ⟨hQ, hM, ho, hS, hl⟩ := hw
  have hown : s.vm.findClass "WholeDeskLaw" = some m.cls := hown
  have ht : ∀ w ∈ zt, w.before #[Value.ref b] s = true := fun w h => hts w (zt_tbl w h)
  have hb : c.code = cL_law := hb
  have hbA : ¬ zGA B b := fun h => by have h9 : B ≤ b := h; omega
  have hL9 : L ≤ 2000000000 := by omega
  have hrm := lw_room hL hj
  obtain ⟨rg, ct, f, st, g⟩ := σ
  obtain ⟨x1, h1⟩ : ∃ x : Int, (xs (5 * j + 1)).toInt = x := ⟨_, rfl⟩
  have z1 : zi x1 := by rw [← h1]; exact zi_toInt _
  obtain ⟨x2, h2⟩ : ∃ x : Int, (xs (5 * j + 2)).toInt = x := ⟨_, rfl⟩
  have z2 : zi x2 := by rw [← h2]; exact zi_toInt _
  obtain ⟨x3, h3⟩ : ∃ x : Int, (xs (5 * j + 3)).toInt = x := ⟨_, rfl⟩
  have z3 : zi x3 := by rw [← h3]; exact zi_toInt _
  obtain ⟨x4, h4⟩ : ∃ x : Int, (xs (5 * j + 4)).toInt = x := ⟨_, rfl⟩
  have z4 : zi x4 := by rw [← h4]; exact zi_toInt _
  refine lv_aload_n hx hb dL_law_521 rfl (lv_at hl 3 rfl) ?_
  refine lw_arg 1 h1 (by decide) hx hb hX hbl hbA hS hj hL9 (lv_at hl 4 rfl) (lv_at hl 0 rfl) dL_law_522 dL_law_523 dL_law_525 dL_law_526 dL_law_527 ?_
  refine lw_arg 2 h2 (by decide) hx hb hX hbl hbA hS hj hL9 (lv_at hl 4 rfl) (lv_at hl 0 rfl) dL_law_528 dL_law_529 dL_law_531 dL_law_532 dL_law_533 ?_
  refine lw_arg 3 h3 (by decide) hx hb hX hbl hbA hS hj hL9 (lv_at hl 4 rfl) (lv_at hl 0 rfl) dL_law_534 dL_law_535 dL_law_537 dL_law_538 dL_law_539 ?_
  refine lw_arg 4 h4 (by decide) hx hb hX hbl hbA hS hj hL9 (lv_at hl 4 rfl) (lv_at hl 0 rfl) dL_law_540 dL_law_541 dL_law_543 dL_law_544 dL_law_545 ?_
  refine zyS_i (P' := fun (u : Nat × zS) H => zQ E B u.2 H) 5 (As := [.ref B, .int (iZ x1), .int (iZ x2), .int (iZ x3), .int (iZ x4)]) (rest := []) ⟨hx, hb, hml, hown, ht⟩ (mL_divide l hl0 E B rg ct f st g x1 z1 x2 z2 x3 z3 x4 z4) tw_402 tw_400 tw_401 tw_0 qL_divide ⟨Nat.le_of_ble_eq_true rfl, Nat.le_of_ble_eq_true rfl⟩ hQ hK ((hH.kept hS.2.1).narrow lwA80) hN hl.1 rfl rfl (Nat.le_of_ble_eq_true rfl) dL_law_546 hrm lwA80 hS (fun r u H locs hp hQ hz9 hk9 hS => ?_)
  replace hM := lw_kM hM hk9
  replace ho := lw_kO ho hk9
  obtain ⟨k, σ1⟩ := u
  obtain ⟨hr, hsp⟩ := hp
  dsimp only at hQ hr hsp
  subst hr
  clear hk9
  refine lv_istore (lv' := [(5, .int (iZ ↑(tc k))), (4, .int (iZ ((5 * j : Nat) : Int))), (3, .ref (B + 95)), (2, .ref (B + 80)), (1, .ref B), (0, .ref b)]) hx hb dL_law_549 hl (by decide) rfl (fun ls hl => ?_)
  refine lv_aload_n hx hb dL_law_551 rfl (lv_at hl 3 rfl) ?_
  refine lw_arg 1 h1 (by decide) hx hb hX hbl hbA hS hj hL9 (lv_at hl 5 rfl) (lv_at hl 1 rfl) dL_law_552 dL_law_553 dL_law_555 dL_law_556 dL_law_557 ?_
  refine lw_arg 2 h2 (by decide) hx hb hX hbl hbA hS hj hL9 (lv_at hl 5 rfl) (lv_at hl 1 rfl) dL_law_558 dL_law_559 dL_law_561 dL_law_562 dL_law_563 ?_
  refine lw_arg 3 h3 (by decide) hx hb hX hbl hbA hS hj hL9 (lv_at hl 5 rfl) (lv_at hl 1 rfl) dL_law_564 dL_law_565 dL_law_567 dL_law_568 dL_law_569 ?_
  refine lw_arg 4 h4 (by decide) hx hb hX hbl hbA hS hj hL9 (lv_at hl 5 rfl) (lv_at hl 1 rfl) dL_law_570 dL_law_571 dL_law_573 dL_law_574 dL_law_575 ?_
  refine zyV_v (P' := fun (_ : Unit) H => zQM E (B + 80) σ1 (tc k) H) 4 (As := [.int (iZ x1), .int (iZ x2), .int (iZ x3), .int (iZ x4)]) (rest := []) rfl ⟨hx, hb, hml, hown, ht⟩ (mM_divide l E (B + 80) rg ct f st g t x1 z1 x2 z2 x3 z3 x4 z4 k σ1 hQ.1 hsp) tw_816 tw_813 tw_814 tw_815 tw_6 qM_divide ⟨Nat.le_of_ble_eq_true rfl, Nat.le_of_ble_eq_true rfl⟩ (hM.recv hK) hM hK hl.1 rfl rfl (Nat.le_of_ble_eq_true rfl) dL_law_576 ⟨by omega, by omega⟩ lwA15 hS (fun u H locs hp hM hz9 hk9 hS => ?_)
  replace hQ := lw_kQ hQ hk9
  replace ho := lw_kO2 ho hk9
  clear hk9
  refine lv_aload_n hx hb dL_law_579 rfl (lv_at hl 3 rfl) ?_
  refine zyV_i (P' := fun (_ : Unit) H => zQM E (B + 80) σ1 (tc k) H) 0 (As := []) (rest := []) rfl ⟨hx, hb, hml, hown, ht⟩ (mM_thr l E (B + 80) σ1 (tc k)) tw_746 tw_743 tw_744 tw_745 tw_6 qM_thrown ⟨Nat.le_of_ble_eq_true rfl, Nat.le_of_ble_eq_true rfl⟩ (hM.recv hK) hM hK hl.1 rfl rfl (Nat.le_of_ble_eq_true rfl) dL_law_580 ⟨by omega, by omega⟩ lwA15 hS (fun r9 u H locs hr9 hM hz9 hk9 hS => ?_)
  replace hQ := lw_kQ hQ hk9
  replace ho := lw_kO2 ho hk9
  clear hk9
  subst hr9
  refine lv_iload hx hb dL_law_583 (lv_at hl 0 rfl) ?_
  refine lv_icmp_eq (tgt := 590) hx hb dL_law_585 (by decide) (fun _ => ?_) (fun h => absurd rfl h)
  refine lv_goto (tgt := 1394) hx hb dL_law_590 (by decide) ?_
  exact W.widen (by omega) (by omega) (next _ _ _ _ _ _ ⟨hQ, hM, ho, hS, lw_d1 hl⟩)
set_option maxHeartbeats 4000000 in
set_option maxRecDepth 100000 in
theorem lc_modulo {p : Program} {l : Launch} {e : Env} {s : State} {m : MethodId} {below : List Frame} {meth : Method} {c : Code} {b L : Nat} {xs : Nat → Int32} {E : zE} {B : Nat} {Q : State → Prop} {j : Nat} (hl0 : l.stackTraces = false) (C : lwC p s m meth c b L xs E B) (hj : 5 * j + 5 ≤ L) (next : lwN p l e s m below meth c b E B Q j) {σ : zS} {t : Nat} {v : Int64} {H : Heap} {locs : List Loc} {ls : Array Slot} (hw : lwS s b E B j σ t v H locs ls) :
    W p l e room_1 s m #[Value.ref b] below meth c H locs (96 + 8 * j) (18190 + 48 * j) Q (F0 m 593 ls []) := by
  obtain ⟨⟨hx, hb, hret, hml, hown, hts, hX, hbl, hlk, hgv⟩, hL, hK, hH, hN, hB⟩ := C
  obtain ⟨hQ, hM, ho, hS, hl⟩ := hw
  have hown : s.vm.findClass "WholeDeskLaw" = some m.cls := hown
  have ht : ∀ w ∈ zt, w.before #[Value.ref b] s = true := fun w h => hts w (zt_tbl w h)
  have hb : c.code = cL_law := hb
  have hbA : ¬ zGA B b := fun h => by have h9 : B ≤ b := h; omega
  have hL9 : L ≤ 2000000000 := by omega
  have hrm := lw_room hL hj
  obtain ⟨rg, ct, f, st, g⟩ := σ
  obtain ⟨x1, h1⟩ : ∃ x : Int, (xs (5 * j + 1)).toInt = x := ⟨_, rfl⟩
  have z1 : zi x1 := by rw [← h1]; exact zi_toInt _
  obtain ⟨x2, h2⟩ : ∃ x : Int, (xs (5 * j + 2)).toInt = x := ⟨_, rfl⟩
  have z2 : zi x2 := by rw [← h2]; exact zi_toInt _
  obtain ⟨x3, h3⟩ : ∃ x : Int, (xs (5 * j + 3)).toInt = x := ⟨_, rfl⟩
  have z3 : zi x3 := by rw [← h3]; exact zi_toInt _
  refine lv_aload_n hx hb dL_law_593 rfl (lv_at hl 3 rfl) ?_
  refine lw_arg 1 h1 (by decide) hx hb hX hbl hbA hS hj hL9 (lv_at hl 4 rfl) (lv_at hl 0 rfl) dL_law_594 dL_law_595 dL_law_597 dL_law_598 dL_law_599 ?_
  refine lw_arg 2 h2 (by decide) hx hb hX hbl hbA hS hj hL9 (lv_at hl 4 rfl) (lv_at hl 0 rfl) dL_law_600 dL_law_601 dL_law_603 dL_law_604 dL_law_605 ?_
  refine lw_arg 3 h3 (by decide) hx hb hX hbl hbA hS hj hL9 (lv_at hl 4 rfl) (lv_at hl 0 rfl) dL_law_606 dL_law_607 dL_law_609 dL_law_610 dL_law_611 ?_
  refine zyS_i (P' := fun (u : Nat × zS) H => zQ E B u.2 H) 4 (As := [.ref B, .int (iZ x1), .int (iZ x2), .int (iZ x3)]) (rest := []) ⟨hx, hb, hml, hown, ht⟩ (mL_modulo l hl0 E B rg ct f st g x1 z1 x2 z2 x3 z3) tw_427 tw_425 tw_426 tw_0 qL_modulo ⟨Nat.le_of_ble_eq_true rfl, Nat.le_of_ble_eq_true rfl⟩ hQ hK ((hH.kept hS.2.1).narrow lwA80) hN hl.1 rfl rfl (Nat.le_of_ble_eq_true rfl) dL_law_612 hrm lwA80 hS (fun r u H locs hp hQ hz9 hk9 hS => ?_)
  replace hM := lw_kM hM hk9
  replace ho := lw_kO ho hk9
  obtain ⟨k, σ1⟩ := u
  obtain ⟨hr, hsp⟩ := hp
  dsimp only at hQ hr hsp
  subst hr
  clear hk9
  refine lv_istore (lv' := [(5, .int (iZ ↑(tc k))), (4, .int (iZ ((5 * j : Nat) : Int))), (3, .ref (B + 95)), (2, .ref (B + 80)), (1, .ref B), (0, .ref b)]) hx hb dL_law_615 hl (by decide) rfl (fun ls hl => ?_)
  refine lv_aload_n hx hb dL_law_617 rfl (lv_at hl 3 rfl) ?_
  refine lw_arg 1 h1 (by decide) hx hb hX hbl hbA hS hj hL9 (lv_at hl 5 rfl) (lv_at hl 1 rfl) dL_law_618 dL_law_619 dL_law_621 dL_law_622 dL_law_623 ?_
  refine lw_arg 2 h2 (by decide) hx hb hX hbl hbA hS hj hL9 (lv_at hl 5 rfl) (lv_at hl 1 rfl) dL_law_624 dL_law_625 dL_law_627 dL_law_628 dL_law_629 ?_
  refine lw_arg 3 h3 (by decide) hx hb hX hbl hbA hS hj hL9 (lv_at hl 5 rfl) (lv_at hl 1 rfl) dL_law_630 dL_law_631 dL_law_633 dL_law_634 dL_law_635 ?_
  refine zyV_v (P' := fun (_ : Unit) H => zQM E (B + 80) σ1 (tc k) H) 3 (As := [.int (iZ x1), .int (iZ x2), .int (iZ x3)]) (rest := []) rfl ⟨hx, hb, hml, hown, ht⟩ (mM_modulo l E (B + 80) rg ct f st g t x1 z1 x2 z2 x3 z3 k σ1 hQ.1 hsp) tw_828 tw_825 tw_826 tw_827 tw_6 qM_modulo ⟨Nat.le_of_ble_eq_true rfl, Nat.le_of_ble_eq_true rfl⟩ (hM.recv hK) hM hK hl.1 rfl rfl (Nat.le_of_ble_eq_true rfl) dL_law_636 ⟨by omega, by omega⟩ lwA15 hS (fun u H locs hp hM hz9 hk9 hS => ?_)
  replace hQ := lw_kQ hQ hk9
  replace ho := lw_kO2 ho hk9
  clear hk9
  refine lv_aload_n hx hb dL_law_639 rfl (lv_at hl 3 rfl) ?_
  refine zyV_i (P' := fun (_ : Unit) H => zQM E (B + 80) σ1 (tc k) H) 0 (As := []) (rest := []) rfl ⟨hx, hb, hml, hown, ht⟩ (mM_thr l E (B + 80) σ1 (tc k)) tw_746 tw_743 tw_744 tw_745 tw_6 qM_thrown ⟨Nat.le_of_ble_eq_true rfl, Nat.le_of_ble_eq_true rfl⟩ (hM.recv hK) hM hK hl.1 rfl rfl (Nat.le_of_ble_eq_true rfl) dL_law_640 ⟨by omega, by omega⟩ lwA15 hS (fun r9 u H locs hr9 hM hz9 hk9 hS => ?_)
  replace hQ := lw_kQ hQ hk9
  replace ho := lw_kO2 ho hk9
  clear hk9
  subst hr9
  refine lv_iload hx hb dL_law_643 (lv_at hl 0 rfl) ?_
  refine lv_icmp_eq (tgt := 650) hx hb dL_law_645 (by decide) (fun _ => ?_) (fun h => absurd rfl h)
  refine lv_goto (tgt := 1394) hx hb dL_law_650 (by decide) ?_
  exact W.widen (by omega) (by omega) (next _ _ _ _ _ _ ⟨hQ, hM, ho, hS, lw_d1 hl⟩)
set_option maxHeartbeats 4000000 in
set_option maxRecDepth 100000 in
theorem lc_power {p : Program} {l : Launch} {e : Env} {s : State} {m : MethodId} {below : List Frame} {meth : Method} {c : Code} {b L : Nat} {xs : Nat → Int32} {E : zE} {B : Nat} {Q : State → Prop} {j : Nat} (hl0 : l.stackTraces = false) (C : lwC p s m meth c b L xs E B) (hj : 5 * j + 5 ≤ L) (next : lwN p l e s m below meth c b E B Q j) {σ : zS} {t : Nat} {v : Int64} {H : Heap} {locs : List Loc} {ls : Array Slot} (hw : lwS s b E B j σ t v H locs ls) :
    W p l e room_1 s m #[Value.ref b] below meth c H locs (96 + 8 * j) (18190 + 48 * j) Q (F0 m 653 ls []) := by
  obtain ⟨⟨hx, hb, hret, hml, hown, hts, hX, hbl, hlk, hgv⟩, hL, hK, hH, hN, hB⟩ := C
  obtain ⟨hQ, hM, ho, hS, hl⟩ := hw
  have hown : s.vm.findClass "WholeDeskLaw" = some m.cls := hown
  have ht : ∀ w ∈ zt, w.before #[Value.ref b] s = true := fun w h => hts w (zt_tbl w h)
  have hb : c.code = cL_law := hb
  have hbA : ¬ zGA B b := fun h => by have h9 : B ≤ b := h; omega
  have hL9 : L ≤ 2000000000 := by omega
  have hrm := lw_room hL hj
  obtain ⟨rg, ct, f, st, g⟩ := σ
  obtain ⟨x1, h1⟩ : ∃ x : Int, (xs (5 * j + 1)).toInt = x := ⟨_, rfl⟩
  have z1 : zi x1 := by rw [← h1]; exact zi_toInt _
  obtain ⟨x2, h2⟩ : ∃ x : Int, (xs (5 * j + 2)).toInt = x := ⟨_, rfl⟩
  have z2 : zi x2 := by rw [← h2]; exact zi_toInt _
  obtain ⟨x3, h3⟩ : ∃ x : Int, (xs (5 * j + 3)).toInt = x := ⟨_, rfl⟩
  have z3 : zi x3 := by rw [← h3]; exact zi_toInt _
  refine lv_aload_n hx hb dL_law_653 rfl (lv_at hl 3 rfl) ?_
  refine lw_arg 1 h1 (by decide) hx hb hX hbl hbA hS hj hL9 (lv_at hl 4 rfl) (lv_at hl 0 rfl) dL_law_654 dL_law_655 dL_law_657 dL_law_658 dL_law_659 ?_
  refine lw_arg 2 h2 (by decide) hx hb hX hbl hbA hS hj hL9 (lv_at hl 4 rfl) (lv_at hl 0 rfl) dL_law_660 dL_law_661 dL_law_663 dL_law_664 dL_law_665 ?_
  refine lw_arg 3 h3 (by decide) hx hb hX hbl hbA hS hj hL9 (lv_at hl 4 rfl) (lv_at hl 0 rfl) dL_law_666 dL_law_667 dL_law_669 dL_law_670 dL_law_671 ?_
  refine zyS_i (P' := fun (u : Nat × zS) H => zQ E B u.2 H) 4 (As := [.ref B, .int (iZ x1), .int (iZ x2), .int (iZ x3)]) (rest := []) ⟨hx, hb, hml, hown, ht⟩ (mL_power l hl0 E B rg ct f st g x1 z1 x2 z2 x3 z3) tw_446 tw_444 tw_445 tw_0 qL_power ⟨Nat.le_of_ble_eq_true rfl, Nat.le_of_ble_eq_true rfl⟩ hQ hK ((hH.kept hS.2.1).narrow lwA80) hN hl.1 rfl rfl (Nat.le_of_ble_eq_true rfl) dL_law_672 hrm lwA80 hS (fun r u H locs hp hQ hz9 hk9 hS => ?_)
  replace hM := lw_kM hM hk9
  replace ho := lw_kO ho hk9
  obtain ⟨k, σ1⟩ := u
  obtain ⟨hr, hsp⟩ := hp
  dsimp only at hQ hr hsp
  subst hr
  clear hk9
  refine lv_istore (lv' := [(5, .int (iZ ↑(tc k))), (4, .int (iZ ((5 * j : Nat) : Int))), (3, .ref (B + 95)), (2, .ref (B + 80)), (1, .ref B), (0, .ref b)]) hx hb dL_law_675 hl (by decide) rfl (fun ls hl => ?_)
  refine lv_aload_n hx hb dL_law_677 rfl (lv_at hl 3 rfl) ?_
  refine lw_arg 1 h1 (by decide) hx hb hX hbl hbA hS hj hL9 (lv_at hl 5 rfl) (lv_at hl 1 rfl) dL_law_678 dL_law_679 dL_law_681 dL_law_682 dL_law_683 ?_
  refine lw_arg 2 h2 (by decide) hx hb hX hbl hbA hS hj hL9 (lv_at hl 5 rfl) (lv_at hl 1 rfl) dL_law_684 dL_law_685 dL_law_687 dL_law_688 dL_law_689 ?_
  refine lw_arg 3 h3 (by decide) hx hb hX hbl hbA hS hj hL9 (lv_at hl 5 rfl) (lv_at hl 1 rfl) dL_law_690 dL_law_691 dL_law_693 dL_law_694 dL_law_695 ?_
  refine zyV_v (P' := fun (_ : Unit) H => zQM E (B + 80) σ1 (tc k) H) 3 (As := [.int (iZ x1), .int (iZ x2), .int (iZ x3)]) (rest := []) rfl ⟨hx, hb, hml, hown, ht⟩ (mM_power l E (B + 80) rg ct f st g t x1 z1 x2 z2 x3 z3 k σ1 hQ.1 hsp) tw_840 tw_837 tw_838 tw_839 tw_6 qM_power ⟨Nat.le_of_ble_eq_true rfl, Nat.le_of_ble_eq_true rfl⟩ (hM.recv hK) hM hK hl.1 rfl rfl (Nat.le_of_ble_eq_true rfl) dL_law_696 ⟨by omega, by omega⟩ lwA15 hS (fun u H locs hp hM hz9 hk9 hS => ?_)
  replace hQ := lw_kQ hQ hk9
  replace ho := lw_kO2 ho hk9
  clear hk9
  refine lv_aload_n hx hb dL_law_699 rfl (lv_at hl 3 rfl) ?_
  refine zyV_i (P' := fun (_ : Unit) H => zQM E (B + 80) σ1 (tc k) H) 0 (As := []) (rest := []) rfl ⟨hx, hb, hml, hown, ht⟩ (mM_thr l E (B + 80) σ1 (tc k)) tw_746 tw_743 tw_744 tw_745 tw_6 qM_thrown ⟨Nat.le_of_ble_eq_true rfl, Nat.le_of_ble_eq_true rfl⟩ (hM.recv hK) hM hK hl.1 rfl rfl (Nat.le_of_ble_eq_true rfl) dL_law_700 ⟨by omega, by omega⟩ lwA15 hS (fun r9 u H locs hr9 hM hz9 hk9 hS => ?_)
  replace hQ := lw_kQ hQ hk9
  replace ho := lw_kO2 ho hk9
  clear hk9
  subst hr9
  refine lv_iload hx hb dL_law_703 (lv_at hl 0 rfl) ?_
  refine lv_icmp_eq (tgt := 710) hx hb dL_law_705 (by decide) (fun _ => ?_) (fun h => absurd rfl h)
  refine lv_goto (tgt := 1394) hx hb dL_law_710 (by decide) ?_
  exact W.widen (by omega) (by omega) (next _ _ _ _ _ _ ⟨hQ, hM, ho, hS, lw_d1 hl⟩)
