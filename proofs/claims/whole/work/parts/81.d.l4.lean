set_option maxHeartbeats 4000000 in
set_option maxRecDepth 100000 in
theorem lc_root {p : Program} {l : Launch} {e : Env} {s : State} {m : MethodId} {below : List Frame} {meth : Method} {c : Code} {b L : Nat} {xs : Nat → Int32} {E : zE} {B : Nat} {Q : State → Prop} {j : Nat} (hl0 : l.stackTraces = false) (C : lwC p s m meth c b L xs E B) (hj : 5 * j + 5 ≤ L) (next : lwN p l e s m below meth c b E B Q j) {σ : zS} {t : Nat} {v : Int64} {H : Heap} {locs : List Loc} {ls : Array Slot} (hw : lwS s b E B j σ t v H locs ls) :
    W p l e room_1 s m #[Value.ref b] below meth c H locs (96 + 8 * j) (18190 + 48 * j) Q (F0 m 713 ls []) := by
  obtain ⟨⟨hx, hb, hret, hml, hown, hts, hX, hbl, hlk, hgv⟩, hL, hK, hH, hN, hB⟩ := C
  obtain ⟨hQ, hM, ho, hS, hl⟩ := hw
  have hown : s.vm.findClass "WholeDeskLaw" = some m.cls := hown
  have ht : ∀ w ∈ zt, w.before #[Value.ref b] s = true := fun w h => hts w (zt_tbl w h)
  have hb : c.code = cL_law := hb
  have hbA : ¬ zGA B b := fun h => by have h9 : B ≤ b := h; omega
  have hL9 : L ≤ 2000000000 := by omega
  have hrm := lw_room hL hj
  obtain ⟨rg, ct, f, st, g⟩ := σ
  obtain ⟨x1, h1⟩ : ∃ x : Int, (xs (5 * j + 1)).toInt = x := ⟨_, rfl⟩
  have z1 : zi x1 := by rw [← h1]; exact zi_toInt _
  obtain ⟨x2, h2⟩ : ∃ x : Int, (xs (5 * j + 2)).toInt = x := ⟨_, rfl⟩
  have z2 : zi x2 := by rw [← h2]; exact zi_toInt _
  obtain ⟨x3, h3⟩ : ∃ x : Int, (xs (5 * j + 3)).toInt = x := ⟨_, rfl⟩
  have z3 : zi x3 := by rw [← h3]; exact zi_toInt _
  refine lv_aload_n hx hb dL_law_713 rfl (lv_at hl 3 rfl) ?_
  refine lw_arg 1 h1 (by decide) hx hb hX hbl hbA hS hj hL9 (lv_at hl 4 rfl) (lv_at hl 0 rfl) dL_law_714 dL_law_715 dL_law_717 dL_law_718 dL_law_719 ?_
  refine lw_arg 2 h2 (by decide) hx hb hX hbl hbA hS hj hL9 (lv_at hl 4 rfl) (lv_at hl 0 rfl) dL_law_720 dL_law_721 dL_law_723 dL_law_724 dL_law_725 ?_
  refine lw_arg 3 h3 (by decide) hx hb hX hbl hbA hS hj hL9 (lv_at hl 4 rfl) (lv_at hl 0 rfl) dL_law_726 dL_law_727 dL_law_729 dL_law_730 dL_law_731 ?_
  refine zyS_i (P' := fun (u : Nat × zS) H => zQ E B u.2 H) 4 (As := [.ref B, .int (iZ x1), .int (iZ x2), .int (iZ x3)]) (rest := []) ⟨hx, hb, hml, hown, ht⟩ (mL_root l hl0 E B rg ct f st g x1 z1 x2 z2 x3 z3) tw_465 tw_463 tw_464 tw_0 qL_root ⟨Nat.le_of_ble_eq_true rfl, Nat.le_of_ble_eq_true rfl⟩ hQ hK ((hH.kept hS.2.1).narrow lwA80) hN hl.1 rfl rfl (Nat.le_of_ble_eq_true rfl) dL_law_732 hrm lwA80 hS (fun r u H locs hp hQ hz9 hk9 hS => ?_)
  replace hM := lw_kM hM hk9
  replace ho := lw_kO ho hk9
  obtain ⟨k, σ1⟩ := u
  obtain ⟨hr, hsp⟩ := hp
  dsimp only at hQ hr hsp
  subst hr
  clear hk9
  refine lv_istore (lv' := [(5, .int (iZ ↑(tc k))), (4, .int (iZ ((5 * j : Nat) : Int))), (3, .ref (B + 95)), (2, .ref (B + 80)), (1, .ref B), (0, .ref b)]) hx hb dL_law_735 hl (by decide) rfl (fun ls hl => ?_)
  refine lv_aload_n hx hb dL_law_737 rfl (lv_at hl 3 rfl) ?_
  refine lw_arg 1 h1 (by decide) hx hb hX hbl hbA hS hj hL9 (lv_at hl 5 rfl) (lv_at hl 1 rfl) dL_law_738 dL_law_739 dL_law_741 dL_law_742 dL_law_743 ?_
  refine lw_arg 2 h2 (by decide) hx hb hX hbl hbA hS hj hL9 (lv_at hl 5 rfl) (lv_at hl 1 rfl) dL_law_744 dL_law_745 dL_law_747 dL_law_748 dL_law_749 ?_
  refine lw_arg 3 h3 (by decide) hx hb hX hbl hbA hS hj hL9 (lv_at hl 5 rfl) (lv_at hl 1 rfl) dL_law_750 dL_law_751 dL_law_753 dL_law_754 dL_law_755 ?_
  refine zyV_v (P' := fun (_ : Unit) H => zQM E (B + 80) σ1 (tc k) H) 3 (As := [.int (iZ x1), .int (iZ x2), .int (iZ x3)]) (rest := []) rfl ⟨hx, hb, hml, hown, ht⟩ (mM_root l E (B + 80) rg ct f st g t x1 z1 x2 z2 x3 z3 k σ1 hQ.1 hsp) tw_848 tw_845 tw_846 tw_847 tw_6 qM_root ⟨Nat.le_of_ble_eq_true rfl, Nat.le_of_ble_eq_true rfl⟩ (hM.recv hK) hM hK hl.1 rfl rfl (Nat.le_of_ble_eq_true rfl) dL_law_756 ⟨by omega, by omega⟩ lwA15 hS (fun u H locs hp hM hz9 hk9 hS => ?_)
  replace hQ := lw_kQ hQ hk9
  replace ho := lw_kO2 ho hk9
  clear hk9
  refine lv_aload_n hx hb dL_law_759 rfl (lv_at hl 3 rfl) ?_
  refine zyV_i (P' := fun (_ : Unit) H => zQM E (B + 80) σ1 (tc k) H) 0 (As := []) (rest := []) rfl ⟨hx, hb, hml, hown, ht⟩ (mM_thr l E (B + 80) σ1 (tc k)) tw_746 tw_743 tw_744 tw_745 tw_6 qM_thrown ⟨Nat.le_of_ble_eq_true rfl, Nat.le_of_ble_eq_true rfl⟩ (hM.recv hK) hM hK hl.1 rfl rfl (Nat.le_of_ble_eq_true rfl) dL_law_760 ⟨by omega, by omega⟩ lwA15 hS (fun r9 u H locs hr9 hM hz9 hk9 hS => ?_)
  replace hQ := lw_kQ hQ hk9
  replace ho := lw_kO2 ho hk9
  clear hk9
  subst hr9
  refine lv_iload hx hb dL_law_763 (lv_at hl 0 rfl) ?_
  refine lv_icmp_eq (tgt := 770) hx hb dL_law_765 (by decide) (fun _ => ?_) (fun h => absurd rfl h)
  refine lv_goto (tgt := 1394) hx hb dL_law_770 (by decide) ?_
  exact W.widen (by omega) (by omega) (next _ _ _ _ _ _ ⟨hQ, hM, ho, hS, lw_d1 hl⟩)
set_option maxHeartbeats 4000000 in
set_option maxRecDepth 100000 in
theorem lc_common {p : Program} {l : Launch} {e : Env} {s : State} {m : MethodId} {below : List Frame} {meth : Method} {c : Code} {b L : Nat} {xs : Nat → Int32} {E : zE} {B : Nat} {Q : State → Prop} {j : Nat} (hl0 : l.stackTraces = false) (C : lwC p s m meth c b L xs E B) (hj : 5 * j + 5 ≤ L) (next : lwN p l e s m below meth c b E B Q j) {σ : zS} {t : Nat} {v : Int64} {H : Heap} {locs : List Loc} {ls : Array Slot} (hw : lwS s b E B j σ t v H locs ls) :
    W p l e room_1 s m #[Value.ref b] below meth c H locs (96 + 8 * j) (18190 + 48 * j) Q (F0 m 773 ls []) := by
  obtain ⟨⟨hx, hb, hret, hml, hown, hts, hX, hbl, hlk, hgv⟩, hL, hK, hH, hN, hB⟩ := C
  obtain ⟨hQ, hM, ho, hS, hl⟩ := hw
  have hown : s.vm.findClass "WholeDeskLaw" = some m.cls := hown
  have ht : ∀ w ∈ zt, w.before #[Value.ref b] s = true := fun w h => hts w (zt_tbl w h)
  have hb : c.code = cL_law := hb
  have hbA : ¬ zGA B b := fun h => by have h9 : B ≤ b := h; omega
  have hL9 : L ≤ 2000000000 := by omega
  have hrm := lw_room hL hj
  obtain ⟨rg, ct, f, st, g⟩ := σ
  obtain ⟨x1, h1⟩ : ∃ x : Int, (xs (5 * j + 1)).toInt = x := ⟨_, rfl⟩
  have z1 : zi x1 := by rw [← h1]; exact zi_toInt _
  obtain ⟨x2, h2⟩ : ∃ x : Int, (xs (5 * j + 2)).toInt = x := ⟨_, rfl⟩
  have z2 : zi x2 := by rw [← h2]; exact zi_toInt _
  obtain ⟨x3, h3⟩ : ∃ x : Int, (xs (5 * j + 3)).toInt = x := ⟨_, rfl⟩
  have z3 : zi x3 := by rw [← h3]; exact zi_toInt _
  refine lv_aload_n hx hb dL_law_773 rfl (lv_at hl 3 rfl) ?_
  refine lw_arg 1 h1 (by decide) hx hb hX hbl hbA hS hj hL9 (lv_at hl 4 rfl) (lv_at hl 0 rfl) dL_law_774 dL_law_775 dL_law_777 dL_law_778 dL_law_779 ?_
  refine lw_arg 2 h2 (by decide) hx hb hX hbl hbA hS hj hL9 (lv_at hl 4 rfl) (lv_at hl 0 rfl) dL_law_780 dL_law_781 dL_law_783 dL_law_784 dL_law_785 ?_
  refine lw_arg 3 h3 (by decide) hx hb hX hbl hbA hS hj hL9 (lv_at hl 4 rfl) (lv_at hl 0 rfl) dL_law_786 dL_law_787 dL_law_789 dL_law_790 dL_law_791 ?_
  refine zyS_i (P' := fun (u : Nat × zS) H => zQ E B u.2 H) 4 (As := [.ref B, .int (iZ x1), .int (iZ x2), .int (iZ x3)]) (rest := []) ⟨hx, hb, hml, hown, ht⟩ (mL_common l hl0 E B rg ct f st g x1 z1 x2 z2 x3 z3) tw_492 tw_490 tw_491 tw_0 qL_common ⟨Nat.le_of_ble_eq_true rfl, Nat.le_of_ble_eq_true rfl⟩ hQ hK ((hH.kept hS.2.1).narrow lwA80) hN hl.1 rfl rfl (Nat.le_of_ble_eq_true rfl) dL_law_792 hrm lwA80 hS (fun r u H locs hp hQ hz9 hk9 hS => ?_)
  replace hM := lw_kM hM hk9
  replace ho := lw_kO ho hk9
  obtain ⟨k, σ1⟩ := u
  obtain ⟨hr, hsp⟩ := hp
  dsimp only at hQ hr hsp
  subst hr
  clear hk9
  refine lv_istore (lv' := [(5, .int (iZ ↑(tc k))), (4, .int (iZ ((5 * j : Nat) : Int))), (3, .ref (B + 95)), (2, .ref (B + 80)), (1, .ref B), (0, .ref b)]) hx hb dL_law_795 hl (by decide) rfl (fun ls hl => ?_)
  refine lv_aload_n hx hb dL_law_797 rfl (lv_at hl 3 rfl) ?_
  refine lw_arg 1 h1 (by decide) hx hb hX hbl hbA hS hj hL9 (lv_at hl 5 rfl) (lv_at hl 1 rfl) dL_law_798 dL_law_799 dL_law_801 dL_law_802 dL_law_803 ?_
  refine lw_arg 2 h2 (by decide) hx hb hX hbl hbA hS hj hL9 (lv_at hl 5 rfl) (lv_at hl 1 rfl) dL_law_804 dL_law_805 dL_law_807 dL_law_808 dL_law_809 ?_
  refine lw_arg 3 h3 (by decide) hx hb hX hbl hbA hS hj hL9 (lv_at hl 5 rfl) (lv_at hl 1 rfl) dL_law_810 dL_law_811 dL_law_813 dL_law_814 dL_law_815 ?_
  refine zyV_v (P' := fun (_ : Unit) H => zQM E (B + 80) σ1 (tc k) H) 3 (As := [.int (iZ x1), .int (iZ x2), .int (iZ x3)]) (rest := []) rfl ⟨hx, hb, hml, hown, ht⟩ (mM_common l E (B + 80) rg ct f st g t x1 z1 x2 z2 x3 z3 k σ1 hQ.1 hsp) tw_856 tw_853 tw_854 tw_855 tw_6 qM_common ⟨Nat.le_of_ble_eq_true rfl, Nat.le_of_ble_eq_true rfl⟩ (hM.recv hK) hM hK hl.1 rfl rfl (Nat.le_of_ble_eq_true rfl) dL_law_816 ⟨by omega, by omega⟩ lwA15 hS (fun u H locs hp hM hz9 hk9 hS => ?_)
  replace hQ := lw_kQ hQ hk9
  replace ho := lw_kO2 ho hk9
  clear hk9
  refine lv_aload_n hx hb dL_law_819 rfl (lv_at hl 3 rfl) ?_
  refine zyV_i (P' := fun (_ : Unit) H => zQM E (B + 80) σ1 (tc k) H) 0 (As := []) (rest := []) rfl ⟨hx, hb, hml, hown, ht⟩ (mM_thr l E (B + 80) σ1 (tc k)) tw_746 tw_743 tw_744 tw_745 tw_6 qM_thrown ⟨Nat.le_of_ble_eq_true rfl, Nat.le_of_ble_eq_true rfl⟩ (hM.recv hK) hM hK hl.1 rfl rfl (Nat.le_of_ble_eq_true rfl) dL_law_820 ⟨by omega, by omega⟩ lwA15 hS (fun r9 u H locs hr9 hM hz9 hk9 hS => ?_)
  replace hQ := lw_kQ hQ hk9
  replace ho := lw_kO2 ho hk9
  clear hk9
  subst hr9
  refine lv_iload hx hb dL_law_823 (lv_at hl 0 rfl) ?_
  refine lv_icmp_eq (tgt := 830) hx hb dL_law_825 (by decide) (fun _ => ?_) (fun h => absurd rfl h)
  refine lv_goto (tgt := 1394) hx hb dL_law_830 (by decide) ?_
  exact W.widen (by omega) (by omega) (next _ _ _ _ _ _ ⟨hQ, hM, ho, hS, lw_d1 hl⟩)
set_option maxHeartbeats 4000000 in
set_option maxRecDepth 100000 in
theorem lc_inverse {p : Program} {l : Launch} {e : Env} {s : State} {m : MethodId} {below : List Frame} {meth : Method} {c : Code} {b L : Nat} {xs : Nat → Int32} {E : zE} {B : Nat} {Q : State → Prop} {j : Nat} (hl0 : l.stackTraces = false) (C : lwC p s m meth c b L xs E B) (hj : 5 * j + 5 ≤ L) (next : lwN p l e s m below meth c b E B Q j) {σ : zS} {t : Nat} {v : Int64} {H : Heap} {locs : List Loc} {ls : Array Slot} (hw : lwS s b E B j σ t v H locs ls) :
    W p l e room_1 s m #[Value.ref b] below meth c H locs (96 + 8 * j) (18190 + 48 * j) Q (F0 m 833 ls []) := by
  obtain ⟨⟨hx, hb, hret, hml, hown, hts, hX, hbl, hlk, hgv⟩, hL, hK, hH, hN, hB⟩ := C
  obtain ⟨hQ, hM, ho, hS, hl⟩ := hw
  have hown : s.vm.findClass "WholeDeskLaw" = some m.cls := hown
  have ht : ∀ w ∈ zt, w.before #[Value.ref b] s = true := fun w h => hts w (zt_tbl w h)
  have hb : c.code = cL_law := hb
  have hbA : ¬ zGA B b := fun h => by have h9 : B ≤ b := h; omega
  have hL9 : L ≤ 2000000000 := by omega
  have hrm := lw_room hL hj
  obtain ⟨rg, ct, f, st, g⟩ := σ
  obtain ⟨x1, h1⟩ : ∃ x : Int, (xs (5 * j + 1)).toInt = x := ⟨_, rfl⟩
  have z1 : zi x1 := by rw [← h1]; exact zi_toInt _
  obtain ⟨x2, h2⟩ : ∃ x : Int, (xs (5 * j + 2)).toInt = x := ⟨_, rfl⟩
  have z2 : zi x2 := by rw [← h2]; exact zi_toInt _
  obtain ⟨x3, h3⟩ : ∃ x : Int, (xs (5 * j + 3)).toInt = x := ⟨_, rfl⟩
  have z3 : zi x3 := by rw [← h3]; exact zi_toInt _
  refine lv_aload_n hx hb dL_law_833 rfl (lv_at hl 3 rfl) ?_
  refine lw_arg 1 h1 (by decide) hx hb hX hbl hbA hS hj hL9 (lv_at hl 4 rfl) (lv_at hl 0 rfl) dL_law_834 dL_law_835 dL_law_837 dL_law_838 dL_law_839 ?_
  refine lw_arg 2 h2 (by decide) hx hb hX hbl hbA hS hj hL9 (lv_at hl 4 rfl) (lv_at hl 0 rfl) dL_law_840 dL_law_841 dL_law_843 dL_law_844 dL_law_845 ?_
  refine lw_arg 3 h3 (by decide) hx hb hX hbl hbA hS hj hL9 (lv_at hl 4 rfl) (lv_at hl 0 rfl) dL_law_846 dL_law_847 dL_law_849 dL_law_850 dL_law_851 ?_
  refine zyS_i (P' := fun (u : Nat × zS) H => zQ E B u.2 H) 4 (As := [.ref B, .int (iZ x1), .int (iZ x2), .int (iZ x3)]) (rest := []) ⟨hx, hb, hml, hown, ht⟩ (mL_inverse l hl0 E B rg ct f st g x1 z1 x2 z2 x3 z3) tw_503 tw_501 tw_502 tw_0 qL_inverse ⟨Nat.le_of_ble_eq_true rfl, Nat.le_of_ble_eq_true rfl⟩ hQ hK ((hH.kept hS.2.1).narrow lwA80) hN hl.1 rfl rfl (Nat.le_of_ble_eq_true rfl) dL_law_852 hrm lwA80 hS (fun r u H locs hp hQ hz9 hk9 hS => ?_)
  replace hM := lw_kM hM hk9
  replace ho := lw_kO ho hk9
  obtain ⟨k, σ1⟩ := u
  obtain ⟨hr, hsp⟩ := hp
  dsimp only at hQ hr hsp
  subst hr
  clear hk9
  refine lv_istore (lv' := [(5, .int (iZ ↑(tc k))), (4, .int (iZ ((5 * j : Nat) : Int))), (3, .ref (B + 95)), (2, .ref (B + 80)), (1, .ref B), (0, .ref b)]) hx hb dL_law_855 hl (by decide) rfl (fun ls hl => ?_)
  refine lv_aload_n hx hb dL_law_857 rfl (lv_at hl 3 rfl) ?_
  refine lw_arg 1 h1 (by decide) hx hb hX hbl hbA hS hj hL9 (lv_at hl 5 rfl) (lv_at hl 1 rfl) dL_law_858 dL_law_859 dL_law_861 dL_law_862 dL_law_863 ?_
  refine lw_arg 2 h2 (by decide) hx hb hX hbl hbA hS hj hL9 (lv_at hl 5 rfl) (lv_at hl 1 rfl) dL_law_864 dL_law_865 dL_law_867 dL_law_868 dL_law_869 ?_
  refine lw_arg 3 h3 (by decide) hx hb hX hbl hbA hS hj hL9 (lv_at hl 5 rfl) (lv_at hl 1 rfl) dL_law_870 dL_law_871 dL_law_873 dL_law_874 dL_law_875 ?_
  refine zyV_v (P' := fun (_ : Unit) H => zQM E (B + 80) σ1 (tc k) H) 3 (As := [.int (iZ x1), .int (iZ x2), .int (iZ x3)]) (rest := []) rfl ⟨hx, hb, hml, hown, ht⟩ (mM_inverse l E (B + 80) rg ct f st g t x1 z1 x2 z2 x3 z3 k σ1 hQ.1 hsp) tw_860 tw_857 tw_858 tw_859 tw_6 qM_inverse ⟨Nat.le_of_ble_eq_true rfl, Nat.le_of_ble_eq_true rfl⟩ (hM.recv hK) hM hK hl.1 rfl rfl (Nat.le_of_ble_eq_true rfl) dL_law_876 ⟨by omega, by omega⟩ lwA15 hS (fun u H locs hp hM hz9 hk9 hS => ?_)
  replace hQ := lw_kQ hQ hk9
  replace ho := lw_kO2 ho hk9
  clear hk9
  refine lv_aload_n hx hb dL_law_879 rfl (lv_at hl 3 rfl) ?_
  refine zyV_i (P' := fun (_ : Unit) H => zQM E (B + 80) σ1 (tc k) H) 0 (As := []) (rest := []) rfl ⟨hx, hb, hml, hown, ht⟩ (mM_thr l E (B + 80) σ1 (tc k)) tw_746 tw_743 tw_744 tw_745 tw_6 qM_thrown ⟨Nat.le_of_ble_eq_true rfl, Nat.le_of_ble_eq_true rfl⟩ (hM.recv hK) hM hK hl.1 rfl rfl (Nat.le_of_ble_eq_true rfl) dL_law_880 ⟨by omega, by omega⟩ lwA15 hS (fun r9 u H locs hr9 hM hz9 hk9 hS => ?_)
  replace hQ := lw_kQ hQ hk9
  replace ho := lw_kO2 ho hk9
  clear hk9
  subst hr9
  refine lv_iload hx hb dL_law_883 (lv_at hl 0 rfl) ?_
  refine lv_icmp_eq (tgt := 890) hx hb dL_law_885 (by decide) (fun _ => ?_) (fun h => absurd rfl h)
  refine lv_goto (tgt := 1394) hx hb dL_law_890 (by decide) ?_
  exact W.widen (by omega) (by omega) (next _ _ _ _ _ _ ⟨hQ, hM, ho, hS, lw_d1 hl⟩)
