set_option maxHeartbeats 4000000 in
set_option maxRecDepth 100000 in
theorem lc_powerModulo {p : Program} {l : Launch} {e : Env} {s : State} {m : MethodId} {below : List Frame} {meth : Method} {c : Code} {b L : Nat} {xs : Nat → Int32} {E : zE} {B : Nat} {Q : State → Prop} {j : Nat} (hl0 : l.stackTraces = false) (C : lwC p s m meth c b L xs E B) (hj : 5 * j + 5 ≤ L) (next : lwN p l e s m below meth c b E B Q j) {σ : zS} {t : Nat} {v : Int64} {H : Heap} {locs : List Loc} {ls : Array Slot} (hw : lwS s b E B j σ t v H locs ls) :
    W p l e room_1 s m #[Value.ref b] below meth c H locs (96 + 8 * j) (18190 + 48 * j) Q (F0 m 893 ls []) := by
  obtain ⟨⟨hx, hb, hret, hml, hown, hts, hX, hbl, hlk, hgv⟩, hL, hK, hH, hN, hB⟩ := C
  obtain ⟨hQ, hM, ho, hS, hl⟩ := hw
  have hown : s.vm.findClass "WholeDeskLaw" = some m.cls := hown
  have ht : ∀ w ∈ zt, w.before #[Value.ref b] s = true := fun w h => hts w (zt_tbl w h)
  have hb : c.code = cL_law := hb
  have hbA : ¬ zGA B b := fun h => by have h9 : B ≤ b := h; omega
  have hL9 : L ≤ 2000000000 := by omega
  have hrm := lw_room hL hj
  obtain ⟨rg, ct, f, st, g⟩ := σ
  obtain ⟨x1, h1⟩ : ∃ x : Int, (xs (5 * j + 1)).toInt = x := ⟨_, rfl⟩
  have z1 : zi x1 := by rw [← h1]; exact zi_toInt _
  obtain ⟨x2, h2⟩ : ∃ x : Int, (xs (5 * j + 2)).toInt = x := ⟨_, rfl⟩
  have z2 : zi x2 := by rw [← h2]; exact zi_toInt _
  obtain ⟨x3, h3⟩ : ∃ x : Int, (xs (5 * j + 3)).toInt = x := ⟨_, rfl⟩
  have z3 : zi x3 := by rw [← h3]; exact zi_toInt _
  obtain ⟨x4, h4⟩ : ∃ x : Int, (xs (5 * j + 4)).toInt = x := ⟨_, rfl⟩
  have z4 : zi x4 := by rw [← h4]; exact zi_toInt _
  refine lv_aload_n hx hb dL_law_893 rfl (lv_at hl 3 rfl) ?_
  refine lw_arg 1 h1 (by decide) hx hb hX hbl hbA hS hj hL9 (lv_at hl 4 rfl) (lv_at hl 0 rfl) dL_law_894 dL_law_895 dL_law_897 dL_law_898 dL_law_899 ?_
  refine lw_arg 2 h2 (by decide) hx hb hX hbl hbA hS hj hL9 (lv_at hl 4 rfl) (lv_at hl 0 rfl) dL_law_900 dL_law_901 dL_law_903 dL_law_904 dL_law_905 ?_
  refine lw_arg 3 h3 (by decide) hx hb hX hbl hbA hS hj hL9 (lv_at hl 4 rfl) (lv_at hl 0 rfl) dL_law_906 dL_law_907 dL_law_909 dL_law_910 dL_law_911 ?_
  refine lw_arg 4 h4 (by decide) hx hb hX hbl hbA hS hj hL9 (lv_at hl 4 rfl) (lv_at hl 0 rfl) dL_law_912 dL_law_913 dL_law_915 dL_law_916 dL_law_917 ?_
  refine zyS_i (P' := fun (u : Nat × zS) H => zQ E B u.2 H) 5 (As := [.ref B, .int (iZ x1), .int (iZ x2), .int (iZ x3), .int (iZ x4)]) (rest := []) ⟨hx, hb, hml, hown, ht⟩ (mL_powerModulo l hl0 E B rg ct f st g x1 z1 x2 z2 x3 z3 x4 z4) tw_526 tw_524 tw_525 tw_0 qL_powerModulo ⟨Nat.le_of_ble_eq_true rfl, Nat.le_of_ble_eq_true rfl⟩ hQ hK ((hH.kept hS.2.1).narrow lwA80) hN hl.1 rfl rfl (Nat.le_of_ble_eq_true rfl) dL_law_918 hrm lwA80 hS (fun r u H locs hp hQ hz9 hk9 hS => ?_)
  replace hM := lw_kM hM hk9
  replace ho := lw_kO ho hk9
  obtain ⟨k, σ1⟩ := u
  obtain ⟨hr, hsp⟩ := hp
  dsimp only at hQ hr hsp
  subst hr
  clear hk9
  refine lv_istore (lv' := [(5, .int (iZ ↑(tc k))), (4, .int (iZ ((5 * j : Nat) : Int))), (3, .ref (B + 95)), (2, .ref (B + 80)), (1, .ref B), (0, .ref b)]) hx hb dL_law_921 hl (by decide) rfl (fun ls hl => ?_)
  refine lv_aload_n hx hb dL_law_923 rfl (lv_at hl 3 rfl) ?_
  refine lw_arg 1 h1 (by decide) hx hb hX hbl hbA hS hj hL9 (lv_at hl 5 rfl) (lv_at hl 1 rfl) dL_law_924 dL_law_925 dL_law_927 dL_law_928 dL_law_929 ?_
  refine lw_arg 2 h2 (by decide) hx hb hX hbl hbA hS hj hL9 (lv_at hl 5 rfl) (lv_at hl 1 rfl) dL_law_930 dL_law_931 dL_law_933 dL_law_934 dL_law_935 ?_
  refine lw_arg 3 h3 (by decide) hx hb hX hbl hbA hS hj hL9 (lv_at hl 5 rfl) (lv_at hl 1 rfl) dL_law_936 dL_law_937 dL_law_939 dL_law_940 dL_law_941 ?_
  refine lw_arg 4 h4 (by decide) hx hb hX hbl hbA hS hj hL9 (lv_at hl 5 rfl) (lv_at hl 1 rfl) dL_law_942 dL_law_943 dL_law_945 dL_law_946 dL_law_947 ?_
  refine zyV_v (P' := fun (_ : Unit) H => zQM E (B + 80) σ1 (tc k) H) 4 (As := [.int (iZ x1), .int (iZ x2), .int (iZ x3), .int (iZ x4)]) (rest := []) rfl ⟨hx, hb, hml, hown, ht⟩ (mM_powerModulo l E (B + 80) rg ct f st g t x1 z1 x2 z2 x3 z3 x4 z4 k σ1 hQ.1 hsp) tw_868 tw_865 tw_866 tw_867 tw_6 qM_powerModulo ⟨Nat.le_of_ble_eq_true rfl, Nat.le_of_ble_eq_true rfl⟩ (hM.recv hK) hM hK hl.1 rfl rfl (Nat.le_of_ble_eq_true rfl) dL_law_948 ⟨by omega, by omega⟩ lwA15 hS (fun u H locs hp hM hz9 hk9 hS => ?_)
  replace hQ := lw_kQ hQ hk9
  replace ho := lw_kO2 ho hk9
  clear hk9
  refine lv_aload_n hx hb dL_law_951 rfl (lv_at hl 3 rfl) ?_
  refine zyV_i (P' := fun (_ : Unit) H => zQM E (B + 80) σ1 (tc k) H) 0 (As := []) (rest := []) rfl ⟨hx, hb, hml, hown, ht⟩ (mM_thr l E (B + 80) σ1 (tc k)) tw_746 tw_743 tw_744 tw_745 tw_6 qM_thrown ⟨Nat.le_of_ble_eq_true rfl, Nat.le_of_ble_eq_true rfl⟩ (hM.recv hK) hM hK hl.1 rfl rfl (Nat.le_of_ble_eq_true rfl) dL_law_952 ⟨by omega, by omega⟩ lwA15 hS (fun r9 u H locs hr9 hM hz9 hk9 hS => ?_)
  replace hQ := lw_kQ hQ hk9
  replace ho := lw_kO2 ho hk9
  clear hk9
  subst hr9
  refine lv_iload hx hb dL_law_955 (lv_at hl 0 rfl) ?_
  refine lv_icmp_eq (tgt := 962) hx hb dL_law_957 (by decide) (fun _ => ?_) (fun h => absurd rfl h)
  refine lv_goto (tgt := 1394) hx hb dL_law_962 (by decide) ?_
  exact W.widen (by omega) (by omega) (next _ _ _ _ _ _ ⟨hQ, hM, ho, hS, lw_d1 hl⟩)
set_option maxHeartbeats 4000000 in
set_option maxRecDepth 100000 in
theorem lc_combine {p : Program} {l : Launch} {e : Env} {s : State} {m : MethodId} {below : List Frame} {meth : Method} {c : Code} {b L : Nat} {xs : Nat → Int32} {E : zE} {B : Nat} {Q : State → Prop} {j : Nat} (hl0 : l.stackTraces = false) (C : lwC p s m meth c b L xs E B) (hj : 5 * j + 5 ≤ L) (next : lwN p l e s m below meth c b E B Q j) {σ : zS} {t : Nat} {v : Int64} {H : Heap} {locs : List Loc} {ls : Array Slot} (hw : lwS s b E B j σ t v H locs ls) :
    W p l e room_1 s m #[Value.ref b] below meth c H locs (96 + 8 * j) (18190 + 48 * j) Q (F0 m 965 ls []) := by
  obtain ⟨⟨hx, hb, hret, hml, hown, hts, hX, hbl, hlk, hgv⟩, hL, hK, hH, hN, hB⟩ := C
  obtain ⟨hQ, hM, ho, hS, hl⟩ := hw
  have hown : s.vm.findClass "WholeDeskLaw" = some m.cls := hown
  have ht : ∀ w ∈ zt, w.before #[Value.ref b] s = true := fun w h => hts w (zt_tbl w h)
  have hb : c.code = cL_law := hb
  have hbA : ¬ zGA B b := fun h => by have h9 : B ≤ b := h; omega
  have hL9 : L ≤ 2000000000 := by omega
  have hrm := lw_room hL hj
  obtain ⟨rg, ct, f, st, g⟩ := σ
  obtain ⟨x1, h1⟩ : ∃ x : Int, (xs (5 * j + 1)).toInt = x := ⟨_, rfl⟩
  have z1 : zi x1 := by rw [← h1]; exact zi_toInt _
  obtain ⟨x2, h2⟩ : ∃ x : Int, (xs (5 * j + 2)).toInt = x := ⟨_, rfl⟩
  have z2 : zi x2 := by rw [← h2]; exact zi_toInt _
  obtain ⟨x3, h3⟩ : ∃ x : Int, (xs (5 * j + 3)).toInt = x := ⟨_, rfl⟩
  have z3 : zi x3 := by rw [← h3]; exact zi_toInt _
  obtain ⟨x4, h4⟩ : ∃ x : Int, (xs (5 * j + 4)).toInt = x := ⟨_, rfl⟩
  have z4 : zi x4 := by rw [← h4]; exact zi_toInt _
  refine lv_aload_n hx hb dL_law_965 rfl (lv_at hl 3 rfl) ?_
  refine lw_arg 1 h1 (by decide) hx hb hX hbl hbA hS hj hL9 (lv_at hl 4 rfl) (lv_at hl 0 rfl) dL_law_966 dL_law_967 dL_law_969 dL_law_970 dL_law_971 ?_
  refine lw_arg 2 h2 (by decide) hx hb hX hbl hbA hS hj hL9 (lv_at hl 4 rfl) (lv_at hl 0 rfl) dL_law_972 dL_law_973 dL_law_975 dL_law_976 dL_law_977 ?_
  refine lw_arg 3 h3 (by decide) hx hb hX hbl hbA hS hj hL9 (lv_at hl 4 rfl) (lv_at hl 0 rfl) dL_law_978 dL_law_979 dL_law_981 dL_law_982 dL_law_983 ?_
  refine lw_arg 4 h4 (by decide) hx hb hX hbl hbA hS hj hL9 (lv_at hl 4 rfl) (lv_at hl 0 rfl) dL_law_984 dL_law_985 dL_law_987 dL_law_988 dL_law_989 ?_
  refine zyS_i (P' := fun (u : Nat × zS) H => zQ E B u.2 H) 5 (As := [.ref B, .int (iZ x1), .int (iZ x2), .int (iZ x3), .int (iZ x4)]) (rest := []) ⟨hx, hb, hml, hown, ht⟩ (mL_combine l hl0 E B rg ct f st g x1 z1 x2 z2 x3 z3 x4 z4) tw_547 tw_545 tw_546 tw_0 qL_combine ⟨Nat.le_of_ble_eq_true rfl, Nat.le_of_ble_eq_true rfl⟩ hQ hK ((hH.kept hS.2.1).narrow lwA80) hN hl.1 rfl rfl (Nat.le_of_ble_eq_true rfl) dL_law_990 hrm lwA80 hS (fun r u H locs hp hQ hz9 hk9 hS => ?_)
  replace hM := lw_kM hM hk9
  replace ho := lw_kO ho hk9
  obtain ⟨k, σ1⟩ := u
  obtain ⟨hr, hsp⟩ := hp
  dsimp only at hQ hr hsp
  subst hr
  clear hk9
  refine lv_istore (lv' := [(5, .int (iZ ↑(tc k))), (4, .int (iZ ((5 * j : Nat) : Int))), (3, .ref (B + 95)), (2, .ref (B + 80)), (1, .ref B), (0, .ref b)]) hx hb dL_law_993 hl (by decide) rfl (fun ls hl => ?_)
  refine lv_aload_n hx hb dL_law_995 rfl (lv_at hl 3 rfl) ?_
  refine lw_arg 1 h1 (by decide) hx hb hX hbl hbA hS hj hL9 (lv_at hl 5 rfl) (lv_at hl 1 rfl) dL_law_996 dL_law_997 dL_law_999 dL_law_1000 dL_law_1001 ?_
  refine lw_arg 2 h2 (by decide) hx hb hX hbl hbA hS hj hL9 (lv_at hl 5 rfl) (lv_at hl 1 rfl) dL_law_1002 dL_law_1003 dL_law_1005 dL_law_1006 dL_law_1007 ?_
  refine lw_arg 3 h3 (by decide) hx hb hX hbl hbA hS hj hL9 (lv_at hl 5 rfl) (lv_at hl 1 rfl) dL_law_1008 dL_law_1009 dL_law_1011 dL_law_1012 dL_law_1013 ?_
  refine lw_arg 4 h4 (by decide) hx hb hX hbl hbA hS hj hL9 (lv_at hl 5 rfl) (lv_at hl 1 rfl) dL_law_1014 dL_law_1015 dL_law_1017 dL_law_1018 dL_law_1019 ?_
  refine zyV_v (P' := fun (_ : Unit) H => zQM E (B + 80) σ1 (tc k) H) 4 (As := [.int (iZ x1), .int (iZ x2), .int (iZ x3), .int (iZ x4)]) (rest := []) rfl ⟨hx, hb, hml, hown, ht⟩ (mM_combine l E (B + 80) rg ct f st g t x1 z1 x2 z2 x3 z3 x4 z4 k σ1 hQ.1 hsp) tw_872 tw_869 tw_870 tw_871 tw_6 qM_combine ⟨Nat.le_of_ble_eq_true rfl, Nat.le_of_ble_eq_true rfl⟩ (hM.recv hK) hM hK hl.1 rfl rfl (Nat.le_of_ble_eq_true rfl) dL_law_1020 ⟨by omega, by omega⟩ lwA15 hS (fun u H locs hp hM hz9 hk9 hS => ?_)
  replace hQ := lw_kQ hQ hk9
  replace ho := lw_kO2 ho hk9
  clear hk9
  refine lv_aload_n hx hb dL_law_1023 rfl (lv_at hl 3 rfl) ?_
  refine zyV_i (P' := fun (_ : Unit) H => zQM E (B + 80) σ1 (tc k) H) 0 (As := []) (rest := []) rfl ⟨hx, hb, hml, hown, ht⟩ (mM_thr l E (B + 80) σ1 (tc k)) tw_746 tw_743 tw_744 tw_745 tw_6 qM_thrown ⟨Nat.le_of_ble_eq_true rfl, Nat.le_of_ble_eq_true rfl⟩ (hM.recv hK) hM hK hl.1 rfl rfl (Nat.le_of_ble_eq_true rfl) dL_law_1024 ⟨by omega, by omega⟩ lwA15 hS (fun r9 u H locs hr9 hM hz9 hk9 hS => ?_)
  replace hQ := lw_kQ hQ hk9
  replace ho := lw_kO2 ho hk9
  clear hk9
  subst hr9
  refine lv_iload hx hb dL_law_1027 (lv_at hl 0 rfl) ?_
  refine lv_icmp_eq (tgt := 1034) hx hb dL_law_1029 (by decide) (fun _ => ?_) (fun h => absurd rfl h)
  refine lv_goto (tgt := 1394) hx hb dL_law_1034 (by decide) ?_
  exact W.widen (by omega) (by omega) (next _ _ _ _ _ _ ⟨hQ, hM, ho, hS, lw_d1 hl⟩)
set_option maxHeartbeats 4000000 in
set_option maxRecDepth 100000 in
theorem lc_shift {p : Program} {l : Launch} {e : Env} {s : State} {m : MethodId} {below : List Frame} {meth : Method} {c : Code} {b L : Nat} {xs : Nat → Int32} {E : zE} {B : Nat} {Q : State → Prop} {j : Nat} (hl0 : l.stackTraces = false) (C : lwC p s m meth c b L xs E B) (hj : 5 * j + 5 ≤ L) (next : lwN p l e s m below meth c b E B Q j) {σ : zS} {t : Nat} {v : Int64} {H : Heap} {locs : List Loc} {ls : Array Slot} (hw : lwS s b E B j σ t v H locs ls) :
    W p l e room_1 s m #[Value.ref b] below meth c H locs (96 + 8 * j) (18190 + 48 * j) Q (F0 m 1037 ls []) := by
  obtain ⟨⟨hx, hb, hret, hml, hown, hts, hX, hbl, hlk, hgv⟩, hL, hK, hH, hN, hB⟩ := C
  obtain ⟨hQ, hM, ho, hS, hl⟩ := hw
  have hown : s.vm.findClass "WholeDeskLaw" = some m.cls := hown
  have ht : ∀ w ∈ zt, w.before #[Value.ref b] s = true := fun w h => hts w (zt_tbl w h)
  have hb : c.code = cL_law := hb
  have hbA : ¬ zGA B b := fun h => by have h9 : B ≤ b := h; omega
  have hL9 : L ≤ 2000000000 := by omega
  have hrm := lw_room hL hj
  obtain ⟨rg, ct, f, st, g⟩ := σ
  obtain ⟨x1, h1⟩ : ∃ x : Int, (xs (5 * j + 1)).toInt = x := ⟨_, rfl⟩
  have z1 : zi x1 := by rw [← h1]; exact zi_toInt _
  obtain ⟨x2, h2⟩ : ∃ x : Int, (xs (5 * j + 2)).toInt = x := ⟨_, rfl⟩
  have z2 : zi x2 := by rw [← h2]; exact zi_toInt _
  obtain ⟨x3, h3⟩ : ∃ x : Int, (xs (5 * j + 3)).toInt = x := ⟨_, rfl⟩
  have z3 : zi x3 := by rw [← h3]; exact zi_toInt _
  refine lv_aload_n hx hb dL_law_1037 rfl (lv_at hl 3 rfl) ?_
  refine lw_arg 1 h1 (by decide) hx hb hX hbl hbA hS hj hL9 (lv_at hl 4 rfl) (lv_at hl 0 rfl) dL_law_1038 dL_law_1039 dL_law_1041 dL_law_1042 dL_law_1043 ?_
  refine lw_arg 2 h2 (by decide) hx hb hX hbl hbA hS hj hL9 (lv_at hl 4 rfl) (lv_at hl 0 rfl) dL_law_1044 dL_law_1045 dL_law_1047 dL_law_1048 dL_law_1049 ?_
  refine lw_arg 3 h3 (by decide) hx hb hX hbl hbA hS hj hL9 (lv_at hl 4 rfl) (lv_at hl 0 rfl) dL_law_1050 dL_law_1051 dL_law_1053 dL_law_1054 dL_law_1055 ?_
  refine zyS_i (P' := fun (u : Nat × zS) H => zQ E B u.2 H) 4 (As := [.ref B, .int (iZ x1), .int (iZ x2), .int (iZ x3)]) (rest := []) ⟨hx, hb, hml, hown, ht⟩ (mL_shift l hl0 E B rg ct f st g x1 z1 x2 z2 x3 z3) tw_569 tw_567 tw_568 tw_0 qL_shift ⟨Nat.le_of_ble_eq_true rfl, Nat.le_of_ble_eq_true rfl⟩ hQ hK ((hH.kept hS.2.1).narrow lwA80) hN hl.1 rfl rfl (Nat.le_of_ble_eq_true rfl) dL_law_1056 hrm lwA80 hS (fun r u H locs hp hQ hz9 hk9 hS => ?_)
  replace hM := lw_kM hM hk9
  replace ho := lw_kO ho hk9
  obtain ⟨k, σ1⟩ := u
  obtain ⟨hr, hsp⟩ := hp
  dsimp only at hQ hr hsp
  subst hr
  clear hk9
  refine lv_istore (lv' := [(5, .int (iZ ↑(tc k))), (4, .int (iZ ((5 * j : Nat) : Int))), (3, .ref (B + 95)), (2, .ref (B + 80)), (1, .ref B), (0, .ref b)]) hx hb dL_law_1059 hl (by decide) rfl (fun ls hl => ?_)
  refine lv_aload_n hx hb dL_law_1061 rfl (lv_at hl 3 rfl) ?_
  refine lw_arg 1 h1 (by decide) hx hb hX hbl hbA hS hj hL9 (lv_at hl 5 rfl) (lv_at hl 1 rfl) dL_law_1062 dL_law_1063 dL_law_1065 dL_law_1066 dL_law_1067 ?_
  refine lw_arg 2 h2 (by decide) hx hb hX hbl hbA hS hj hL9 (lv_at hl 5 rfl) (lv_at hl 1 rfl) dL_law_1068 dL_law_1069 dL_law_1071 dL_law_1072 dL_law_1073 ?_
  refine lw_arg 3 h3 (by decide) hx hb hX hbl hbA hS hj hL9 (lv_at hl 5 rfl) (lv_at hl 1 rfl) dL_law_1074 dL_law_1075 dL_law_1077 dL_law_1078 dL_law_1079 ?_
  refine zyV_v (P' := fun (_ : Unit) H => zQM E (B + 80) σ1 (tc k) H) 3 (As := [.int (iZ x1), .int (iZ x2), .int (iZ x3)]) (rest := []) rfl ⟨hx, hb, hml, hown, ht⟩ (mM_shift l E (B + 80) rg ct f st g t x1 z1 x2 z2 x3 z3 k σ1 hQ.1 hsp) tw_882 tw_879 tw_880 tw_881 tw_6 qM_shift ⟨Nat.le_of_ble_eq_true rfl, Nat.le_of_ble_eq_true rfl⟩ (hM.recv hK) hM hK hl.1 rfl rfl (Nat.le_of_ble_eq_true rfl) dL_law_1080 ⟨by omega, by omega⟩ lwA15 hS (fun u H locs hp hM hz9 hk9 hS => ?_)
  replace hQ := lw_kQ hQ hk9
  replace ho := lw_kO2 ho hk9
  clear hk9
  refine lv_aload_n hx hb dL_law_1083 rfl (lv_at hl 3 rfl) ?_
  refine zyV_i (P' := fun (_ : Unit) H => zQM E (B + 80) σ1 (tc k) H) 0 (As := []) (rest := []) rfl ⟨hx, hb, hml, hown, ht⟩ (mM_thr l E (B + 80) σ1 (tc k)) tw_746 tw_743 tw_744 tw_745 tw_6 qM_thrown ⟨Nat.le_of_ble_eq_true rfl, Nat.le_of_ble_eq_true rfl⟩ (hM.recv hK) hM hK hl.1 rfl rfl (Nat.le_of_ble_eq_true rfl) dL_law_1084 ⟨by omega, by omega⟩ lwA15 hS (fun r9 u H locs hr9 hM hz9 hk9 hS => ?_)
  replace hQ := lw_kQ hQ hk9
  replace ho := lw_kO2 ho hk9
  clear hk9
  subst hr9
  refine lv_iload hx hb dL_law_1087 (lv_at hl 0 rfl) ?_
  refine lv_icmp_eq (tgt := 1094) hx hb dL_law_1089 (by decide) (fun _ => ?_) (fun h => absurd rfl h)
  refine lv_goto (tgt := 1394) hx hb dL_law_1094 (by decide) ?_
  exact W.widen (by omega) (by omega) (next _ _ _ _ _ _ ⟨hQ, hM, ho, hS, lw_d1 hl⟩)
