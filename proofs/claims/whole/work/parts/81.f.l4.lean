set_option maxHeartbeats 4000000 in
set_option maxRecDepth 100000 in
theorem lc_bit {p : Program} {l : Launch} {e : Env} {s : State} {m : MethodId} {below : List Frame} {meth : Method} {c : Code} {b L : Nat} {xs : Nat → Int32} {E : zE} {B : Nat} {Q : State → Prop} {j : Nat} (hl0 : l.stackTraces = false) (C : lwC p s m meth c b L xs E B) (hj : 5 * j + 5 ≤ L) (next : lwN p l e s m below meth c b E B Q j) {σ : zS} {t : Nat} {v : Int64} {H : Heap} {locs : List Loc} {ls : Array Slot} (hw : lwS s b E B j σ t v H locs ls) :
    W p l e room_1 s m #[Value.ref b] below meth c H locs (96 + 8 * j) (18190 + 48 * j) Q (F0 m 1097 ls []) := by
  obtain ⟨⟨hx, hb, hret, hml, hown, hts, hX, hbl, hlk, hgv⟩, hL, hK, hH, hN, hB⟩ := C
  obtain ⟨hQ, hM, ho, hS, hl⟩ := hw
  have hown : s.vm.findClass "WholeDeskLaw" = some m.cls := hown
  have ht : ∀ w ∈ zt, w.before #[Value.ref b] s = true := fun w h => hts w (zt_tbl w h)
  have hb : c.code = cL_law := hb
  have hbA : ¬ zGA B b := fun h => by have h9 : B ≤ b := h; omega
  have hL9 : L ≤ 2000000000 := by omega
  have hrm := lw_room hL hj
  obtain ⟨rg, ct, f, st, g⟩ := σ
  obtain ⟨x1, h1⟩ : ∃ x : Int, (xs (5 * j + 1)).toInt = x := ⟨_, rfl⟩
  have z1 : zi x1 := by rw [← h1]; exact zi_toInt _
  obtain ⟨x2, h2⟩ : ∃ x : Int, (xs (5 * j + 2)).toInt = x := ⟨_, rfl⟩
  have z2 : zi x2 := by rw [← h2]; exact zi_toInt _
  refine lv_aload_n hx hb dL_law_1097 rfl (lv_at hl 3 rfl) ?_
  refine lw_arg 1 h1 (by decide) hx hb hX hbl hbA hS hj hL9 (lv_at hl 4 rfl) (lv_at hl 0 rfl) dL_law_1098 dL_law_1099 dL_law_1101 dL_law_1102 dL_law_1103 ?_
  refine lw_arg 2 h2 (by decide) hx hb hX hbl hbA hS hj hL9 (lv_at hl 4 rfl) (lv_at hl 0 rfl) dL_law_1104 dL_law_1105 dL_law_1107 dL_law_1108 dL_law_1109 ?_
  refine lv_aload_n hx hb dL_law_1110 rfl (lv_at hl 1 rfl) ?_
  refine zyS_i (P' := fun (u : Nat × zS × Int64) H => zQ E B u.2.1 H ∧ zOc E (B + 95) u.2.2 H) 4 (As := [.ref B, .int (iZ x1), .int (iZ x2), .ref (B + 95)]) (rest := []) ⟨hx, hb, hml, hown, ht⟩ (mL_bit l hl0 E B rg ct f st g x1 z1 x2 z2 (B + 95) v (by omega)) tw_601 tw_599 tw_600 tw_0 qL_bit ⟨Nat.le_of_ble_eq_true rfl, Nat.le_of_ble_eq_true rfl⟩ ⟨hQ, ho⟩ hK ((hH.kept hS.2.1).narrow lwAo) hN hl.1 rfl rfl (Nat.le_of_ble_eq_true rfl) dL_law_1111 hrm lwAo hS (fun r u H locs hp hQ hz9 hk9 hS => ?_)
  obtain ⟨hQ, ho⟩ := hQ
  replace hM := lw_kMo hM hk9
  obtain ⟨k, σ1, v1⟩ := u
  obtain ⟨hr, hsp, hv1⟩ := hp
  dsimp only at hQ ho hr hsp hv1
  subst hr
  clear hk9
  refine lv_istore (lv' := [(5, .int (iZ ↑(tc k))), (4, .int (iZ ((5 * j : Nat) : Int))), (3, .ref (B + 95)), (2, .ref (B + 80)), (1, .ref B), (0, .ref b)]) hx hb dL_law_1114 hl (by decide) rfl (fun ls hl => ?_)
  refine lv_aload_n hx hb dL_law_1116 rfl (lv_at hl 3 rfl) ?_
  refine lw_arg 1 h1 (by decide) hx hb hX hbl hbA hS hj hL9 (lv_at hl 5 rfl) (lv_at hl 1 rfl) dL_law_1117 dL_law_1118 dL_law_1120 dL_law_1121 dL_law_1122 ?_
  refine lw_arg 2 h2 (by decide) hx hb hX hbl hbA hS hj hL9 (lv_at hl 5 rfl) (lv_at hl 1 rfl) dL_law_1123 dL_law_1124 dL_law_1126 dL_law_1127 dL_law_1128 ?_
  refine zyV_i (P' := fun (_ : Unit) H => zQM E (B + 80) σ1 (tc k) H) 2 (As := [.int (iZ x1), .int (iZ x2)]) (rest := []) rfl ⟨hx, hb, hml, hown, ht⟩ (mM_bit l E (B + 80) rg ct f st g t x1 z1 x2 z2 k σ1 hQ.1 hsp) tw_886 tw_883 tw_884 tw_885 tw_6 qM_bit ⟨Nat.le_of_ble_eq_true rfl, Nat.le_of_ble_eq_true rfl⟩ (hM.recv hK) hM hK hl.1 rfl rfl (Nat.le_of_ble_eq_true rfl) dL_law_1129 ⟨by omega, by omega⟩ lwA15 hS (fun r u H locs hp hM hz9 hk9 hS => ?_)
  replace hQ := lw_kQ hQ hk9
  replace ho := lw_kO2 ho hk9
  clear hk9
  refine lv_istore (lv' := [(6, .int r), (5, .int (iZ ↑(tc k))), (4, .int (iZ ((5 * j : Nat) : Int))), (3, .ref (B + 95)), (2, .ref (B + 80)), (1, .ref B), (0, .ref b)]) hx hb dL_law_1132 hl (by decide) rfl (fun ls hl => ?_)
  refine lv_aload_n hx hb dL_law_1134 rfl (lv_at hl 4 rfl) ?_
  refine zyV_i (P' := fun (_ : Unit) H => zQM E (B + 80) σ1 (tc k) H) 0 (As := []) (rest := []) rfl ⟨hx, hb, hml, hown, ht⟩ (mM_thr l E (B + 80) σ1 (tc k)) tw_746 tw_743 tw_744 tw_745 tw_6 qM_thrown ⟨Nat.le_of_ble_eq_true rfl, Nat.le_of_ble_eq_true rfl⟩ (hM.recv hK) hM hK hl.1 rfl rfl (Nat.le_of_ble_eq_true rfl) dL_law_1135 ⟨by omega, by omega⟩ lwA15 hS (fun r9 u H locs hr9 hM hz9 hk9 hS => ?_)
  replace hQ := lw_kQ hQ hk9
  replace ho := lw_kO2 ho hk9
  clear hk9
  subst hr9
  refine lv_iload hx hb dL_law_1138 (lv_at hl 1 rfl) ?_
  refine lv_icmp_eq (tgt := 1145) hx hb dL_law_1140 (by decide) (fun _ => ?_) (fun h => absurd rfl h)
  refine lv_iload hx hb dL_law_1145 (lv_at hl 1 rfl) ?_
  refine lv_if_ne (tgt := 1162) hx hb dL_law_1147 (by decide) (fun _ => ?_) (fun h => ?_)
  · refine lv_goto (tgt := 1394) hx hb dL_law_1162 (by decide) ?_
    exact W.widen (by omega) (by omega) (next _ _ _ _ _ _ ⟨hQ, hM, ho, hS, lw_d1 (lw_d1 hl)⟩)
  · have hk0 := lw_tc0 (SP_k hsp) h
    obtain ⟨r9, h9, h8⟩ := hv1 hk0
    have heq : v1 = r.toInt64 := by rw [h9, h8, hp hk0]
    refine lv_aload_n hx hb dL_law_1150 rfl (lv_at hl 3 rfl) ?_
    refine lv_iconst (v := iZ 0) hx hb dL_law_1151 rfl ?_
    refine lw_old hx hb hK ho dL_law_1152 ?_
    refine lv_iload hx hb dL_law_1153 (lv_at hl 0 rfl) ?_
    refine lv_i2l hx hb dL_law_1155 rfl ?_
    refine W.lcmp hx hb dL_law_1156 ?_
    refine lv_if_eq (tgt := 1162) hx hb dL_law_1157 (by decide) (fun _ => ?_) (fun h => absurd ((lg_cmp_eq _ _).mpr heq) h)
    refine lv_goto (tgt := 1394) hx hb dL_law_1162 (by decide) ?_
    exact W.widen (by omega) (by omega) (next _ _ _ _ _ _ ⟨hQ, hM, ho, hS, lw_d1 (lw_d1 hl)⟩)
set_option maxHeartbeats 4000000 in
set_option maxRecDepth 100000 in
theorem lc_compare {p : Program} {l : Launch} {e : Env} {s : State} {m : MethodId} {below : List Frame} {meth : Method} {c : Code} {b L : Nat} {xs : Nat → Int32} {E : zE} {B : Nat} {Q : State → Prop} {j : Nat} (hl0 : l.stackTraces = false) (C : lwC p s m meth c b L xs E B) (hj : 5 * j + 5 ≤ L) (next : lwN p l e s m below meth c b E B Q j) {σ : zS} {t : Nat} {v : Int64} {H : Heap} {locs : List Loc} {ls : Array Slot} (hw : lwS s b E B j σ t v H locs ls) :
    W p l e room_1 s m #[Value.ref b] below meth c H locs (96 + 8 * j) (18190 + 48 * j) Q (F0 m 1165 ls []) := by
  obtain ⟨⟨hx, hb, hret, hml, hown, hts, hX, hbl, hlk, hgv⟩, hL, hK, hH, hN, hB⟩ := C
  obtain ⟨hQ, hM, ho, hS, hl⟩ := hw
  have hown : s.vm.findClass "WholeDeskLaw" = some m.cls := hown
  have ht : ∀ w ∈ zt, w.before #[Value.ref b] s = true := fun w h => hts w (zt_tbl w h)
  have hb : c.code = cL_law := hb
  have hbA : ¬ zGA B b := fun h => by have h9 : B ≤ b := h; omega
  have hL9 : L ≤ 2000000000 := by omega
  have hrm := lw_room hL hj
  obtain ⟨rg, ct, f, st, g⟩ := σ
  obtain ⟨x1, h1⟩ : ∃ x : Int, (xs (5 * j + 1)).toInt = x := ⟨_, rfl⟩
  have z1 : zi x1 := by rw [← h1]; exact zi_toInt _
  obtain ⟨x2, h2⟩ : ∃ x : Int, (xs (5 * j + 2)).toInt = x := ⟨_, rfl⟩
  have z2 : zi x2 := by rw [← h2]; exact zi_toInt _
  refine lv_aload_n hx hb dL_law_1165 rfl (lv_at hl 3 rfl) ?_
  refine lw_arg 1 h1 (by decide) hx hb hX hbl hbA hS hj hL9 (lv_at hl 4 rfl) (lv_at hl 0 rfl) dL_law_1166 dL_law_1167 dL_law_1169 dL_law_1170 dL_law_1171 ?_
  refine lw_arg 2 h2 (by decide) hx hb hX hbl hbA hS hj hL9 (lv_at hl 4 rfl) (lv_at hl 0 rfl) dL_law_1172 dL_law_1173 dL_law_1175 dL_law_1176 dL_law_1177 ?_
  refine lv_aload_n hx hb dL_law_1178 rfl (lv_at hl 1 rfl) ?_
  refine zyS_i (P' := fun (u : Nat × zS × Int64) H => zQ E B u.2.1 H ∧ zOc E (B + 95) u.2.2 H) 4 (As := [.ref B, .int (iZ x1), .int (iZ x2), .ref (B + 95)]) (rest := []) ⟨hx, hb, hml, hown, ht⟩ (mL_compare l hl0 E B rg ct f st g x1 z1 x2 z2 (B + 95) v (by omega)) tw_614 tw_612 tw_613 tw_0 qL_compare ⟨Nat.le_of_ble_eq_true rfl, Nat.le_of_ble_eq_true rfl⟩ ⟨hQ, ho⟩ hK ((hH.kept hS.2.1).narrow lwAo) hN hl.1 rfl rfl (Nat.le_of_ble_eq_true rfl) dL_law_1179 hrm lwAo hS (fun r u H locs hp hQ hz9 hk9 hS => ?_)
  obtain ⟨hQ, ho⟩ := hQ
  replace hM := lw_kMo hM hk9
  obtain ⟨k, σ1, v1⟩ := u
  obtain ⟨hr, hsp, hv1⟩ := hp
  dsimp only at hQ ho hr hsp hv1
  subst hr
  clear hk9
  refine lv_istore (lv' := [(5, .int (iZ ↑(tc k))), (4, .int (iZ ((5 * j : Nat) : Int))), (3, .ref (B + 95)), (2, .ref (B + 80)), (1, .ref B), (0, .ref b)]) hx hb dL_law_1182 hl (by decide) rfl (fun ls hl => ?_)
  refine lv_aload_n hx hb dL_law_1184 rfl (lv_at hl 3 rfl) ?_
  refine lw_arg 1 h1 (by decide) hx hb hX hbl hbA hS hj hL9 (lv_at hl 5 rfl) (lv_at hl 1 rfl) dL_law_1185 dL_law_1186 dL_law_1188 dL_law_1189 dL_law_1190 ?_
  refine lw_arg 2 h2 (by decide) hx hb hX hbl hbA hS hj hL9 (lv_at hl 5 rfl) (lv_at hl 1 rfl) dL_law_1191 dL_law_1192 dL_law_1194 dL_law_1195 dL_law_1196 ?_
  refine zyV_i (P' := fun (_ : Unit) H => zQM E (B + 80) σ1 (tc k) H) 2 (As := [.int (iZ x1), .int (iZ x2)]) (rest := []) rfl ⟨hx, hb, hml, hown, ht⟩ (mM_compare l E (B + 80) rg ct f st g t x1 z1 x2 z2 k σ1 hQ.1 hsp) tw_890 tw_887 tw_888 tw_889 tw_6 qM_compare ⟨Nat.le_of_ble_eq_true rfl, Nat.le_of_ble_eq_true rfl⟩ (hM.recv hK) hM hK hl.1 rfl rfl (Nat.le_of_ble_eq_true rfl) dL_law_1197 ⟨by omega, by omega⟩ lwA15 hS (fun r u H locs hp hM hz9 hk9 hS => ?_)
  replace hQ := lw_kQ hQ hk9
  replace ho := lw_kO2 ho hk9
  clear hk9
  refine lv_istore (lv' := [(6, .int r), (5, .int (iZ ↑(tc k))), (4, .int (iZ ((5 * j : Nat) : Int))), (3, .ref (B + 95)), (2, .ref (B + 80)), (1, .ref B), (0, .ref b)]) hx hb dL_law_1200 hl (by decide) rfl (fun ls hl => ?_)
  refine lv_aload_n hx hb dL_law_1202 rfl (lv_at hl 4 rfl) ?_
  refine zyV_i (P' := fun (_ : Unit) H => zQM E (B + 80) σ1 (tc k) H) 0 (As := []) (rest := []) rfl ⟨hx, hb, hml, hown, ht⟩ (mM_thr l E (B + 80) σ1 (tc k)) tw_746 tw_743 tw_744 tw_745 tw_6 qM_thrown ⟨Nat.le_of_ble_eq_true rfl, Nat.le_of_ble_eq_true rfl⟩ (hM.recv hK) hM hK hl.1 rfl rfl (Nat.le_of_ble_eq_true rfl) dL_law_1203 ⟨by omega, by omega⟩ lwA15 hS (fun r9 u H locs hr9 hM hz9 hk9 hS => ?_)
  replace hQ := lw_kQ hQ hk9
  replace ho := lw_kO2 ho hk9
  clear hk9
  subst hr9
  refine lv_iload hx hb dL_law_1206 (lv_at hl 1 rfl) ?_
  refine lv_icmp_eq (tgt := 1213) hx hb dL_law_1208 (by decide) (fun _ => ?_) (fun h => absurd rfl h)
  refine lv_iload hx hb dL_law_1213 (lv_at hl 1 rfl) ?_
  refine lv_if_ne (tgt := 1230) hx hb dL_law_1215 (by decide) (fun _ => ?_) (fun h => ?_)
  · refine lv_goto (tgt := 1394) hx hb dL_law_1230 (by decide) ?_
    exact W.widen (by omega) (by omega) (next _ _ _ _ _ _ ⟨hQ, hM, ho, hS, lw_d1 (lw_d1 hl)⟩)
  · have hk0 := lw_tc0 (SP_k hsp) h
    obtain ⟨r9, h9, h8⟩ := hv1 hk0
    have heq : v1 = r.toInt64 := by rw [h9, h8, hp hk0]
    refine lv_aload_n hx hb dL_law_1218 rfl (lv_at hl 3 rfl) ?_
    refine lv_iconst (v := iZ 0) hx hb dL_law_1219 rfl ?_
    refine lw_old hx hb hK ho dL_law_1220 ?_
    refine lv_iload hx hb dL_law_1221 (lv_at hl 0 rfl) ?_
    refine lv_i2l hx hb dL_law_1223 rfl ?_
    refine W.lcmp hx hb dL_law_1224 ?_
    refine lv_if_eq (tgt := 1230) hx hb dL_law_1225 (by decide) (fun _ => ?_) (fun h => absurd ((lg_cmp_eq _ _).mpr heq) h)
    refine lv_goto (tgt := 1394) hx hb dL_law_1230 (by decide) ?_
    exact W.widen (by omega) (by omega) (next _ _ _ _ _ _ ⟨hQ, hM, ho, hS, lw_d1 (lw_d1 hl)⟩)
