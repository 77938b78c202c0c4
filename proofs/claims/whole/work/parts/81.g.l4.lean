set_option maxHeartbeats 4000000 in
set_option maxRecDepth 100000 in
theorem lc_told {p : Program} {l : Launch} {e : Env} {s : State} {m : MethodId} {below : List Frame} {meth : Method} {c : Code} {b L : Nat} {xs : Nat → Int32} {E : zE} {B : Nat} {Q : State → Prop} {j : Nat} (hl0 : l.stackTraces = false) (C : lwC p s m meth c b L xs E B) (hj : 5 * j + 5 ≤ L) (next : lwN p l e s m below meth c b E B Q j) {σ : zS} {t : Nat} {v : Int64} {H : Heap} {locs : List Loc} {ls : Array Slot} (hw : lwS s b E B j σ t v H locs ls) :
    W p l e room_1 s m #[Value.ref b] below meth c H locs (96 + 8 * j) (18190 + 48 * j) Q (F0 m 1233 ls []) := by
  obtain ⟨⟨hx, hb, hret, hml, hown, hts, hX, hbl, hlk, hgv⟩, hL, hK, hH, hN, hB⟩ := C
  obtain ⟨hQ, hM, ho, hS, hl⟩ := hw
  have hown : s.vm.findClass "WholeDeskLaw" = some m.cls := hown
  have ht : ∀ w ∈ zt, w.before #[Value.ref b] s = true := fun w h => hts w (zt_tbl w h)
  have hb : c.code = cL_law := hb
  have hbA : ¬ zGA B b := fun h => by have h9 : B ≤ b := h; omega
  have hL9 : L ≤ 2000000000 := by omega
  have hrm := lw_room hL hj
  obtain ⟨rg, ct, f, st, g⟩ := σ
  obtain ⟨x1, h1⟩ : ∃ x : Int, (xs (5 * j + 1)).toInt = x := ⟨_, rfl⟩
  have z1 : zi x1 := by rw [← h1]; exact zi_toInt _
  obtain ⟨x2, h2⟩ : ∃ x : Int, (xs (5 * j + 2)).toInt = x := ⟨_, rfl⟩
  have z2 : zi x2 := by rw [← h2]; exact zi_toInt _
  refine lv_aload_n hx hb dL_law_1233 rfl (lv_at hl 3 rfl) ?_
  refine lw_arg 1 h1 (by decide) hx hb hX hbl hbA hS hj hL9 (lv_at hl 4 rfl) (lv_at hl 0 rfl) dL_law_1234 dL_law_1235 dL_law_1237 dL_law_1238 dL_law_1239 ?_
  refine lw_arg 2 h2 (by decide) hx hb hX hbl hbA hS hj hL9 (lv_at hl 4 rfl) (lv_at hl 0 rfl) dL_law_1240 dL_law_1241 dL_law_1243 dL_law_1244 dL_law_1245 ?_
  refine lv_aload_n hx hb dL_law_1246 rfl (lv_at hl 1 rfl) ?_
  refine zyS_i (P' := fun (u : Nat × zS × Int64) H => zQ E B u.2.1 H ∧ zOc E (B + 95) u.2.2 H) 4 (As := [.ref B, .int (iZ x1), .int (iZ x2), .ref (B + 95)]) (rest := []) ⟨hx, hb, hml, hown, ht⟩ (mL_told l hl0 E B rg ct f st g x1 z1 x2 z2 (B + 95) v (by omega)) tw_626 tw_624 tw_625 tw_0 qL_told ⟨Nat.le_of_ble_eq_true rfl, Nat.le_of_ble_eq_true rfl⟩ ⟨hQ, ho⟩ hK ((hH.kept hS.2.1).narrow lwAo) hN hl.1 rfl rfl (Nat.le_of_ble_eq_true rfl) dL_law_1247 hrm lwAo hS (fun r u H locs hp hQ hz9 hk9 hS => ?_)
  obtain ⟨hQ, ho⟩ := hQ
  replace hM := lw_kMo hM hk9
  obtain ⟨k, σ1, v1⟩ := u
  obtain ⟨hr, hsp, hv1⟩ := hp
  dsimp only at hQ ho hr hsp hv1
  subst hr
  clear hk9
  refine lv_istore (lv' := [(5, .int (iZ ↑(tc k))), (4, .int (iZ ((5 * j : Nat) : Int))), (3, .ref (B + 95)), (2, .ref (B + 80)), (1, .ref B), (0, .ref b)]) hx hb dL_law_1250 hl (by decide) rfl (fun ls hl => ?_)
  refine lv_aload_n hx hb dL_law_1252 rfl (lv_at hl 3 rfl) ?_
  refine lw_arg 1 h1 (by decide) hx hb hX hbl hbA hS hj hL9 (lv_at hl 5 rfl) (lv_at hl 1 rfl) dL_law_1253 dL_law_1254 dL_law_1256 dL_law_1257 dL_law_1258 ?_
  refine lw_arg 2 h2 (by decide) hx hb hX hbl hbA hS hj hL9 (lv_at hl 5 rfl) (lv_at hl 1 rfl) dL_law_1259 dL_law_1260 dL_law_1262 dL_law_1263 dL_law_1264 ?_
  refine zyV_l (P' := fun (_ : Unit) H => zQM E (B + 80) σ1 (tc k) H) 2 (As := [.int (iZ x1), .int (iZ x2)]) (rest := []) rfl ⟨hx, hb, hml, hown, ht⟩ (mM_told l E (B + 80) rg ct f st g t x1 z1 x2 z2 k σ1 hQ.1 hsp) tw_894 tw_891 tw_892 tw_893 tw_6 qM_told ⟨Nat.le_of_ble_eq_true rfl, Nat.le_of_ble_eq_true rfl⟩ (hM.recv hK) hM hK hl.1 rfl rfl (Nat.le_of_ble_eq_true rfl) dL_law_1265 ⟨by omega, by omega⟩ lwA15 hS (fun r u H locs hp hM hz9 hk9 hS => ?_)
  replace hQ := lw_kQ hQ hk9
  replace ho := lw_kO2 ho hk9
  clear hk9
  refine lv_lstore (lv' := [(6, .long r), (5, .int (iZ ↑(tc k))), (4, .int (iZ ((5 * j : Nat) : Int))), (3, .ref (B + 95)), (2, .ref (B + 80)), (1, .ref B), (0, .ref b)]) hx hb dL_law_1268 hl (by decide) rfl (fun ls hl => ?_)
  refine lv_aload_n hx hb dL_law_1270 rfl (lv_at hl 4 rfl) ?_
  refine zyV_i (P' := fun (_ : Unit) H => zQM E (B + 80) σ1 (tc k) H) 0 (As := []) (rest := []) rfl ⟨hx, hb, hml, hown, ht⟩ (mM_thr l E (B + 80) σ1 (tc k)) tw_746 tw_743 tw_744 tw_745 tw_6 qM_thrown ⟨Nat.le_of_ble_eq_true rfl, Nat.le_of_ble_eq_true rfl⟩ (hM.recv hK) hM hK hl.1 rfl rfl (Nat.le_of_ble_eq_true rfl) dL_law_1271 ⟨by omega, by omega⟩ lwA15 hS (fun r9 u H locs hr9 hM hz9 hk9 hS => ?_)
  replace hQ := lw_kQ hQ hk9
  replace ho := lw_kO2 ho hk9
  clear hk9
  subst hr9
  refine lv_iload hx hb dL_law_1274 (lv_at hl 1 rfl) ?_
  refine lv_icmp_eq (tgt := 1281) hx hb dL_law_1276 (by decide) (fun _ => ?_) (fun h => absurd rfl h)
  refine lv_iload hx hb dL_law_1281 (lv_at hl 1 rfl) ?_
  refine lv_if_ne (tgt := 1297) hx hb dL_law_1283 (by decide) (fun _ => ?_) (fun h => ?_)
  · refine lv_goto (tgt := 1394) hx hb dL_law_1297 (by decide) ?_
    exact W.widen (by omega) (by omega) (next _ _ _ _ _ _ ⟨hQ, hM, ho, hS, lw_d1 (lw_d1 hl)⟩)
  · have hk0 := lw_tc0 (SP_k hsp) h
    obtain ⟨r9, h9, h8⟩ := hv1 hk0
    have hg : 0 ≤ x2 ∧ x2 ≤ 4 := by
      rcases hsp with h | h | h | h
      · exact absurd (h.1.symm.trans hk0) (by decide)
      · exact absurd (h.1.symm.trans hk0) (by decide)
      · exact absurd (h.1.symm.trans hk0) (by decide)
      · exact h.2.1.2
    have heq : v1 = r := by rw [h9]; exact tld_uniq hg.1 hg.2 h8 (hp hk0)
    refine lv_aload_n hx hb dL_law_1286 rfl (lv_at hl 3 rfl) ?_
    refine lv_iconst (v := iZ 0) hx hb dL_law_1287 rfl ?_
    refine lw_old hx hb hK ho dL_law_1288 ?_
    refine lv_lload hx hb dL_law_1289 (lv_at hl 0 rfl) ?_
    refine W.lcmp hx hb dL_law_1291 ?_
    refine lv_if_eq (tgt := 1297) hx hb dL_law_1292 (by decide) (fun _ => ?_) (fun h => absurd ((lg_cmp_eq _ _).mpr heq) h)
    refine lv_goto (tgt := 1394) hx hb dL_law_1297 (by decide) ?_
    exact W.widen (by omega) (by omega) (next _ _ _ _ _ _ ⟨hQ, hM, ho, hS, lw_d1 (lw_d1 hl)⟩)
set_option maxHeartbeats 4000000 in
set_option maxRecDepth 100000 in
theorem lc_written {p : Program} {l : Launch} {e : Env} {s : State} {m : MethodId} {below : List Frame} {meth : Method} {c : Code} {b L : Nat} {xs : Nat → Int32} {E : zE} {B : Nat} {Q : State → Prop} {j : Nat} (hl0 : l.stackTraces = false) (C : lwC p s m meth c b L xs E B) (hj : 5 * j + 5 ≤ L) (next : lwN p l e s m below meth c b E B Q j) {σ : zS} {t : Nat} {v : Int64} {H : Heap} {locs : List Loc} {ls : Array Slot} (hw : lwS s b E B j σ t v H locs ls) :
    W p l e room_1 s m #[Value.ref b] below meth c H locs (96 + 8 * j) (18190 + 48 * j) Q (F0 m 1300 ls []) := by
  obtain ⟨⟨hx, hb, hret, hml, hown, hts, hX, hbl, hlk, hgv⟩, hL, hK, hH, hN, hB⟩ := C
  obtain ⟨hQ, hM, ho, hS, hl⟩ := hw
  have hown : s.vm.findClass "WholeDeskLaw" = some m.cls := hown
  have ht : ∀ w ∈ zt, w.before #[Value.ref b] s = true := fun w h => hts w (zt_tbl w h)
  have hb : c.code = cL_law := hb
  have hbA : ¬ zGA B b := fun h => by have h9 : B ≤ b := h; omega
  have hL9 : L ≤ 2000000000 := by omega
  have hrm := lw_room hL hj
  obtain ⟨rg, ct, f, st, g⟩ := σ
  obtain ⟨x1, h1⟩ : ∃ x : Int, (xs (5 * j + 1)).toInt = x := ⟨_, rfl⟩
  have z1 : zi x1 := by rw [← h1]; exact zi_toInt _
  obtain ⟨x2, h2⟩ : ∃ x : Int, (xs (5 * j + 2)).toInt = x := ⟨_, rfl⟩
  have z2 : zi x2 := by rw [← h2]; exact zi_toInt _
  refine lv_aload_n hx hb dL_law_1300 rfl (lv_at hl 3 rfl) ?_
  refine lw_arg 1 h1 (by decide) hx hb hX hbl hbA hS hj hL9 (lv_at hl 4 rfl) (lv_at hl 0 rfl) dL_law_1301 dL_law_1302 dL_law_1304 dL_law_1305 dL_law_1306 ?_
  refine lw_arg 2 h2 (by decide) hx hb hX hbl hbA hS hj hL9 (lv_at hl 4 rfl) (lv_at hl 0 rfl) dL_law_1307 dL_law_1308 dL_law_1310 dL_law_1311 dL_law_1312 ?_
  refine lv_aload_n hx hb dL_law_1313 rfl (lv_at hl 1 rfl) ?_
  refine zyS_i (P' := fun (u : Nat × zS × Int64) H => zQ E B u.2.1 H ∧ zOc E (B + 95) u.2.2 H) 4 (As := [.ref B, .int (iZ x1), .int (iZ x2), .ref (B + 95)]) (rest := []) ⟨hx, hb, hml, hown, ht⟩ (mL_written l hl0 E B rg ct f st g x1 z1 x2 z2 (B + 95) v (by omega)) tw_648 tw_646 tw_647 tw_0 qL_written ⟨Nat.le_of_ble_eq_true rfl, Nat.le_of_ble_eq_true rfl⟩ ⟨hQ, ho⟩ hK ((hH.kept hS.2.1).narrow lwAo) hN hl.1 rfl rfl (Nat.le_of_ble_eq_true rfl) dL_law_1314 hrm lwAo hS (fun r u H locs hp hQ hz9 hk9 hS => ?_)
  obtain ⟨hQ, ho⟩ := hQ
  replace hM := lw_kMo hM hk9
  obtain ⟨k, σ1, v1⟩ := u
  obtain ⟨hr, hsp, hv1⟩ := hp
  dsimp only at hQ ho hr hsp hv1
  subst hr
  clear hk9
  refine lv_istore (lv' := [(5, .int (iZ ↑(tc k))), (4, .int (iZ ((5 * j : Nat) : Int))), (3, .ref (B + 95)), (2, .ref (B + 80)), (1, .ref B), (0, .ref b)]) hx hb dL_law_1317 hl (by decide) rfl (fun ls hl => ?_)
  have hq9 : ∃ q : Nat, k = 0 → ∃ r9 : Int32, v1 = r9.toInt64 ∧ r9 = iZ q ∧ wrel (rg x1.toNat) x2.toNat σ1.2.2.2.1 σ1.2.2.2.2 q := by
    by_cases h9 : k = 0
    · obtain ⟨r9, h8, q, h7, h6⟩ := hv1 h9
      exact ⟨q, fun _ => ⟨r9, h8, h7, h6⟩⟩
    · exact ⟨0, fun h => absurd h h9⟩
  obtain ⟨q, hq9⟩ := hq9
  refine lv_aload_n hx hb dL_law_1319 rfl (lv_at hl 3 rfl) ?_
  refine lw_arg 1 h1 (by decide) hx hb hX hbl hbA hS hj hL9 (lv_at hl 5 rfl) (lv_at hl 1 rfl) dL_law_1320 dL_law_1321 dL_law_1323 dL_law_1324 dL_law_1325 ?_
  refine lw_arg 2 h2 (by decide) hx hb hX hbl hbA hS hj hL9 (lv_at hl 5 rfl) (lv_at hl 1 rfl) dL_law_1326 dL_law_1327 dL_law_1329 dL_law_1330 dL_law_1331 ?_
  refine zyV_i (P' := fun (_ : Unit) H => zQM E (B + 80) σ1 (tc k) H) 2 (As := [.int (iZ x1), .int (iZ x2)]) (rest := []) rfl ⟨hx, hb, hml, hown, ht⟩ (mM_written l E (B + 80) rg ct f st g t x1 z1 x2 z2 q k σ1 hQ.1 hsp (fun h => (hq9 h).elim fun _ h => h.2.2)) tw_899 tw_896 tw_897 tw_898 tw_6 qM_written ⟨Nat.le_of_ble_eq_true rfl, Nat.le_of_ble_eq_true rfl⟩ (hM.recv hK) hM hK hl.1 rfl rfl (Nat.le_of_ble_eq_true rfl) dL_law_1332 ⟨by omega, by omega⟩ lwA15 hS (fun r u H locs hp hM hz9 hk9 hS => ?_)
  replace hQ := lw_kQ hQ hk9
  replace ho := lw_kO2 ho hk9
  clear hk9
  refine lv_istore (lv' := [(6, .int r), (5, .int (iZ ↑(tc k))), (4, .int (iZ ((5 * j : Nat) : Int))), (3, .ref (B + 95)), (2, .ref (B + 80)), (1, .ref B), (0, .ref b)]) hx hb dL_law_1335 hl (by decide) rfl (fun ls hl => ?_)
  refine lv_aload_n hx hb dL_law_1337 rfl (lv_at hl 4 rfl) ?_
  refine zyV_i (P' := fun (_ : Unit) H => zQM E (B + 80) σ1 (tc k) H) 0 (As := []) (rest := []) rfl ⟨hx, hb, hml, hown, ht⟩ (mM_thr l E (B + 80) σ1 (tc k)) tw_746 tw_743 tw_744 tw_745 tw_6 qM_thrown ⟨Nat.le_of_ble_eq_true rfl, Nat.le_of_ble_eq_true rfl⟩ (hM.recv hK) hM hK hl.1 rfl rfl (Nat.le_of_ble_eq_true rfl) dL_law_1338 ⟨by omega, by omega⟩ lwA15 hS (fun r9 u H locs hr9 hM hz9 hk9 hS => ?_)
  replace hQ := lw_kQ hQ hk9
  replace ho := lw_kO2 ho hk9
  clear hk9
  subst hr9
  refine lv_iload hx hb dL_law_1341 (lv_at hl 1 rfl) ?_
  refine lv_icmp_eq (tgt := 1348) hx hb dL_law_1343 (by decide) (fun _ => ?_) (fun h => absurd rfl h)
  refine lv_iload hx hb dL_law_1348 (lv_at hl 1 rfl) ?_
  refine lv_if_ne (tgt := 1365) hx hb dL_law_1350 (by decide) (fun _ => ?_) (fun h => ?_)
  · refine lv_goto (tgt := 1394) hx hb dL_law_1365 (by decide) ?_
    exact W.widen (by omega) (by omega) (next _ _ _ _ _ _ ⟨hQ, hM, ho, hS, lw_d1 (lw_d1 hl)⟩)
  · have hk0 := lw_tc0 (SP_k hsp) h
    obtain ⟨r9, h9, h8, _⟩ := hq9 hk0
    have heq : v1 = r.toInt64 := by rw [h9, h8, hp hk0]
    refine lv_aload_n hx hb dL_law_1353 rfl (lv_at hl 3 rfl) ?_
    refine lv_iconst (v := iZ 0) hx hb dL_law_1354 rfl ?_
    refine lw_old hx hb hK ho dL_law_1355 ?_
    refine lv_iload hx hb dL_law_1356 (lv_at hl 0 rfl) ?_
    refine lv_i2l hx hb dL_law_1358 rfl ?_
    refine W.lcmp hx hb dL_law_1359 ?_
    refine lv_if_eq (tgt := 1365) hx hb dL_law_1360 (by decide) (fun _ => ?_) (fun h => absurd ((lg_cmp_eq _ _).mpr heq) h)
    refine lv_goto (tgt := 1394) hx hb dL_law_1365 (by decide) ?_
    exact W.widen (by omega) (by omega) (next _ _ _ _ _ _ ⟨hQ, hM, ho, hS, lw_d1 (lw_d1 hl)⟩)
set_option maxHeartbeats 4000000 in
set_option maxRecDepth 100000 in
theorem lc_text {p : Program} {l : Launch} {e : Env} {s : State} {m : MethodId} {below : List Frame} {meth : Method} {c : Code} {b L : Nat} {xs : Nat → Int32} {E : zE} {B : Nat} {Q : State → Prop} {j : Nat} (hl0 : l.stackTraces = false) (C : lwC p s m meth c b L xs E B) (hj : 5 * j + 5 ≤ L) (next : lwN p l e s m below meth c b E B Q j) {σ : zS} {t : Nat} {v : Int64} {H : Heap} {locs : List Loc} {ls : Array Slot} (hw : lwS s b E B j σ t v H locs ls) :
    W p l e room_1 s m #[Value.ref b] below meth c H locs (96 + 8 * j) (18190 + 48 * j) Q (F0 m 1368 ls []) := by
  obtain ⟨⟨hx, hb, hret, hml, hown, hts, hX, hbl, hlk, hgv⟩, hL, hK, hH, hN, hB⟩ := C
  obtain ⟨hQ, hM, ho, hS, hl⟩ := hw
  have hown : s.vm.findClass "WholeDeskLaw" = some m.cls := hown
  have ht : ∀ w ∈ zt, w.before #[Value.ref b] s = true := fun w h => hts w (zt_tbl w h)
  have hb : c.code = cL_law := hb
  have hbA : ¬ zGA B b := fun h => by have h9 : B ≤ b := h; omega
  have hL9 : L ≤ 2000000000 := by omega
  have hrm := lw_room hL hj
  obtain ⟨rg, ct, f, st, g⟩ := σ
  obtain ⟨x1, h1⟩ : ∃ x : Int, (xs (5 * j + 1)).toInt = x := ⟨_, rfl⟩
  have z1 : zi x1 := by rw [← h1]; exact zi_toInt _
  refine lv_aload_n hx hb dL_law_1368 rfl (lv_at hl 3 rfl) ?_
  refine lw_arg 1 h1 (by decide) hx hb hX hbl hbA hS hj hL9 (lv_at hl 4 rfl) (lv_at hl 0 rfl) dL_law_1369 dL_law_1370 dL_law_1372 dL_law_1373 dL_law_1374 ?_
  refine zyV_l (P' := fun (u : zS) H => zQ E B u H) 1 (As := [.int (iZ x1)]) (rest := []) rfl ⟨hx, hb, hml, hown, ht⟩ (mS_text l E B rg ct f st g x1 z1) tw_147 tw_144 tw_145 tw_146 tw_1 qS_text ⟨Nat.le_of_ble_eq_true rfl, Nat.le_of_ble_eq_true rfl⟩ (hQ.recv hK) hQ hK hl.1 rfl rfl (Nat.le_of_ble_eq_true rfl) dL_law_1375 ⟨by omega, by omega⟩ lwA80 hS (fun r u H locs hp hQ hz9 hk9 hS => ?_)
  replace hM := lw_kM hM hk9
  replace ho := lw_kO ho hk9
  obtain ⟨hr, hu⟩ := hp
  subst hr
  subst hu
  clear hk9
  refine lv_aload_n hx hb dL_law_1378 rfl (lv_at hl 2 rfl) ?_
  refine lw_arg 1 h1 (by decide) hx hb hX hbl hbA hS hj hL9 (lv_at hl 4 rfl) (lv_at hl 0 rfl) dL_law_1379 dL_law_1380 dL_law_1382 dL_law_1383 dL_law_1384 ?_
  refine zyV_l (P' := fun (_ : Unit) H => zQM E (B + 80) (rg, ct, f, st, g) (tc 0) H) 1 (As := [.int (iZ x1)]) (rest := [.long (lZ ↑(txt st g x1 8))]) rfl ⟨hx, hb, hml, hown, ht⟩ (mM_text l E (B + 80) rg ct f st g t x1 z1 0 (rg, ct, f, st, g) hQ.1 (Or.inr (Or.inr (Or.inr ⟨rfl, trivial, rfl⟩)))) tw_906 tw_903 tw_904 tw_905 tw_6 qM_text ⟨Nat.le_of_ble_eq_true rfl, Nat.le_of_ble_eq_true rfl⟩ (hM.recv hK) hM hK hl.1 rfl rfl (Nat.le_of_ble_eq_true rfl) dL_law_1385 ⟨by omega, by omega⟩ lwA15 hS (fun r u H locs hp hM hz9 hk9 hS => ?_)
  replace hQ := lw_kQ hQ hk9
  replace ho := lw_kO2 ho hk9
  subst hp
  refine W.lcmp hx hb dL_law_1388 ?_
  refine lv_if_eq (tgt := 1394) hx hb dL_law_1389 (by decide) (fun _ => ?_) (fun h => absurd ((lg_cmp_eq _ _).mpr rfl) h)
  exact W.widen (by omega) (by omega) (next _ _ _ _ _ _ ⟨hQ, hM, ho, hS, hl⟩)
