set_option maxHeartbeats 4000000 in
set_option maxRecDepth 100000 in
theorem lc_write {p : Program} {l : Launch} {e : Env} {s : State} {m : MethodId} {below : List Frame} {meth : Method} {c : Code} {b L : Nat} {xs : Nat → Int32} {E : zE} {B : Nat} {Q : State → Prop} {j : Nat} (hl0 : l.stackTraces = false) (C : lwC p s m meth c b L xs E B) (hj : 5 * j + 5 ≤ L) (next : lwN p l e s m below meth c b E B Q j) {σ : zS} {t : Nat} {v : Int64} {H : Heap} {locs : List Loc} {ls : Array Slot} (hw : lwS s b E B j σ t v H locs ls) :
    W p l e room_1 s m #[Value.ref b] below meth c H locs (96 + 8 * j) (18190 + 48 * j) Q (F0 m 132 ls []) := by
  obtain ⟨⟨hx, hb, hret, hml, hown, hts, hX, hbl, hlk, hgv⟩, hL, hK, hH, hN, hB⟩ := C
  obtain ⟨hQ, hM, ho, hS, hl⟩ := hw
  have hown : s.vm.findClass "WholeDeskLaw" = some m.cls := hown
  have ht : ∀ w ∈ zt, w.before #[Value.ref b] s = true := fun w h => hts w (zt_tbl w h)
  have hb : c.code = cL_law := hb
  have hbA : ¬ zGA B b := fun h => by have h9 : B ≤ b := h; omega
  have hL9 : L ≤ 2000000000 := by omega
  have hrm := lw_room hL hj
  obtain ⟨rg, ct, f, st, g⟩ := σ
  obtain ⟨x1, h1⟩ : ∃ x : Int, (xs (5 * j + 1)).toInt = x := ⟨_, rfl⟩
  have z1 : zi x1 := by rw [← h1]; exact zi_toInt _
  obtain ⟨x2, h2⟩ : ∃ x : Int, (xs (5 * j + 2)).toInt = x := ⟨_, rfl⟩
  have z2 : zi x2 := by rw [← h2]; exact zi_toInt _
  obtain ⟨x3, h3⟩ : ∃ x : Int, (xs (5 * j + 3)).toInt = x := ⟨_, rfl⟩
  have z3 : zi x3 := by rw [← h3]; exact zi_toInt _
  refine lv_aload_n hx hb dL_law_132 rfl (lv_at hl 3 rfl) ?_
  refine lw_arg 1 h1 (by decide) hx hb hX hbl hbA hS hj hL9 (lv_at hl 4 rfl) (lv_at hl 0 rfl) dL_law_133 dL_law_134 dL_law_136 dL_law_137 dL_law_138 ?_
  refine lw_arg 2 h2 (by decide) hx hb hX hbl hbA hS hj hL9 (lv_at hl 4 rfl) (lv_at hl 0 rfl) dL_law_139 dL_law_140 dL_law_142 dL_law_143 dL_law_144 ?_
  refine zr_i2l hx hb z2 dL_law_145 ?_
  refine lv_bipush (v := iZ 32) hx hb dL_law_146 (by decide) ?_
  refine zr_lshl (n := 32) (P := 4294967296) hx hb (by decide) (by decide) dL_law_148 ?_
  refine lw_arg 3 h3 (by decide) hx hb hX hbl hbA hS hj hL9 (lv_at hl 4 rfl) (lv_at hl 0 rfl) dL_law_149 dL_law_150 dL_law_152 dL_law_153 dL_law_154 ?_
  refine zr_i2l hx hb z3 dL_law_155 ?_
  refine lv_ldc2 hx hb hown (ht _ tw_907) dL_law_156 ?_
  refine zr_mask (n := 32) (P := 4294967296) hx hb (by decide) (by decide) (by decide) dL_law_159 ?_
  refine lv_lor hx hb dL_law_160 ?_
  refine zc_l (lwL_of x2 x3) ?_
  refine lv_aload_n hx hb dL_law_161 rfl (lv_at hl 1 rfl) ?_
  refine zyS_i (P' := fun (u : Nat × zS × Int64) H => zQ E B u.2.1 H ∧ zOc E (B + 95) u.2.2 H) 4 (As := [.ref B, .int (iZ x1), .long (lZ (lwL x2 x3)), .ref (B + 95)]) (rest := []) ⟨hx, hb, hml, hown, ht⟩ (mL_write l hl0 E B rg ct f st g x1 z1 (lwL x2 x3) (B + 95) v (by omega)) tw_158 tw_156 tw_157 tw_0 qL_write ⟨Nat.le_of_ble_eq_true rfl, Nat.le_of_ble_eq_true rfl⟩ ⟨hQ, ho⟩ hK ((hH.kept hS.2.1).narrow lwAo) hN hl.1 rfl rfl (Nat.le_of_ble_eq_true rfl) dL_law_162 hrm lwAo hS (fun r u H locs hp hQ hz9 hk9 hS => ?_)
  obtain ⟨hQ, ho⟩ := hQ
  replace hM := lw_kMo hM hk9
  obtain ⟨k, σ1, v1⟩ := u
  obtain ⟨hr, hsp, hv1⟩ := hp
  dsimp only at hQ ho hr hsp hv1
  subst hr
  clear hk9
  refine lv_istore (lv' := [(5, .int (iZ ↑(tc k))), (4, .int (iZ ((5 * j : Nat) : Int))), (3, .ref (B + 95)), (2, .ref (B + 80)), (1, .ref B), (0, .ref b)]) hx hb dL_law_165 hl (by decide) rfl (fun ls hl => ?_)
  refine lv_aload_n hx hb dL_law_167 rfl (lv_at hl 3 rfl) ?_
  refine lw_arg 1 h1 (by decide) hx hb hX hbl hbA hS hj hL9 (lv_at hl 5 rfl) (lv_at hl 1 rfl) dL_law_168 dL_law_169 dL_law_171 dL_law_172 dL_law_173 ?_
  refine lw_arg 2 h2 (by decide) hx hb hX hbl hbA hS hj hL9 (lv_at hl 5 rfl) (lv_at hl 1 rfl) dL_law_174 dL_law_175 dL_law_177 dL_law_178 dL_law_179 ?_
  refine zr_i2l hx hb z2 dL_law_180 ?_
  refine lv_bipush (v := iZ 32) hx hb dL_law_181 (by decide) ?_
  refine zr_lshl (n := 32) (P := 4294967296) hx hb (by decide) (by decide) dL_law_183 ?_
  refine lw_arg 3 h3 (by decide) hx hb hX hbl hbA hS hj hL9 (lv_at hl 5 rfl) (lv_at hl 1 rfl) dL_law_184 dL_law_185 dL_law_187 dL_law_188 dL_law_189 ?_
  refine zr_i2l hx hb z3 dL_law_190 ?_
  refine lv_ldc2 hx hb hown (ht _ tw_907) dL_law_191 ?_
  refine zr_mask (n := 32) (P := 4294967296) hx hb (by decide) (by decide) (by decide) dL_law_194 ?_
  refine lv_lor hx hb dL_law_195 ?_
  refine zc_l (lwL_of x2 x3) ?_
  refine zyV_i (P' := fun (_ : Unit) H => zQM E (B + 80) σ1 (tc k) H) 2 (As := [.int (iZ x1), .long (lZ (lwL x2 x3))]) (rest := []) rfl ⟨hx, hb, hml, hown, ht⟩ (mM_write l E (B + 80) rg ct f st g t x1 z1 (lwL x2 x3) (lwL_z x2 x3) k σ1 hQ.1 hsp) tw_750 tw_747 tw_748 tw_749 tw_6 qM_write ⟨Nat.le_of_ble_eq_true rfl, Nat.le_of_ble_eq_true rfl⟩ (hM.recv hK) hM hK hl.1 rfl rfl (Nat.le_of_ble_eq_true rfl) dL_law_196 ⟨by omega, by omega⟩ lwA15 hS (fun r u H locs hp hM hz9 hk9 hS => ?_)
  replace hQ := lw_kQ hQ hk9
  replace ho := lw_kO2 ho hk9
  clear hk9
  refine lv_istore (lv' := [(6, .int r), (5, .int (iZ ↑(tc k))), (4, .int (iZ ((5 * j : Nat) : Int))), (3, .ref (B + 95)), (2, .ref (B + 80)), (1, .ref B), (0, .ref b)]) hx hb dL_law_199 hl (by decide) rfl (fun ls hl => ?_)
  refine lv_aload_n hx hb dL_law_201 rfl (lv_at hl 4 rfl) ?_
  refine zyV_i (P' := fun (_ : Unit) H => zQM E (B + 80) σ1 (tc k) H) 0 (As := []) (rest := []) rfl ⟨hx, hb, hml, hown, ht⟩ (mM_thr l E (B + 80) σ1 (tc k)) tw_746 tw_743 tw_744 tw_745 tw_6 qM_thrown ⟨Nat.le_of_ble_eq_true rfl, Nat.le_of_ble_eq_true rfl⟩ (hM.recv hK) hM hK hl.1 rfl rfl (Nat.le_of_ble_eq_true rfl) dL_law_202 ⟨by omega, by omega⟩ lwA15 hS (fun r9 u H locs hr9 hM hz9 hk9 hS => ?_)
  replace hQ := lw_kQ hQ hk9
  replace ho := lw_kO2 ho hk9
  clear hk9
  subst hr9
  refine lv_iload hx hb dL_law_205 (lv_at hl 1 rfl) ?_
  refine lv_icmp_eq (tgt := 212) hx hb dL_law_207 (by decide) (fun _ => ?_) (fun h => absurd rfl h)
  refine lv_iload hx hb dL_law_212 (lv_at hl 1 rfl) ?_
  refine lv_if_ne (tgt := 229) hx hb dL_law_214 (by decide) (fun _ => ?_) (fun h => ?_)
  · refine lv_goto (tgt := 1394) hx hb dL_law_229 (by decide) ?_
    exact W.widen (by omega) (by omega) (next _ _ _ _ _ _ ⟨hQ, hM, ho, hS, lw_d1 (lw_d1 hl)⟩)
  · have hk0 := lw_tc0 (SP_k hsp) h
    obtain ⟨r9, h9, h8⟩ := hv1 hk0
    have heq : v1 = r.toInt64 := by rw [h9, h8, hp hk0]
    refine lv_aload_n hx hb dL_law_217 rfl (lv_at hl 3 rfl) ?_
    refine lv_iconst (v := iZ 0) hx hb dL_law_218 rfl ?_
    refine lw_old hx hb hK ho dL_law_219 ?_
    refine lv_iload hx hb dL_law_220 (lv_at hl 0 rfl) ?_
    refine lv_i2l hx hb dL_law_222 rfl ?_
    refine W.lcmp hx hb dL_law_223 ?_
    refine lv_if_eq (tgt := 229) hx hb dL_law_224 (by decide) (fun _ => ?_) (fun h => absurd ((lg_cmp_eq _ _).mpr heq) h)
    refine lv_goto (tgt := 1394) hx hb dL_law_229 (by decide) ?_
    exact W.widen (by omega) (by omega) (next _ _ _ _ _ _ ⟨hQ, hM, ho, hS, lw_d1 (lw_d1 hl)⟩)
set_option maxHeartbeats 4000000 in
set_option maxRecDepth 100000 in
theorem lc_wipe {p : Program} {l : Launch} {e : Env} {s : State} {m : MethodId} {below : List Frame} {meth : Method} {c : Code} {b L : Nat} {xs : Nat → Int32} {E : zE} {B : Nat} {Q : State → Prop} {j : Nat} (hl0 : l.stackTraces = false) (C : lwC p s m meth c b L xs E B) (hj : 5 * j + 5 ≤ L) (next : lwN p l e s m below meth c b E B Q j) {σ : zS} {t : Nat} {v : Int64} {H : Heap} {locs : List Loc} {ls : Array Slot} (hw : lwS s b E B j σ t v H locs ls) :
    W p l e room_1 s m #[Value.ref b] below meth c H locs (96 + 8 * j) (18190 + 48 * j) Q (F0 m 232 ls []) := by
  obtain ⟨⟨hx, hb, hret, hml, hown, hts, hX, hbl, hlk, hgv⟩, hL, hK, hH, hN, hB⟩ := C
  obtain ⟨hQ, hM, ho, hS, hl⟩ := hw
  have hown : s.vm.findClass "WholeDeskLaw" = some m.cls := hown
  have ht : ∀ w ∈ zt, w.before #[Value.ref b] s = true := fun w h => hts w (zt_tbl w h)
  have hb : c.code = cL_law := hb
  have hbA : ¬ zGA B b := fun h => by have h9 : B ≤ b := h; omega
  have hL9 : L ≤ 2000000000 := by omega
  have hrm := lw_room hL hj
  obtain ⟨rg, ct, f, st, g⟩ := σ
  refine lv_aload_n hx hb dL_law_232 rfl (lv_at hl 3 rfl) ?_
  refine zyV_i (P' := fun (u : zS) H => zQ E B u H) 0 (As := []) (rest := []) rfl ⟨hx, hb, hml, hown, ht⟩ (mS_wipe l E B rg ct f st g ) tw_143 tw_140 tw_141 tw_142 tw_1 qS_wipe ⟨Nat.le_of_ble_eq_true rfl, Nat.le_of_ble_eq_true rfl⟩ (hQ.recv hK) hQ hK hl.1 rfl rfl (Nat.le_of_ble_eq_true rfl) dL_law_233 ⟨by omega, by omega⟩ lwA80 hS (fun r u H locs hp hQ hz9 hk9 hS => ?_)
  replace hM := lw_kM hM hk9
  replace ho := lw_kO ho hk9
  obtain ⟨hr, hu⟩ := hp
  subst hr
  subst hu
  clear hk9
  refine lv_aload_n hx hb dL_law_236 rfl (lv_at hl 2 rfl) ?_
  refine zyV_i (P' := fun (_ : Unit) H => zQM E (B + 80) (rg, 0, f, st, g) (tc 0) H) 0 (As := []) (rest := [.int (iZ ct)]) rfl ⟨hx, hb, hml, hown, ht⟩ (mM_wipe l E (B + 80) rg ct f st g t 0 (rg, 0, f, st, g) hQ.1 (Or.inr (Or.inr (Or.inr ⟨rfl, trivial, rfl⟩)))) tw_755 tw_752 tw_753 tw_754 tw_6 qM_wipe ⟨Nat.le_of_ble_eq_true rfl, Nat.le_of_ble_eq_true rfl⟩ (hM.recv hK) hM hK hl.1 rfl rfl (Nat.le_of_ble_eq_true rfl) dL_law_237 ⟨by omega, by omega⟩ lwA15 hS (fun r u H locs hp hM hz9 hk9 hS => ?_)
  replace hQ := lw_kQ hQ hk9
  replace ho := lw_kO2 ho hk9
  subst hp
  refine lv_icmp_eq (tgt := 1394) hx hb dL_law_240 (by decide) (fun _ => ?_) (fun h => absurd rfl h)
  exact W.widen (by omega) (by omega) (next _ _ _ _ _ _ ⟨hQ, hM, ho, hS, hl⟩)
set_option maxHeartbeats 4000000 in
set_option maxRecDepth 100000 in
theorem lc_read {p : Program} {l : Launch} {e : Env} {s : State} {m : MethodId} {below : List Frame} {meth : Method} {c : Code} {b L : Nat} {xs : Nat → Int32} {E : zE} {B : Nat} {Q : State → Prop} {j : Nat} (hl0 : l.stackTraces = false) (C : lwC p s m meth c b L xs E B) (hj : 5 * j + 5 ≤ L) (next : lwN p l e s m below meth c b E B Q j) {σ : zS} {t : Nat} {v : Int64} {H : Heap} {locs : List Loc} {ls : Array Slot} (hw : lwS s b E B j σ t v H locs ls) :
    W p l e room_1 s m #[Value.ref b] below meth c H locs (96 + 8 * j) (18190 + 48 * j) Q (F0 m 245 ls []) := by
  obtain ⟨⟨hx, hb, hret, hml, hown, hts, hX, hbl, hlk, hgv⟩, hL, hK, hH, hN, hB⟩ := C
  obtain ⟨hQ, hM, ho, hS, hl⟩ := hw
  have hown : s.vm.findClass "WholeDeskLaw" = some m.cls := hown
  have ht : ∀ w ∈ zt, w.before #[Value.ref b] s = true := fun w h => hts w (zt_tbl w h)
  have hb : c.code = cL_law := hb
  have hbA : ¬ zGA B b := fun h => by have h9 : B ≤ b := h; omega
  have hL9 : L ≤ 2000000000 := by omega
  have hrm := lw_room hL hj
  obtain ⟨rg, ct, f, st, g⟩ := σ
  obtain ⟨x1, h1⟩ : ∃ x : Int, (xs (5 * j + 1)).toInt = x := ⟨_, rfl⟩
  have z1 : zi x1 := by rw [← h1]; exact zi_toInt _
  obtain ⟨x2, h2⟩ : ∃ x : Int, (xs (5 * j + 2)).toInt = x := ⟨_, rfl⟩
  have z2 : zi x2 := by rw [← h2]; exact zi_toInt _
  refine lv_aload_n hx hb dL_law_245 rfl (lv_at hl 3 rfl) ?_
  refine lw_arg 1 h1 (by decide) hx hb hX hbl hbA hS hj hL9 (lv_at hl 4 rfl) (lv_at hl 0 rfl) dL_law_246 dL_law_247 dL_law_249 dL_law_250 dL_law_251 ?_
  refine lw_arg 2 h2 (by decide) hx hb hX hbl hbA hS hj hL9 (lv_at hl 4 rfl) (lv_at hl 0 rfl) dL_law_252 dL_law_253 dL_law_255 dL_law_256 dL_law_257 ?_
  refine zyS_i (P' := fun (u : Nat × zS) H => zQ E B u.2 H) 3 (As := [.ref B, .int (iZ x1), .int (iZ x2)]) (rest := []) ⟨hx, hb, hml, hown, ht⟩ (mL_read l hl0 E B rg ct f st g x1 z1 x2 z2) tw_237 tw_235 tw_236 tw_0 qL_read ⟨Nat.le_of_ble_eq_true rfl, Nat.le_of_ble_eq_true rfl⟩ hQ hK ((hH.kept hS.2.1).narrow lwA80) hN hl.1 rfl rfl (Nat.le_of_ble_eq_true rfl) dL_law_258 hrm lwA80 hS (fun r u H locs hp hQ hz9 hk9 hS => ?_)
  replace hM := lw_kM hM hk9
  replace ho := lw_kO ho hk9
  obtain ⟨k, σ1⟩ := u
  obtain ⟨hr, hsp⟩ := hp
  dsimp only at hQ hr hsp
  subst hr
  clear hk9
  refine lv_istore (lv' := [(5, .int (iZ ↑k)), (4, .int (iZ ((5 * j : Nat) : Int))), (3, .ref (B + 95)), (2, .ref (B + 80)), (1, .ref B), (0, .ref b)]) hx hb dL_law_261 hl (by decide) rfl (fun ls hl => ?_)
  refine lv_aload_n hx hb dL_law_263 rfl (lv_at hl 3 rfl) ?_
  refine lw_arg 1 h1 (by decide) hx hb hX hbl hbA hS hj hL9 (lv_at hl 5 rfl) (lv_at hl 1 rfl) dL_law_264 dL_law_265 dL_law_267 dL_law_268 dL_law_269 ?_
  refine lw_arg 2 h2 (by decide) hx hb hX hbl hbA hS hj hL9 (lv_at hl 5 rfl) (lv_at hl 1 rfl) dL_law_270 dL_law_271 dL_law_273 dL_law_274 dL_law_275 ?_
  refine zyV_v (P' := fun (_ : Unit) H => zQM E (B + 80) σ1 k H) 2 (As := [.int (iZ x1), .int (iZ x2)]) (rest := []) rfl ⟨hx, hb, hml, hown, ht⟩ (mM_read l E (B + 80) rg ct f st g t x1 z1 x2 z2 k σ1 hQ.1 hsp) tw_759 tw_756 tw_757 tw_758 tw_6 qM_read ⟨Nat.le_of_ble_eq_true rfl, Nat.le_of_ble_eq_true rfl⟩ (hM.recv hK) hM hK hl.1 rfl rfl (Nat.le_of_ble_eq_true rfl) dL_law_276 ⟨by omega, by omega⟩ lwA15 hS (fun u H locs hp hM hz9 hk9 hS => ?_)
  replace hQ := lw_kQ hQ hk9
  replace ho := lw_kO2 ho hk9
  clear hk9
  refine lv_aload_n hx hb dL_law_279 rfl (lv_at hl 3 rfl) ?_
  refine zyV_i (P' := fun (_ : Unit) H => zQM E (B + 80) σ1 k H) 0 (As := []) (rest := []) rfl ⟨hx, hb, hml, hown, ht⟩ (mM_thr l E (B + 80) σ1 k) tw_746 tw_743 tw_744 tw_745 tw_6 qM_thrown ⟨Nat.le_of_ble_eq_true rfl, Nat.le_of_ble_eq_true rfl⟩ (hM.recv hK) hM hK hl.1 rfl rfl (Nat.le_of_ble_eq_true rfl) dL_law_280 ⟨by omega, by omega⟩ lwA15 hS (fun r9 u H locs hr9 hM hz9 hk9 hS => ?_)
  replace hQ := lw_kQ hQ hk9
  replace ho := lw_kO2 ho hk9
  clear hk9
  subst hr9
  refine lv_iload hx hb dL_law_283 (lv_at hl 0 rfl) ?_
  refine lv_icmp_eq (tgt := 290) hx hb dL_law_285 (by decide) (fun _ => ?_) (fun h => absurd rfl h)
  refine lv_goto (tgt := 1394) hx hb dL_law_290 (by decide) ?_
  exact W.widen (by omega) (by omega) (next _ _ _ _ _ _ ⟨hQ, hM, ho, hS, lw_d1 hl⟩)
