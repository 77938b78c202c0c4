theorem lw_bits (x : Int32) : x = iZ ((x.toBitVec.toNat : Nat) : Int) := by
  apply Int32.toBitVec_inj.mp
  show x.toBitVec = (Int32.ofInt ((x.toBitVec.toNat : Nat) : Int)).toBitVec
  rw [Int32.toBitVec_ofInt]
  simp
theorem lw_head {p : Program} {l : Launch} {e : Env} {s : State} {m : MethodId} {below : List Frame} {meth : Method} {c : Code} {b L : Nat} {xs : Nat → Int32} {E : zE} {B : Nat} {Q : State → Prop} {j : Nat} (C : lwC p s m meth c b L xs E B) (hj : 5 * j ≤ L) {σ : zS} {t : Nat} {v : Int64} {H : Heap} {locs : List Loc} {ls : Array Slot} (hw : lwS s b E B j σ t v H locs ls)
    (kend : L < 5 * j + 5 → W p l e room_1 s m #[Value.ref b] below meth c H locs (96 + 8 * j) (18190 + 48 * j) Q (F0 m 1400 ls [])) (kgo : 5 * j + 5 ≤ L → W p l e room_1 s m #[Value.ref b] below meth c H locs (96 + 8 * j) (18190 + 48 * j) Q (F0 m 32 ls [])) : W p l e room_1 s m #[Value.ref b] below meth c H locs (96 + 8 * j) (18190 + 48 * j) Q (F0 m 23 ls []) := by
  have C9 := C
  obtain ⟨⟨hx, hb, hret, hml, hown, hts, hX, hbl, hlk, hgv⟩, hL, hK, hH, hN, hB⟩ := C9
  have hw9 := hw
  obtain ⟨hQ, hM, ho, hS, hl⟩ := hw9
  have hb : c.code = cL_law := hb
  have hbA : ¬ zGA B b := fun h => by have h9 : B ≤ b := h; omega
  refine lv_iload hx hb dL_law_23 (lv_at hl 0 rfl) ?_
  refine lv_aload_n hx hb dL_law_25 rfl (lv_at hl 4 rfl) ?_
  refine va_slen hx hb hX hbl hbA hS dL_law_26 ?_
  refine zc_i (y := iZ ((L : Nat) : Int)) Int32.ofInt_eq_ofNat.symm ?_
  refine lv_iconst (v := iZ 5) hx hb dL_law_27 rfl ?_
  refine zr_isub hx hb dL_law_28 ?_
  exact zr_icmp_gt (tgt := 1400) hx hb ⟨by omega, by omega⟩ ⟨by omega, by omega⟩ dL_law_29 (by decide) (fun h => kend (by omega)) (fun h => kgo (by omega))
theorem lw_end {p : Program} {l : Launch} {e : Env} {s : State} {m : MethodId} {below : List Frame} {meth : Method} {c : Code} {b L : Nat} {xs : Nat → Int32} {E : zE} {B : Nat} {j : Nat} (C : lwC p s m meth c b L xs E B) (hj : 5 * j ≤ L) {σ : zS} {t : Nat} {v : Int64} {H : Heap} {locs : List Loc} {ls : Array Slot} (hw : lwS s b E B j σ t v H locs ls) : W p l e room_1 s m #[Value.ref b] below meth c H locs (96 + 8 * j) (18190 + 48 * j) (lw_Z below #[Value.ref b] s) (F0 m 1400 ls []) := by
  have C9 := C
  obtain ⟨⟨hx, hb, hret, hml, hown, hts, hX, hbl, hlk, hgv⟩, hL, hK, hH, hN, hB⟩ := C9
  have hw9 := hw
  obtain ⟨hQ, hM, ho, hS, hl⟩ := hw9
  have hb : c.code = cL_law := hb
  have hbA : ¬ zGA B b := fun h => by have h9 : B ≤ b := h; omega
  refine lv_iconst (v := 1) hx hb dL_law_1400 rfl ?_
  refine va_forget (fun q hq => by rw [hB]; exact hS.2.2 q hq) ?_
  refine W.widen (k := 601024) (n := 7293034) (by omega) (by omega) ?_
  exact lw_ret hx hb hret hlk dL_law_1401
set_option maxHeartbeats 4000000 in
theorem lw_switch {p : Program} {l : Launch} {e : Env} {s : State} {m : MethodId} {below : List Frame} {meth : Method} {c : Code} {b L : Nat} {xs : Nat → Int32} {E : zE} {B : Nat} {Q : State → Prop} {j : Nat} (hl0 : l.stackTraces = false) (C : lwC p s m meth c b L xs E B) (hj : 5 * j + 5 ≤ L) (next : lwN p l e s m below meth c b E B Q j) {σ : zS} {t : Nat} {v : Int64} {H : Heap} {locs : List Loc} {ls : Array Slot} (hw : lwS s b E B j σ t v H locs ls) : W p l e room_1 s m #[Value.ref b] below meth c H locs (96 + 8 * j) (18190 + 48 * j) Q (F0 m 32 ls []) := by
  have C9 := C
  obtain ⟨⟨hx, hb, hret, hml, hown, hts, hX, hbl, hlk, hgv⟩, hL, hK, hH, hN, hB⟩ := C9
  have hw9 := hw
  obtain ⟨hQ, hM, ho, hS, hl⟩ := hw9
  have hb : c.code = cL_law := hb
  have hbA : ¬ zGA B b := fun h => by have h9 : B ≤ b := h; omega
  have hz : zi ((5 * j : Nat) : Int) := ⟨by omega, by omega⟩
  refine lv_aload_n hx hb dL_law_32 rfl (lv_at hl 4 rfl) ?_
  refine lv_iload hx hb dL_law_33 (lv_at hl 0 rfl) ?_
  refine va_sld hx hb hX hbl hbA hS (iZ_in hz (by omega) (by omega)) dL_law_35 ?_
  refine zc_i (lw_bits _) ?_
  obtain ⟨z, hz9, hzz⟩ : ∃ z : Nat, z < 4294967296 ∧ z = (xs (iZ ((5 * j : Nat) : Int)).toNatClampNeg).toBitVec.toNat := ⟨_, BitVec.isLt _, rfl⟩
  rw [← hzz]
  clear hzz
  refine lv_bipush (v := 31) hx hb dL_law_36 (by decide) ?_
  refine zr_iand hx hb 5 hz9 (by decide) dL_law_38 ?_
  obtain ⟨d, hd, hd9⟩ : ∃ d : Nat, d < 32 ∧ d = z % 2 ^ 5 := ⟨_, Nat.mod_lt _ (by decide), rfl⟩
  rw [← hd9]
  clear hd9
  have hdd : d = 0 ∨ d = 1 ∨ d = 2 ∨ d = 3 ∨ d = 4 ∨ d = 5 ∨ d = 6 ∨ d = 7 ∨ d = 8 ∨ d = 9 ∨ d = 10 ∨ d = 11 ∨ d = 12 ∨ d = 13 ∨ d = 14 ∨ d = 15 ∨ d = 16 ∨ d = 17 ∨ d = 18 ∨ d = 19 ∨ 20 ≤ d := by omega
  rcases hdd with rfl | rfl | rfl | rfl | rfl | rfl | rfl | rfl | rfl | rfl | rfl | rfl | rfl | rfl | rfl | rfl | rfl | rfl | rfl | rfl | h20
  · exact lv_tableIn (off := 93) (tgt := 132) hx hb dL_law_39 (by decide +kernel) (by decide +kernel) (by decide +kernel) (by decide) (lc_write hl0 C hj next hw)
  · exact lv_tableIn (off := 193) (tgt := 232) hx hb dL_law_39 (by decide +kernel) (by decide +kernel) (by decide +kernel) (by decide) (lc_wipe hl0 C hj next hw)
  · exact lv_tableIn (off := 206) (tgt := 245) hx hb dL_law_39 (by decide +kernel) (by decide +kernel) (by decide +kernel) (by decide) (lc_read hl0 C hj next hw)
  · exact lv_tableIn (off := 254) (tgt := 293) hx hb dL_law_39 (by decide +kernel) (by decide +kernel) (by decide +kernel) (by decide) (lc_put hl0 C hj next hw)
  · exact lv_tableIn (off := 334) (tgt := 373) hx hb dL_law_39 (by decide +kernel) (by decide +kernel) (by decide +kernel) (by decide) (lc_add hl0 C hj next hw)
  · exact lv_tableIn (off := 422) (tgt := 461) hx hb dL_law_39 (by decide +kernel) (by decide +kernel) (by decide +kernel) (by decide) (lc_multiply hl0 C hj next hw)
  · exact lv_tableIn (off := 482) (tgt := 521) hx hb dL_law_39 (by decide +kernel) (by decide +kernel) (by decide +kernel) (by decide) (lc_divide hl0 C hj next hw)
  · exact lv_tableIn (off := 554) (tgt := 593) hx hb dL_law_39 (by decide +kernel) (by decide +kernel) (by decide +kernel) (by decide) (lc_modulo hl0 C hj next hw)
  · exact lv_tableIn (off := 614) (tgt := 653) hx hb dL_law_39 (by decide +kernel) (by decide +kernel) (by decide +kernel) (by decide) (lc_power hl0 C hj next hw)
  · exact lv_tableIn (off := 674) (tgt := 713) hx hb dL_law_39 (by decide +kernel) (by decide +kernel) (by decide +kernel) (by decide) (lc_root hl0 C hj next hw)
  · exact lv_tableIn (off := 734) (tgt := 773) hx hb dL_law_39 (by decide +kernel) (by decide +kernel) (by decide +kernel) (by decide) (lc_common hl0 C hj next hw)
  · exact lv_tableIn (off := 794) (tgt := 833) hx hb dL_law_39 (by decide +kernel) (by decide +kernel) (by decide +kernel) (by decide) (lc_inverse hl0 C hj next hw)
  · exact lv_tableIn (off := 854) (tgt := 893) hx hb dL_law_39 (by decide +kernel) (by decide +kernel) (by decide +kernel) (by decide) (lc_powerModulo hl0 C hj next hw)
  · exact lv_tableIn (off := 926) (tgt := 965) hx hb dL_law_39 (by decide +kernel) (by decide +kernel) (by decide +kernel) (by decide) (lc_combine hl0 C hj next hw)
  · exact lv_tableIn (off := 998) (tgt := 1037) hx hb dL_law_39 (by decide +kernel) (by decide +kernel) (by decide +kernel) (by decide) (lc_shift hl0 C hj next hw)
  · exact lv_tableIn (off := 1058) (tgt := 1097) hx hb dL_law_39 (by decide +kernel) (by decide +kernel) (by decide +kernel) (by decide) (lc_bit hl0 C hj next hw)
  · exact lv_tableIn (off := 1126) (tgt := 1165) hx hb dL_law_39 (by decide +kernel) (by decide +kernel) (by decide +kernel) (by decide) (lc_compare hl0 C hj next hw)
  · exact lv_tableIn (off := 1194) (tgt := 1233) hx hb dL_law_39 (by decide +kernel) (by decide +kernel) (by decide +kernel) (by decide) (lc_told hl0 C hj next hw)
  · exact lv_tableIn (off := 1261) (tgt := 1300) hx hb dL_law_39 (by decide +kernel) (by decide +kernel) (by decide +kernel) (by decide) (lc_written hl0 C hj next hw)
  · exact lv_tableIn (off := 1329) (tgt := 1368) hx hb dL_law_39 (by decide +kernel) (by decide +kernel) (by decide +kernel) (by decide) (lc_text hl0 C hj next hw)
  · refine lv_tableOut (tgt := 1394) hx hb dL_law_39 (Or.inr ?_) (by decide) (W.widen (by omega) (by omega) (next _ _ _ _ _ _ hw))
    rw [iZ_toInt ⟨by omega, by omega⟩]
    omega
set_option maxHeartbeats 4000000 in
theorem law_loop {p : Program} {l : Launch} {e : Env} {s : State} {m : MethodId} {below : List Frame} {meth : Method} {c : Code} {b L : Nat} {xs : Nat → Int32} {E : zE} {B : Nat} (hl0 : l.stackTraces = false) (C : lwC p s m meth c b L xs E B) : ∀ (n j : Nat), L ≤ 5 * j + n → 5 * j ≤ L → ∀ {σ : zS} {t : Nat} {v : Int64} {H : Heap} {locs : List Loc} {ls : Array Slot}, lwS s b E B j σ t v H locs ls → W p l e room_1 s m #[Value.ref b] below meth c H locs (96 + 8 * j) (18190 + 48 * j) (lw_Z below #[Value.ref b] s) (F0 m 23 ls []) := by
  intro n
  induction n with
  | zero =>
    intro j h1 h2 σ t v H locs ls hw
    exact lw_head C h2 hw (fun _ => lw_end C h2 hw) (fun h => absurd h (by omega))
  | succ n ih =>
    intro j h1 h2 σ t v H locs ls hw
    refine lw_head C h2 hw (fun _ => lw_end C h2 hw) (fun h => lw_switch hl0 C h (fun σ t v H locs ls hw => ?_) hw)
    have C9 := C
    obtain ⟨⟨hx, hb, hret, hml, hown, hts, hX, hbl, hlk, hgv⟩, hL, hK, hH, hN, hB⟩ := C9
    have hb : c.code = cL_law := hb
    obtain ⟨hQ, hM, ho, hS, hl⟩ := hw
    refine lv_iinc (k := 0) (v := iZ ((5 * (j + 1) : Nat) : Int)) (lv' := [(4, .int (iZ ((5 * (j + 1) : Nat) : Int))), (3, .ref (B + 95)), (2, .ref (B + 80)), (1, .ref B), (0, .ref b)]) hx hb dL_law_1394 hl rfl ?_ (by decide) rfl (fun ls hl => ?_)
    · show iZ ((5 * j : Nat) : Int) + iZ 5 = _
      rw [iZ_add, show ((5 * j : Nat) : Int) + 5 = ((5 * (j + 1) : Nat) : Int) by omega]
    · refine lv_goto (tgt := 23) hx hb dL_law_1397 (by decide) ?_
      exact ih (j + 1) (by omega) (by omega) ⟨hQ, hM, ho, hS, hl⟩
