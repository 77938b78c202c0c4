set_option maxHeartbeats 4000000 in
set_option maxRecDepth 100000 in
theorem mM_no (l : Launch) (E : zE) (B : Nat) (w0 : Nat → Nat → Nat) (q0 : zC) (z : Int) (hz : zi z) :
    Met l yM_no (zws yM_no cM_no 1 (some .boolean)) { frames := 0, cells := 0, slots := 0, locals := 0 } (zPc E (zMD E B w0 q0) [.int (iZ (z))]) (va_Qi (fun (r : Int32) (u : (Nat → Nat → Nat) × zC) => u = (w0, q0) ∧ ∃ b : Bool, r = iZ (bZ b) ∧ (b = true ↔ ¬ rok z)) (fun u t => zMD E B u.1 u.2 t.heap ∧ zK E t) (zA B 15)) 0 0 (zA B 15) := by
  refine zof_z (P' := fun (u : (Nat → Nat → Nat) × zC) H => zMD E B u.1 u.2 H) (by decide) (Nat.le_of_ble_eq_true rfl) fun p e R s m args below meth c Q ls hR hx hb hml ht hown hK hZ hl hend => ?_
  have hS : va_S (zA B 15) s.heap s.heap [] := va_S.rf
  have hown : s.vm.findClass "WholeDeskModel" = some m.cls := hown
  have hl : lv_has ls 1 [(0, .int (iZ (z)))] := hl
  refine lv_iload_n hx hb dM_no_0 rfl (lv_at hl 0 rfl) ?_
  refine zr_if_lt (tgt := 10) hx hb (hz) dM_no_1 (by decide) (fun c_1 => ?_) (fun c_1 => ?_)
  · refine lv_iconst (v := iZ (1)) hx hb dM_no_10 (by decide) ?_
    refine lv_goto (tgt := 15) hx hb dM_no_11 (by decide) ?_
    exact hend 15 (true) (w0, q0) _ _ _ dM_no_15 (⟨rfl, true, rfl, fun _ h9 => by have h8 := h9.1; have h7 := h9.2; omega, fun _ => rfl⟩) hZ hS
  · refine lv_iload_n hx hb dM_no_4 rfl (lv_at hl 0 rfl) ?_
    refine lv_bipush (v := iZ (10)) hx hb dM_no_5 (by decide) ?_
    refine zr_icmp_lt (tgt := 14) hx hb hz (by unfold zi; omega) dM_no_7 (by decide) (fun c_2 => ?_) (fun c_2 => ?_)
    · refine lv_iconst (v := iZ (0)) hx hb dM_no_14 (by decide) ?_
      exact hend 15 (false) (w0, q0) _ _ _ dM_no_15 (⟨rfl, false, rfl, fun h9 => absurd h9 (by decide), fun h9 => absurd ⟨by omega, by omega⟩ h9⟩) hZ hS
    · refine lv_iconst (v := iZ (1)) hx hb dM_no_10 (by decide) ?_
      refine lv_goto (tgt := 15) hx hb dM_no_11 (by decide) ?_
      exact hend 15 (true) (w0, q0) _ _ _ dM_no_15 (⟨rfl, true, rfl, fun _ h9 => by have h8 := h9.1; have h7 := h9.2; omega, fun _ => rfl⟩) hZ hS

set_option maxHeartbeats 4000000 in
set_option maxRecDepth 100000 in
theorem mM_clear (l : Launch) (E : zE) (B : Nat) (w0 : Nat → Nat → Nat) (q0 : zC) (ka : Nat) (hk_ka : 4 ≤ ka ∧ ka ≤ 13) (La : Nat) (hln_ka : mln ka = La) (hLa : La ≤ 2100) :
    Met l yM_clear (zws yM_clear cM_clear 2 none) { frames := 0, cells := 0, slots := 0, locals := 0 } (zPc E (zMD E B w0 q0) [.ref (B + ka)]) (va_Qv (fun u : (Nat → Nat → Nat) × zC => (∀ j, j ≠ ka → u.1 j = w0 j) ∧ u.2 = q0 ∧ ∀ i, i < La → u.1 ka i = 0) (fun u t => zMD E B u.1 u.2 t.heap ∧ zK E t) (zA B 15)) 0 0 (zA B 15) := by
  refine zof_v (P' := fun (u : (Nat → Nat → Nat) × zC) H => zMD E B u.1 u.2 H) (by decide) (Nat.le_of_ble_eq_true rfl) fun p e R s m args below meth c Q ls hR hx hb hml ht hown hK hZ hl hend => ?_
  have hS : va_S (zA B 15) s.heap s.heap [] := va_S.rf
  have hown : s.vm.findClass "WholeDeskModel" = some m.cls := hown
  have hl : lv_has ls 2 [(0, .ref (B + ka))] := hl
  have fr : ∀ jx, jx ≠ ka → w0 jx = w0 jx := fun jx _ => rfl
  refine lv_iconst (v := iZ (0)) hx hb dM_clear_0 (by decide) ?_
  refine lv_istore_n (lv' := [(1, .int (iZ (0))), (0, .ref (B + ka))]) hx hb dM_clear_1 rfl hl (by decide) rfl (fun ls hl => ?_)
  have L2 : ∀ (fu : Nat) (i : Nat) (w : Nat → Nat → Nat) (H : Heap) (locs : List Loc) (ls : Array Slot), La - i < fu → (i ≤ La) → (∀ j, j < i → w ka j = 0) → (∀ jx, jx ≠ ka → w jx = w0 jx) → zMD E B w q0 H → va_S (zA B 15) s.heap H locs → lv_has ls 2 [(0, .ref (B + ka)), (1, .int (iZ (↑i)))] → W p l e R s m args below meth c H locs 0 0 Q (F0 m 2 ls []) := by
    intro fu
    induction fu with
    | zero => intro i w H locs ls hm; exact absurd hm (Nat.not_lt_zero _)
    | succ fu ihL2 =>
      intro i w H locs ls hm hi hc fr hZ hS hl
      refine lv_iload_n hx hb dM_clear_2 rfl (lv_at hl 1 rfl) ?_
      refine lv_aload_n hx hb dM_clear_3 rfl (lv_at hl 0 rfl) ?_
      refine zm_len (k := ka) hx hb hK hZ (by omega) dM_clear_4 ?_
      rw [show mln ka = La from hln_ka]
      refine zr_icmp_ge (tgt := 18) hx hb (by omega) (by omega) dM_clear_5 (by decide) (fun c_1 => ?_) (fun c_1 => ?_)
      · exact hend 18 (w, q0) _ _ _ dM_clear_18 (⟨fr, rfl, fun j hj => hc j (by omega)⟩) hZ hS
      · refine lv_aload_n hx hb dM_clear_8 rfl (lv_at hl 0 rfl) ?_
        refine lv_iload_n hx hb dM_clear_9 rfl (lv_at hl 1 rfl) ?_
        refine lv_iconst (v := iZ (0)) hx hb dM_clear_10 (by decide) ?_
        refine W.eq (g2 := F0 m 11 ls (.int (iZ ((0 : Nat) : Int)) :: .int (iZ (↑i)) :: .ref (B + ka) :: [])) rfl ?_
        refine zm_st (k := ka) (i := i) (x := 0) hx hb hK hZ hS (by omega) (by omega) (by omega) dM_clear_11 (fun H locs hZ hS => ?_)
        have fr : ∀ jx, jx ≠ ka → (mup w ka i 0) jx = w0 jx := fun jx h0 => (mup_ne _ _ _ h0).trans (fr jx h0)
        refine lv_iinc (v := iZ (↑i + 1)) (lv' := [(1, .int (iZ (↑i + 1))), (0, .ref (B + ka))]) hx hb dM_clear_12 hl (k := 1) rfl (iZ_add _ _) (by decide) rfl (fun ls hl => ?_)
        refine lv_goto (tgt := 2) hx hb dM_clear_15 (by decide) ?_
        rw [show (↑i + 1 : Int) = ↑(i + 1) from by omega] at hl
        exact ihL2 (i + 1) (mup w ka i 0) _ _ _ (by omega) (by omega) (fun j hj => by rw [mup_at]; by_cases h9 : j = i; rw [h9, va_up_self]; rw [va_up_ne _ _ h9]; exact hc j (by omega)) fr hZ hS (lv_sub hl [1, 0] rfl)
  exact L2 _ 0 w0 _ _ _ (Nat.lt_succ_self _) (Nat.zero_le _) (fun j hj => absurd hj (Nat.not_lt_zero _)) fr hZ hS (lv_sub hl [1, 0] rfl)

set_option maxHeartbeats 4000000 in
set_option maxRecDepth 100000 in
theorem mM_copy (l : Launch) (E : zE) (B : Nat) (w0 : Nat → Nat → Nat) (q0 : zC) (kb : Nat) (hk_kb : 4 ≤ kb ∧ kb ≤ 13) (ka : Nat) (hk_ka : 4 ≤ ka ∧ ka ≤ 13) (Lb : Nat) (hln_kb : mln kb = Lb) (hLb : Lb ≤ 2100) (La : Nat) (hln_ka : mln ka = La) (hLa : La ≤ 2100) (hne : kb ≠ ka) :
    Met l yM_copy (zws yM_copy cM_copy 3 none) { frames := 0, cells := 0, slots := 0, locals := 0 } (zPc E (zMD E B w0 q0) [.ref (B + kb), .ref (B + ka)]) (va_Qv (fun u : (Nat → Nat → Nat) × zC => (∀ j, j ≠ ka → u.1 j = w0 j) ∧ u.2 = q0 ∧ ∀ i, i < La → u.1 ka i = if i < Lb then w0 kb i else 0) (fun u t => zMD E B u.1 u.2 t.heap ∧ zK E t) (zA B 15)) 0 0 (zA B 15) := by
  refine zof_v (P' := fun (u : (Nat → Nat → Nat) × zC) H => zMD E B u.1 u.2 H) (by decide) (Nat.le_of_ble_eq_true rfl) fun p e R s m args below meth c Q ls hR hx hb hml ht hown hK hZ hl hend => ?_
  have hS : va_S (zA B 15) s.heap s.heap [] := va_S.rf
  have hown : s.vm.findClass "WholeDeskModel" = some m.cls := hown
  have hl : lv_has ls 3 [(0, .ref (B + kb)), (1, .ref (B + ka))] := hl
  have fr : ∀ jx, jx ≠ ka → w0 jx = w0 jx := fun jx _ => rfl
  refine lv_iconst (v := iZ (0)) hx hb dM_copy_0 (by decide) ?_
  refine lv_istore_n (lv' := [(2, .int (iZ (0))), (0, .ref (B + kb)), (1, .ref (B + ka))]) hx hb dM_copy_1 rfl hl (by decide) rfl (fun ls hl => ?_)
  have L2 : ∀ (fu : Nat) (i : Nat) (w : Nat → Nat → Nat) (H : Heap) (locs : List Loc) (ls : Array Slot), La - i < fu → (i ≤ La) → (∀ j, j < i → w ka j = if j < Lb then w0 kb j else 0) → (∀ jx, jx ≠ ka → w jx = w0 jx) → zMD E B w q0 H → va_S (zA B 15) s.heap H locs → lv_has ls 3 [(0, .ref (B + kb)), (1, .ref (B + ka)), (2, .int (iZ (↑i)))] → W p l e R s m args below meth c H locs 0 0 Q (F0 m 2 ls []) := by
    intro fu
    induction fu with
    | zero => intro i w H locs ls hm; exact absurd hm (Nat.not_lt_zero _)
    | succ fu ihL2 =>
      intro i w H locs ls hm hi hc fr hZ hS hl
      refine lv_iload_n hx hb dM_copy_2 rfl (lv_at hl 2 rfl) ?_
      refine lv_aload_n hx hb dM_copy_3 rfl (lv_at hl 1 rfl) ?_
      refine zm_len (k := ka) hx hb hK hZ (by omega) dM_copy_4 ?_
      rw [show mln ka = La from hln_ka]
      refine zr_icmp_ge (tgt := 30) hx hb (by omega) (by omega) dM_copy_5 (by decide) (fun c_1 => ?_) (fun c_1 => ?_)
      · exact hend 30 (w, q0) _ _ _ dM_copy_30 (⟨fr, rfl, fun j hj => hc j (by omega)⟩) hZ hS
      · refine lv_aload_n hx hb dM_copy_8 rfl (lv_at hl 1 rfl) ?_
        refine lv_iload_n hx hb dM_copy_9 rfl (lv_at hl 2 rfl) ?_
        refine lv_iload_n hx hb dM_copy_10 rfl (lv_at hl 2 rfl) ?_
        refine lv_aload_n hx hb dM_copy_11 rfl (lv_at hl 0 rfl) ?_
        refine zm_len (k := kb) hx hb hK hZ (by omega) dM_copy_12 ?_
        rw [show mln kb = Lb from hln_kb]
        refine zr_icmp_ge (tgt := 22) hx hb (by omega) (by omega) dM_copy_13 (by decide) (fun c_2 => ?_) (fun c_2 => ?_)
        · have hnew : 0 = if i < Lb then w0 kb i else 0 := by rw [if_neg (by omega)]
          refine lv_iconst (v := iZ (0)) hx hb dM_copy_22 (by decide) ?_
          refine W.eq (g2 := F0 m 23 ls (.int (iZ ((0 : Nat) : Int)) :: .int (iZ (↑i)) :: .ref (B + ka) :: [])) rfl ?_
          refine zm_st (k := ka) (i := i) (x := 0) hx hb hK hZ hS (by omega) (by omega) (by first | exact hZ.2 _ _ | omega) dM_copy_23 (fun H locs hZ hS => ?_)
          have fr : ∀ jx, jx ≠ ka → (mup w ka i 0) jx = w0 jx := fun jx h0 => (mup_ne _ _ _ h0).trans (fr jx h0)
          refine lv_iinc (v := iZ (↑i + 1)) (lv' := [(2, .int (iZ (↑i + 1))), (0, .ref (B + kb)), (1, .ref (B + ka))]) hx hb dM_copy_24 hl (k := 2) rfl (iZ_add _ _) (by decide) rfl (fun ls hl => ?_)
          refine lv_goto (tgt := 2) hx hb dM_copy_27 (by decide) ?_
          rw [show (↑i + 1 : Int) = ↑(i + 1) from by omega] at hl
          exact ihL2 (i + 1) (mup w ka i 0) _ _ _ (by omega) (by omega) (fun j hj => by rw [mup_at]; by_cases h9 : j = i; rw [h9, va_up_self]; exact hnew; rw [va_up_ne _ _ h9]; exact hc j (by omega)) fr hZ hS (lv_sub hl [1, 2, 0] rfl)
        · have hnew : w kb i = if i < Lb then w0 kb i else 0 := by rw [if_pos (by omega), fr kb hne]
          refine lv_aload_n hx hb dM_copy_16 rfl (lv_at hl 0 rfl) ?_
          refine lv_iload_n hx hb dM_copy_17 rfl (lv_at hl 2 rfl) ?_
          refine zm_ld (k := kb) (i := i) hx hb hK hZ (by omega) (by omega) dM_copy_18 ?_
          refine lv_goto (tgt := 23) hx hb dM_copy_19 (by decide) ?_
          refine zm_st (k := ka) (i := i) (x := w kb i) hx hb hK hZ hS (by omega) (by omega) (by first | exact hZ.2 _ _ | omega) dM_copy_23 (fun H locs hZ hS => ?_)
          have fr : ∀ jx, jx ≠ ka → (mup w ka i (w kb i)) jx = w0 jx := fun jx h0 => (mup_ne _ _ _ h0).trans (fr jx h0)
          refine lv_iinc (v := iZ (↑i + 1)) (lv' := [(2, .int (iZ (↑i + 1))), (0, .ref (B + kb)), (1, .ref (B + ka))]) hx hb dM_copy_24 hl (k := 2) rfl (iZ_add _ _) (by decide) rfl (fun ls hl => ?_)
          refine lv_goto (tgt := 2) hx hb dM_copy_27 (by decide) ?_
          rw [show (↑i + 1 : Int) = ↑(i + 1) from by omega] at hl
          exact ihL2 (i + 1) (mup w ka i (w kb i)) _ _ _ (by omega) (by omega) (fun j hj => by rw [mup_at]; by_cases h9 : j = i; rw [h9, va_up_self]; exact hnew; rw [va_up_ne _ _ h9]; exact hc j (by omega)) fr hZ hS (lv_sub hl [1, 2, 0] rfl)
  exact L2 _ 0 w0 _ _ _ (Nat.lt_succ_self _) (Nat.zero_le _) (fun j hj => absurd hj (Nat.not_lt_zero _)) fr hZ hS (lv_sub hl [1, 2, 0] rfl)

set_option maxHeartbeats 4000000 in
set_option maxRecDepth 100000 in
theorem mM_take (l : Launch) (E : zE) (B : Nat) (w0 : Nat → Nat → Nat) (q0 : zC) (r : Nat) (hr10 : r < 10) (ka : Nat) (hk_ka : 4 ≤ ka ∧ ka ≤ 13) (La : Nat) (hln_ka : mln ka = La) (hLa : La ≤ 2100) :
    Met l yM_take (zws yM_take cM_take 4 none) { frames := 0, cells := 0, slots := 0, locals := 0 } (zPc E (zMD E B w0 q0) [.ref (B), .int (iZ (↑r)), .ref (B + ka)]) (va_Qv (fun u : (Nat → Nat → Nat) × zC => (∀ j, j ≠ ka → u.1 j = w0 j) ∧ u.2 = q0 ∧ ∀ i, i < La → u.1 ka i = if i < 128 then w0 2 (128 * r + i) else 0) (fun u t => zMD E B u.1 u.2 t.heap ∧ zK E t) (zA B 15)) 0 0 (zA B 15) := by
  refine zof_v (P' := fun (u : (Nat → Nat → Nat) × zC) H => zMD E B u.1 u.2 H) (by decide) (Nat.le_of_ble_eq_true rfl) fun p e R s m args below meth c Q ls hR hx hb hml ht hown hK hZ hl hend => ?_
  have hS : va_S (zA B 15) s.heap s.heap [] := va_S.rf
  have hown : s.vm.findClass "WholeDeskModel" = some m.cls := hown
  have hl : lv_has ls 4 [(0, .ref (B)), (1, .int (iZ (↑r))), (2, .ref (B + ka))] := hl
  have fr : ∀ jx, jx ≠ ka → w0 jx = w0 jx := fun jx _ => rfl
  refine lv_iconst (v := iZ (0)) hx hb dM_take_0 (by decide) ?_
  refine lv_istore_n (lv' := [(3, .int (iZ (0))), (0, .ref (B)), (1, .int (iZ (↑r))), (2, .ref (B + ka))]) hx hb dM_take_1 rfl hl (by decide) rfl (fun ls hl => ?_)
  have L2 : ∀ (fu : Nat) (i : Nat) (w : Nat → Nat → Nat) (H : Heap) (locs : List Loc) (ls : Array Slot), La - i < fu → (i ≤ La) → (∀ j, j < i → w ka j = if j < 128 then w0 2 (128 * r + j) else 0) → (∀ jx, jx ≠ ka → w jx = w0 jx) → zMD E B w q0 H → va_S (zA B 15) s.heap H locs → lv_has ls 4 [(0, .ref (B)), (1, .int (iZ (↑r))), (2, .ref (B + ka)), (3, .int (iZ (↑i)))] → W p l e R s m args below meth c H locs 0 0 Q (F0 m 2 ls []) := by
    intro fu
    induction fu with
    | zero => intro i w H locs ls hm; exact absurd hm (Nat.not_lt_zero _)
    | succ fu ihL2 =>
      intro i w H locs ls hm hi hc fr hZ hS hl
      refine lv_iload_n hx hb dM_take_2 rfl (lv_at hl 3 rfl) ?_
      refine lv_aload_n hx hb dM_take_3 rfl (lv_at hl 2 rfl) ?_
      refine zm_len (k := ka) hx hb hK hZ (by omega) dM_take_4 ?_
      rw [show mln ka = La from hln_ka]
      refine zr_icmp_ge (tgt := 40) hx hb (by omega) (by omega) dM_take_5 (by decide) (fun c_1 => ?_) (fun c_1 => ?_)
      · exact hend 40 (w, q0) _ _ _ dM_take_40 (⟨fr, rfl, fun j hj => hc j (by omega)⟩) hZ hS
      · refine lv_aload_n hx hb dM_take_8 rfl (lv_at hl 2 rfl) ?_
        refine lv_iload_n hx hb dM_take_9 rfl (lv_at hl 3 rfl) ?_
        refine lv_iload_n hx hb dM_take_10 rfl (lv_at hl 3 rfl) ?_
        refine lv_sipush (v := iZ (128)) hx hb dM_take_11 (by decide) ?_
        refine zr_icmp_ge (tgt := 32) hx hb (by omega) (by omega) dM_take_14 (by decide) (fun c_2 => ?_) (fun c_2 => ?_)
        · have hnew : 0 = if i < 128 then w0 2 (128 * r + i) else 0 := by rw [if_neg (by omega)]
          refine lv_iconst (v := iZ (0)) hx hb dM_take_32 (by decide) ?_
          refine W.eq (g2 := F0 m 33 ls (.int (iZ ((0 : Nat) : Int)) :: .int (iZ (↑i)) :: .ref (B + ka) :: [])) rfl ?_
          refine zm_st (k := ka) (i := i) (x := 0) hx hb hK hZ hS (by omega) (by omega) (by first | exact hZ.2 _ _ | omega) dM_take_33 (fun H locs hZ hS => ?_)
          have fr : ∀ jx, jx ≠ ka → (mup w ka i 0) jx = w0 jx := fun jx h0 => (mup_ne _ _ _ h0).trans (fr jx h0)
          refine lv_iinc (v := iZ (↑i + 1)) (lv' := [(3, .int (iZ (↑i + 1))), (0, .ref (B)), (1, .int (iZ (↑r))), (2, .ref (B + ka))]) hx hb dM_take_34 hl (k := 3) rfl (iZ_add _ _) (by decide) rfl (fun ls hl => ?_)
          refine lv_goto (tgt := 2) hx hb dM_take_37 (by decide) ?_
          rw [show (↑i + 1 : Int) = ↑(i + 1) from by omega] at hl
          exact ihL2 (i + 1) (mup w ka i 0) _ _ _ (by omega) (by omega) (fun j hj => by rw [mup_at]; by_cases h9 : j = i; rw [h9, va_up_self]; exact hnew; rw [va_up_ne _ _ h9]; exact hc j (by omega)) fr hZ hS (lv_sub hl [1, 2, 3, 0] rfl)
        · have hnew : w 2 (128 * r + i) = if i < 128 then w0 2 (128 * r + i) else 0 := by rw [if_pos (by omega), fr 2 (by omega)]
          refine lv_aload_n hx hb dM_take_17 rfl (lv_at hl 0 rfl) ?_
          refine zm_kept hx hb ht hown hK hZ tw_681 dM_take_18 ?_
          refine lv_sipush (v := iZ (128)) hx hb dM_take_21 (by decide) ?_
          refine lv_iload_n hx hb dM_take_24 rfl (lv_at hl 1 rfl) ?_
          refine zr_imul hx hb dM_take_25 ?_
          refine lv_iload_n hx hb dM_take_26 rfl (lv_at hl 3 rfl) ?_
          refine zr_iadd hx hb dM_take_27 ?_
          rw [show ((128 * ↑r) + ↑i : Int) = ((128 * r + i : Nat) : Int) by omega]
          refine zm_ld (k := 2) (i := 128 * r + i) hx hb hK hZ (by decide) (by show 128 * r + i < 1280; omega) dM_take_28 ?_
          refine lv_goto (tgt := 33) hx hb dM_take_29 (by decide) ?_
          refine zm_st (k := ka) (i := i) (x := w 2 (128 * r + i)) hx hb hK hZ hS (by omega) (by omega) (by first | exact hZ.2 _ _ | omega) dM_take_33 (fun H locs hZ hS => ?_)
          have fr : ∀ jx, jx ≠ ka → (mup w ka i (w 2 (128 * r + i))) jx = w0 jx := fun jx h0 => (mup_ne _ _ _ h0).trans (fr jx h0)
          refine lv_iinc (v := iZ (↑i + 1)) (lv' := [(3, .int (iZ (↑i + 1))), (0, .ref (B)), (1, .int (iZ (↑r))), (2, .ref (B + ka))]) hx hb dM_take_34 hl (k := 3) rfl (iZ_add _ _) (by decide) rfl (fun ls hl => ?_)
          refine lv_goto (tgt := 2) hx hb dM_take_37 (by decide) ?_
          rw [show (↑i + 1 : Int) = ↑(i + 1) from by omega] at hl
          exact ihL2 (i + 1) (mup w ka i (w 2 (128 * r + i))) _ _ _ (by omega) (by omega) (fun j hj => by rw [mup_at]; by_cases h9 : j = i; rw [h9, va_up_self]; exact hnew; rw [va_up_ne _ _ h9]; exact hc j (by omega)) fr hZ hS (lv_sub hl [1, 2, 3, 0] rfl)
  exact L2 _ 0 w0 _ _ _ (Nat.lt_succ_self _) (Nat.zero_le _) (fun j hj => absurd hj (Nat.not_lt_zero _)) fr hZ hS (lv_sub hl [1, 2, 3, 0] rfl)

set_option maxHeartbeats 4000000 in
set_option maxRecDepth 100000 in
theorem mM_size (l : Launch) (E : zE) (B : Nat) (w0 : Nat → Nat → Nat) (q0 : zC) (ka : Nat) (hk_ka : 4 ≤ ka ∧ ka ≤ 13) (La : Nat) (hln_ka : mln ka = La) (hLa : La ≤ 2100) :
    Met l yM_size (zws yM_size cM_size 2 (some .int)) { frames := 0, cells := 0, slots := 0, locals := 0 } (zPc E (zMD E B w0 q0) [.ref (B + ka)]) (va_Qi (fun (r : Int32) (u : (Nat → Nat → Nat) × zC) => u = (w0, q0) ∧ ∃ n : Nat, r = iZ ↑n ∧ n ≤ La ∧ (∀ i, n ≤ i → i < La → w0 ka i = 0) ∧ (n ≠ 0 → w0 ka (n - 1) ≠ 0)) (fun u t => zMD E B u.1 u.2 t.heap ∧ zK E t) (zA B 15)) 0 0 (zA B 15) := by
  refine zof_i (P' := fun (u : (Nat → Nat → Nat) × zC) H => zMD E B u.1 u.2 H) (by decide) (Nat.le_of_ble_eq_true rfl) fun p e R s m args below meth c Q ls hR hx hb hml ht hown hK hZ hl hend => ?_
  have hS : va_S (zA B 15) s.heap s.heap [] := va_S.rf
  have hown : s.vm.findClass "WholeDeskModel" = some m.cls := hown
  have hl : lv_has ls 2 [(0, .ref (B + ka))] := hl
  refine lv_aload_n hx hb dM_size_0 rfl (lv_at hl 0 rfl) ?_
  refine zm_len (k := ka) hx hb hK hZ (by omega) dM_size_1 ?_
  rw [show mln ka = La from hln_ka]
  refine lv_istore_n (lv' := [(1, .int (iZ (((La : Nat) : Int)))), (0, .ref (B + ka))]) hx hb dM_size_2 rfl hl (by decide) rfl (fun ls hl => ?_)
  have L3 : ∀ (fu : Nat) (n : Nat) (H : Heap) (locs : List Loc) (ls : Array Slot), n < fu → (n ≤ La) → (∀ i, n ≤ i → i < La → w0 ka i = 0) → zMD E B w0 q0 H → va_S (zA B 15) s.heap H locs → lv_has ls 2 [(0, .ref (B + ka)), (1, .int (iZ (↑n)))] → W p l e R s m args below meth c H locs 0 0 Q (F0 m 3 ls []) := by
    intro fu
    induction fu with
    | zero => intro n H locs ls hm; exact absurd hm (Nat.not_lt_zero _)
    | succ fu ihL3 =>
      intro n H locs ls hm hn hz0 hZ hS hl
      refine lv_iload_n hx hb dM_size_3 rfl (lv_at hl 1 rfl) ?_
      refine zr_if_le (tgt := 21) hx hb (by unfold zi; omega) dM_size_4 (by decide) (fun c_1 => ?_) (fun c_1 => ?_)
      · refine lv_iload_n hx hb dM_size_21 rfl (lv_at hl 1 rfl) ?_
        exact hend 22 _ (w0, q0) _ _ _ dM_size_22 (⟨rfl, n, rfl, hn, hz0, fun h9 => absurd (show n = 0 by omega) h9⟩) hZ hS
      · refine lv_aload_n hx hb dM_size_7 rfl (lv_at hl 0 rfl) ?_
        refine lv_iload_n hx hb dM_size_8 rfl (lv_at hl 1 rfl) ?_
        refine lv_iconst (v := iZ (1)) hx hb dM_size_9 (by decide) ?_
        refine zr_isub hx hb dM_size_10 ?_
        rw [show (↑n - 1 : Int) = ((n - 1 : Nat) : Int) by omega]
        refine zm_ld (k := ka) (i := n - 1) hx hb hK hZ (by omega) (by omega) dM_size_11 ?_
        have hlt9 := hZ.2 ka (n - 1)
        refine zr_if_ne (tgt := 21) hx hb (by unfold zi; omega) dM_size_12 (by decide) (fun c_2 => ?_) (fun c_2 => ?_)
        · refine lv_iload_n hx hb dM_size_21 rfl (lv_at hl 1 rfl) ?_
          exact hend 22 _ (w0, q0) _ _ _ dM_size_22 (⟨rfl, n, rfl, hn, hz0, fun _ => by omega⟩) hZ hS
        · refine lv_iinc (v := iZ (↑n - 1)) (lv' := [(1, .int (iZ (↑n - 1))), (0, .ref (B + ka))]) hx hb dM_size_15 hl (k := 1) rfl (iZ_dec _ _) (by decide) rfl (fun ls hl => ?_)
          refine lv_goto (tgt := 3) hx hb dM_size_18 (by decide) ?_
          rw [show (↑n - 1 : Int) = ↑(n - 1) from by omega] at hl
          exact ihL3 (n - 1) _ _ _ (by omega) (by omega) (fun i h1 h2 => by by_cases h9 : i = n - 1; rw [h9]; omega; exact hz0 i (by omega) h2) hZ hS (lv_sub hl [1, 0] rfl)
  exact L3 _ La _ _ _ (Nat.lt_succ_self _) (Nat.le_refl _) (fun i h1 h2 => absurd h1 (by omega)) hZ hS (lv_sub hl [1, 0] rfl)

set_option maxHeartbeats 4000000 in
set_option maxRecDepth 100000 in
theorem mM_isZero (l : Launch) (E : zE) (B : Nat) (w0 : Nat → Nat → Nat) (q0 : zC) (r : Nat) (hr10 : r < 10) :
    Met l yM_isZero (zws yM_isZero cM_isZero 4 (some .boolean)) { frames := 0, cells := 0, slots := 0, locals := 0 } (zPc E (zMD E B w0 q0) [.ref (B), .int (iZ (↑r))]) (va_Qi (fun (rr : Int32) (u : (Nat → Nat → Nat) × zC) => u = (w0, q0) ∧ ∃ b : Bool, rr = iZ (bZ b) ∧ (b = true ↔ ∀ i, i < 128 → w0 2 (128 * r + i) = 0)) (fun u t => zMD E B u.1 u.2 t.heap ∧ zK E t) (zA B 15)) 0 0 (zA B 15) := by
  refine zof_z (P' := fun (u : (Nat → Nat → Nat) × zC) H => zMD E B u.1 u.2 H) (by decide) (Nat.le_of_ble_eq_true rfl) fun p e R s m args below meth c Q ls hR hx hb hml ht hown hK hZ hl hend => ?_
  have hS : va_S (zA B 15) s.heap s.heap [] := va_S.rf
  have hown : s.vm.findClass "WholeDeskModel" = some m.cls := hown
  have hl : lv_has ls 4 [(0, .ref (B)), (1, .int (iZ (↑r)))] := hl
  refine lv_iconst (v := iZ (1)) hx hb dM_isZero_0 (by decide) ?_
  refine lv_istore_n (lv' := [(2, .int (iZ (1))), (0, .ref (B)), (1, .int (iZ (↑r)))]) hx hb dM_isZero_1 rfl hl (by decide) rfl (fun ls hl => ?_)
  refine lv_iconst (v := iZ (0)) hx hb dM_isZero_2 (by decide) ?_
  refine lv_istore_n (lv' := [(3, .int (iZ (0))), (2, .int (iZ (1))), (0, .ref (B)), (1, .int (iZ (↑r)))]) hx hb dM_isZero_3 rfl hl (by decide) rfl (fun ls hl => ?_)
  have L4 : ∀ (fu : Nat) (i : Nat) (b : Bool) (H : Heap) (locs : List Loc) (ls : Array Slot), 128 - i < fu → (i ≤ 128) → (b = true ↔ ∀ j, j < i → w0 2 (128 * r + j) = 0) → zMD E B w0 q0 H → va_S (zA B 15) s.heap H locs → lv_has ls 4 [(0, .ref (B)), (1, .int (iZ (↑r))), (2, .int (iZ (bZ b))), (3, .int (iZ (↑i)))] → W p l e R s m args below meth c H locs 0 0 Q (F0 m 4 ls []) := by
    intro fu
    induction fu with
    | zero => intro i b H locs ls hm; exact absurd hm (Nat.not_lt_zero _)
    | succ fu ihL4 =>
      intro i b H locs ls hm hi hb9 hZ hS hl
      refine lv_iload_n hx hb dM_isZero_4 rfl (lv_at hl 3 rfl) ?_
      refine lv_sipush (v := iZ (128)) hx hb dM_isZero_5 (by decide) ?_
      refine zr_icmp_ge (tgt := 42) hx hb (by unfold zi; omega) (by unfold zi; omega) dM_isZero_8 (by decide) (fun c_1 => ?_) (fun c_1 => ?_)
      · refine lv_iload_n hx hb dM_isZero_42 rfl (lv_at hl 2 rfl) ?_
        exact hend 43 (b) (w0, q0) _ _ _ dM_isZero_43 (⟨rfl, b, rfl, by rw [show i = 128 by omega] at hb9; exact hb9⟩) hZ hS
      · refine lv_iload_n hx hb dM_isZero_11 rfl (lv_at hl 2 rfl) ?_
        refine zr_if_eq (tgt := 34) hx hb (by have := bZ_01 b; omega) dM_isZero_12 (by decide) (fun c_2 => ?_) (fun c_2 => ?_)
        · refine lv_iconst (v := iZ (0)) hx hb dM_isZero_34 (by decide) ?_
          refine lv_istore_n (lv' := [(2, .int (iZ (0))), (0, .ref (B)), (1, .int (iZ (↑r))), (3, .int (iZ (↑i)))]) hx hb dM_isZero_35 rfl hl (by decide) rfl (fun ls hl => ?_)
          refine lv_iinc (v := iZ (↑i + 1)) (lv' := [(3, .int (iZ (↑i + 1))), (2, .int (iZ (0))), (0, .ref (B)), (1, .int (iZ (↑r)))]) hx hb dM_isZero_36 hl (k := 3) rfl (iZ_add _ _) (by decide) rfl (fun ls hl => ?_)
          refine lv_goto (tgt := 4) hx hb dM_isZero_39 (by decide) ?_
          rw [show (↑i + 1 : Int) = ↑(i + 1) from by omega] at hl
          rw [show (0 : Int) = bZ false from rfl] at hl
          exact ihL4 (i + 1) false _ _ _ (by omega) (by omega) (⟨fun h9 => absurd h9 (by decide), fun h9 => absurd (hb9.mpr (fun j hj => h9 j (by omega))) (by rw [show b = false from bZ_f.mp (by assumption : bZ b = 0)]; decide)⟩) hZ hS (lv_sub hl [2, 3, 1, 0] rfl)
        · have hbt := bZ_nf.mp (by assumption : ¬ bZ b = 0)
          refine lv_aload_n hx hb dM_isZero_15 rfl (lv_at hl 0 rfl) ?_
          refine zm_kept hx hb ht hown hK hZ tw_681 dM_isZero_16 ?_
          refine lv_sipush (v := iZ (128)) hx hb dM_isZero_19 (by decide) ?_
          refine lv_iload_n hx hb dM_isZero_22 rfl (lv_at hl 1 rfl) ?_
          refine zr_imul hx hb dM_isZero_23 ?_
          refine lv_iload_n hx hb dM_isZero_24 rfl (lv_at hl 3 rfl) ?_
          refine zr_iadd hx hb dM_isZero_25 ?_
          rw [show ((128 * ↑r) + ↑i : Int) = ((128 * r + i : Nat) : Int) by omega]
          refine zm_ld (k := 2) (i := 128 * r + i) hx hb hK hZ (by decide) (by show 128 * r + i < 1280; omega) dM_isZero_26 ?_
          have hlt9 := hZ.2 2 (128 * r + i)
          refine zr_if_ne (tgt := 34) hx hb (by unfold zi; omega) dM_isZero_27 (by decide) (fun c_3 => ?_) (fun c_3 => ?_)
          · refine lv_iconst (v := iZ (0)) hx hb dM_isZero_34 (by decide) ?_
            refine lv_istore_n (lv' := [(2, .int (iZ (0))), (0, .ref (B)), (1, .int (iZ (↑r))), (3, .int (iZ (↑i)))]) hx hb dM_isZero_35 rfl hl (by decide) rfl (fun ls hl => ?_)
            refine lv_iinc (v := iZ (↑i + 1)) (lv' := [(3, .int (iZ (↑i + 1))), (2, .int (iZ (0))), (0, .ref (B)), (1, .int (iZ (↑r)))]) hx hb dM_isZero_36 hl (k := 3) rfl (iZ_add _ _) (by decide) rfl (fun ls hl => ?_)
            refine lv_goto (tgt := 4) hx hb dM_isZero_39 (by decide) ?_
            rw [show (↑i + 1 : Int) = ↑(i + 1) from by omega] at hl
            rw [show (0 : Int) = bZ false from rfl] at hl
            exact ihL4 (i + 1) false _ _ _ (by omega) (by omega) (⟨fun h9 => absurd h9 (by decide), fun h9 => absurd (h9 i (by omega)) (by omega)⟩) hZ hS (lv_sub hl [2, 3, 1, 0] rfl)
          · refine lv_iconst (v := iZ (1)) hx hb dM_isZero_30 (by decide) ?_
            refine lv_goto (tgt := 35) hx hb dM_isZero_31 (by decide) ?_
            refine lv_istore_n (lv' := [(2, .int (iZ (1))), (0, .ref (B)), (1, .int (iZ (↑r))), (3, .int (iZ (↑i)))]) hx hb dM_isZero_35 rfl hl (by decide) rfl (fun ls hl => ?_)
            refine lv_iinc (v := iZ (↑i + 1)) (lv' := [(3, .int (iZ (↑i + 1))), (2, .int (iZ (1))), (0, .ref (B)), (1, .int (iZ (↑r)))]) hx hb dM_isZero_36 hl (k := 3) rfl (iZ_add _ _) (by decide) rfl (fun ls hl => ?_)
            refine lv_goto (tgt := 4) hx hb dM_isZero_39 (by decide) ?_
            rw [show (↑i + 1 : Int) = ↑(i + 1) from by omega] at hl
            rw [show (1 : Int) = bZ true from rfl] at hl
            exact ihL4 (i + 1) true _ _ _ (by omega) (by omega) (⟨fun _ j hj => by by_cases h9 : j = i; rw [h9]; omega; exact hb9.mp hbt j (by omega), fun _ => rfl⟩) hZ hS (lv_sub hl [2, 3, 1, 0] rfl)
  rw [show (1 : Int) = bZ true from rfl] at hl
  exact L4 _ 0 true _ _ _ (Nat.lt_succ_self _) (Nat.zero_le _) (⟨fun _ j hj => absurd hj (Nat.not_lt_zero _), fun _ => rfl⟩) hZ hS (lv_sub hl [2, 3, 1, 0] rfl)

theorem cmp_rv {d f : Nat → Nat} (hd : ∀ i, d i < 65536) (hf : ∀ i, f i < 65536) {n i : Nat} (hi : i < n) (he : ∀ j, i < j → j < n → d j = f j) : (d i < f i → cmpZ ((rv d n : Nat) : Int) ((rv f n : Nat) : Int) = -1) ∧ (f i < d i → cmpZ ((rv d n : Nat) : Int) ((rv f n : Nat) : Int) = 1) := by
  constructor
  · intro h
    have := rv_lex hd h n hi he
    unfold cmpZ
    rw [if_pos (by omega)]
  · intro h
    have := rv_lex hf h n hi (fun j h1 h2 => (he j h1 h2).symm)
    unfold cmpZ
    rw [if_neg (by omega), if_neg (by omega)]
set_option maxHeartbeats 4000000 in
set_option maxRecDepth 100000 in
theorem mM_compareRows (l : Launch) (E : zE) (B : Nat) (w0 : Nat → Nat → Nat) (q0 : zC) (ka : Nat) (hk_ka : 4 ≤ ka ∧ ka ≤ 13) (kb : Nat) (hk_kb : 4 ≤ kb ∧ kb ≤ 13) (hln_ka : mln ka = 264) (hln_kb : mln kb = 264) :
    Met l yM_compareRows (zws yM_compareRows cM_compareRows 3 (some .int)) { frames := 0, cells := 0, slots := 0, locals := 0 } (zPc E (zMD E B w0 q0) [.ref (B + ka), .ref (B + kb)]) (va_Qi (fun (r : Int32) (u : (Nat → Nat → Nat) × zC) => u = (w0, q0) ∧ r = iZ (cmpZ ((rv (w0 ka) 264 : Nat) : Int) ((rv (w0 kb) 264 : Nat) : Int))) (fun u t => zMD E B u.1 u.2 t.heap ∧ zK E t) (zA B 15)) 0 0 (zA B 15) := by
  refine zof_i (P' := fun (u : (Nat → Nat → Nat) × zC) H => zMD E B u.1 u.2 H) (by decide) (Nat.le_of_ble_eq_true rfl) fun p e R s m args below meth c Q ls hR hx hb hml ht hown hK hZ hl hend => ?_
  have hS : va_S (zA B 15) s.heap s.heap [] := va_S.rf
  have hown : s.vm.findClass "WholeDeskModel" = some m.cls := hown
  have hl : lv_has ls 3 [(0, .ref (B + ka)), (1, .ref (B + kb))] := hl
  refine lv_aload_n hx hb dM_compareRows_0 rfl (lv_at hl 0 rfl) ?_
  refine zm_len (k := ka) hx hb hK hZ (by omega) dM_compareRows_1 ?_
  rw [show mln ka = 264 from hln_ka]
  refine lv_iconst (v := iZ (1)) hx hb dM_compareRows_2 (by decide) ?_
  refine zr_isub hx hb dM_compareRows_3 ?_
  refine lv_istore_n (lv' := [(2, .int (iZ (((264 : Nat) : Int) - 1))), (0, .ref (B + ka)), (1, .ref (B + kb))]) hx hb dM_compareRows_4 rfl hl (by decide) rfl (fun ls hl => ?_)
  have L5 : ∀ (fu : Nat) (n : Nat) (H : Heap) (locs : List Loc) (ls : Array Slot), n < fu → (n ≤ 264) → (∀ i, n ≤ i → i < 264 → w0 ka i = w0 kb i) → zMD E B w0 q0 H → va_S (zA B 15) s.heap H locs → lv_has ls 3 [(0, .ref (B + ka)), (1, .ref (B + kb)), (2, .int (iZ (↑n - 1)))] → W p l e R s m args below meth c H locs 0 0 Q (F0 m 5 ls []) := by
    intro fu
    induction fu with
    | zero => intro n H locs ls hm; exact absurd hm (Nat.not_lt_zero _)
    | succ fu ihL5 =>
      intro n H locs ls hm hn he hZ hS hl
      refine lv_iload_n hx hb dM_compareRows_5 rfl (lv_at hl 2 rfl) ?_
      refine zr_if_lt (tgt := 39) hx hb (by unfold zi; omega) dM_compareRows_6 (by decide) (fun c_1 => ?_) (fun c_1 => ?_)
      · refine lv_iconst (v := iZ (0)) hx hb dM_compareRows_39 (by decide) ?_
        exact hend 40 _ (w0, q0) _ _ _ dM_compareRows_40 (⟨rfl, by rw [rv_congr (fun i hi => he i (by omega) hi)]; unfold cmpZ; rw [if_neg (by omega), if_pos rfl]⟩) hZ hS
      · refine lv_aload_n hx hb dM_compareRows_9 rfl (lv_at hl 0 rfl) ?_
        refine lv_iload_n hx hb dM_compareRows_10 rfl (lv_at hl 2 rfl) ?_
        rw [show (↑n - 1 : Int) = ((n - 1 : Nat) : Int) by omega]
        refine zm_ld (k := ka) (i := n - 1) hx hb hK hZ (by omega) (by omega) dM_compareRows_11 ?_
        refine lv_aload_n hx hb dM_compareRows_12 rfl (lv_at hl 1 rfl) ?_
        refine lv_iload_n hx hb dM_compareRows_13 rfl (lv_at hl 2 rfl) ?_
        rw [show (↑n - 1 : Int) = ((n - 1 : Nat) : Int) by omega]
        refine zm_ld (k := kb) (i := n - 1) hx hb hK hZ (by omega) (by omega) dM_compareRows_14 ?_
        have hla := hZ.2 ka (n - 1)
        have hlb := hZ.2 kb (n - 1)
        refine zr_icmp_eq (tgt := 33) hx hb (by unfold zi; omega) (by unfold zi; omega) dM_compareRows_15 (by decide) (fun c_2 => ?_) (fun c_2 => ?_)
        · refine lv_iinc (v := iZ (↑n - 1 - 1)) (lv' := [(2, .int (iZ (↑n - 1 - 1))), (0, .ref (B + ka)), (1, .ref (B + kb))]) hx hb dM_compareRows_33 hl (k := 2) rfl (iZ_dec _ _) (by decide) rfl (fun ls hl => ?_)
          refine lv_goto (tgt := 5) hx hb dM_compareRows_36 (by decide) ?_
          rw [show (↑n - 1 - 1 : Int) = ↑(n - 1) - 1 from by omega] at hl
          exact ihL5 (n - 1) _ _ _ (by omega) (by omega) (fun i h1 h2 => by by_cases h9 : i = n - 1; rw [h9]; omega; exact he i (by omega) h2) hZ hS (lv_sub hl [1, 2, 0] rfl)
        · have hcr := cmp_rv (hZ.2 ka) (hZ.2 kb) (n := 264) (i := n - 1) (by omega) (fun j h1 h2 => he j (by omega) h2)
          refine lv_aload_n hx hb dM_compareRows_18 rfl (lv_at hl 0 rfl) ?_
          refine lv_iload_n hx hb dM_compareRows_19 rfl (lv_at hl 2 rfl) ?_
          rw [show (↑n - 1 : Int) = ((n - 1 : Nat) : Int) by omega]
          refine zm_ld (k := ka) (i := n - 1) hx hb hK hZ (by omega) (by omega) dM_compareRows_20 ?_
          refine lv_aload_n hx hb dM_compareRows_21 rfl (lv_at hl 1 rfl) ?_
          refine lv_iload_n hx hb dM_compareRows_22 rfl (lv_at hl 2 rfl) ?_
          rw [show (↑n - 1 : Int) = ((n - 1 : Nat) : Int) by omega]
          refine zm_ld (k := kb) (i := n - 1) hx hb hK hZ (by omega) (by omega) dM_compareRows_23 ?_
          refine zr_icmp_ge (tgt := 31) hx hb (by unfold zi; omega) (by unfold zi; omega) dM_compareRows_24 (by decide) (fun c_3 => ?_) (fun c_3 => ?_)
          · refine lv_iconst (v := iZ (1)) hx hb dM_compareRows_31 (by decide) ?_
            exact hend 32 _ (w0, q0) _ _ _ dM_compareRows_32 (⟨rfl, by rw [hcr.2 (by omega)]⟩) hZ hS
          · refine lv_iconst (v := iZ (-1)) hx hb dM_compareRows_27 (by decide) ?_
            refine lv_goto (tgt := 32) hx hb dM_compareRows_28 (by decide) ?_
            exact hend 32 _ (w0, q0) _ _ _ dM_compareRows_32 (⟨rfl, by rw [hcr.1 (by omega)]⟩) hZ hS
  exact L5 _ 264 _ _ _ (Nat.lt_succ_self _) (Nat.le_refl _) (fun i h1 h2 => absurd h1 (by omega)) hZ hS (lv_sub hl [1, 2, 0] rfl)
