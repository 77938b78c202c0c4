/-- what a character counts as a digit -/
def dg (x : Nat) : Nat := if 48 ≤ x ∧ x ≤ 57 then x - 48 else if 97 ≤ x ∧ x ≤ 122 then x - 97 + 10 else if 65 ≤ x ∧ x ≤ 90 then x - 65 + 10 else 99
theorem dg_le (x : Nat) : dg x ≤ 99 := by unfold dg; split; omega; split; omega; split <;> omega
/-- where the digits begin -/
def stt (ct : Nat) (f : Nat → Nat) : Nat := if 0 < ct ∧ (f 0 = 43 ∨ f 0 = 45) then 1 else 0
theorem stt_le (ct : Nat) (f : Nat → Nat) : stt ct f ≤ 1 := by unfold stt; split <;> omega
def isnum (ct : Nat) (f : Nat → Nat) (base : Nat) : Prop := stt ct f < ct ∧ ∀ i, stt ct f ≤ i → i < ct → dg (f i) < base
/-- the characters that a write adds -/
def byt (z : Int) (k : Nat) : Nat := (z % 18446744073709551616 / ((2 ^ (8 * k) : Nat) : Int) % 256).toNat
theorem byt_lt (z : Int) (k : Nat) : byt z k < 256 := by unfold byt; omega
def wrt (f : Nat → Nat) (ct n : Nat) (z : Int) : Nat → Nat := fun i => if ct ≤ i ∧ i < ct + n then byt z (i - ct) else f i
theorem wrt_0 (f : Nat → Nat) (ct : Nat) (z : Int) : wrt f ct 0 z = f := by funext i; unfold wrt; rw [if_neg (by omega)]
theorem wrt_s (f : Nat → Nat) (ct k : Nat) (z : Int) : va_up (wrt f ct k z) (ct + k) (byt z k) = wrt f ct (k + 1) z := by
  funext i
  by_cases h : i = ct + k
  · subst h
    rw [va_up_self]
    unfold wrt
    rw [if_pos (by omega), Nat.add_sub_cancel_left]
  · rw [va_up_ne _ _ h]
    unfold wrt
    by_cases h1 : ct ≤ i ∧ i < ct + k
    · rw [if_pos h1, if_pos (by omega)]
    · rw [if_neg h1, if_neg (by omega)]
set_option maxHeartbeats 4000000 in
set_option maxRecDepth 100000 in
theorem mD_append (l : Launch) (E : zE) (B : Nat) (v0 : Nat → zV) (o : Nat → va_E) (ct0 : Nat) (f0 : Nat → Nat) (n : Nat) (z : Int) (hn : n ≤ 8) (hc : ct0 ≤ 2100) :
    Met l yD_append (zws yD_append cD_append 5 (some .boolean)) { frames := 0, cells := 0, slots := 0, locals := 0 } (zPc E (zD E B v0 (zd E B o ct0 f0)) [.ref (B + 72), .int (iZ (↑n)), .long (lZ (z))]) (va_Qi (fun (r : Int32) (u : (Nat → zV) × Nat × (Nat → Nat)) => r = iZ (bZ (decide (ct0 + n ≤ 2100))) ∧ u = if ct0 + n ≤ 2100 then (v0, ct0 + n, wrt f0 ct0 n z) else (v0, ct0, f0)) (fun (u : (Nat → zV) × Nat × (Nat → Nat)) t => zD E B u.1 (zd E B o u.2.1 u.2.2) t.heap ∧ zK E t) (zA B 80)) 0 0 (zA B 80) := by
  refine zof_z (P' := fun (u : (Nat → zV) × Nat × (Nat → Nat)) H => zD E B u.1 (zd E B o u.2.1 u.2.2) H) (by decide) (Nat.le_of_ble_eq_true rfl) fun p e R s m args below meth c Q ls hR hx hb hml ht hown hK hZ hl hend => ?_
  have hS : va_S (zA B 80) s.heap s.heap [] := va_S.rf
  have hown : s.vm.findClass "WholeDesk$Draft" = some m.cls := hown
  have hl : lv_has ls 5 [(0, .ref (B + 72)), (1, .int (iZ (↑n))), (2, .long (lZ (z)))] := hl
  refine lv_aload_n hx hb dD_append_0 rfl (lv_at hl 0 rfl) ?_
  refine zd_count hx hb ht hown hK hZ tw_97 dD_append_1 ?_
  refine lv_iload_n hx hb dD_append_4 rfl (lv_at hl 1 rfl) ?_
  refine zr_iadd hx hb dD_append_5 ?_
  refine lv_sipush (v := iZ (2100)) hx hb dD_append_6 (by decide) ?_
  refine zr_icmp_le (tgt := 14) hx hb (by omega) (by omega) dD_append_9 (by decide) (fun c_1 => ?_) (fun c_1 => ?_)
  · have hZ : zD E B v0 (zd E B o ct0 (wrt f0 ct0 0 z)) s.heap := by rw [wrt_0]; exact hZ
    have hfit : ct0 + n ≤ 2100 := by omega
    refine lv_iconst (v := iZ (0)) hx hb dD_append_14 (by decide) ?_
    refine lv_istore (lv' := [(4, .int (iZ (0))), (0, .ref (B + 72)), (1, .int (iZ (↑n))), (2, .long (lZ (z)))]) hx hb dD_append_15 hl (by decide) rfl (fun ls hl => ?_)
    have L17 : ∀ (fu : Nat) (i : Nat) (H : Heap) (locs : List Loc) (ls : Array Slot), n - i < fu → (i ≤ n) → zD E B v0 (zd E B o ct0 (wrt f0 ct0 i z)) H → va_S (zA B 80) s.heap H locs → lv_has ls 5 [(0, .ref (B + 72)), (1, .int (iZ (↑n))), (2, .long (lZ (z))), (4, .int (iZ (↑i)))] → W p l e R s m args below meth c H locs 0 0 Q (F0 m 17 ls []) := by
      intro fu
      induction fu with
      | zero => intro i H locs ls hm; exact absurd hm (Nat.not_lt_zero _)
      | succ fu ihL17 =>
        intro i H locs ls hm hi  hZ hS hl
        refine lv_iload hx hb dD_append_17 (lv_at hl 3 rfl) ?_
        refine lv_iload_n hx hb dD_append_19 rfl (lv_at hl 1 rfl) ?_
        refine zr_icmp_ge (tgt := 50) hx hb (by omega) (by omega) dD_append_20 (by decide) (fun c_2 => ?_) (fun c_2 => ?_)
        · have hin : i = n := by omega
          rw [hin] at hZ
          refine lv_aload_n hx hb dD_append_50 rfl (lv_at hl 0 rfl) ?_
          refine lv_dup hx hb dD_append_51 rfl ?_
          refine zd_count hx hb ht hown hK hZ tw_97 dD_append_52 ?_
          refine lv_iload_n hx hb dD_append_55 rfl (lv_at hl 1 rfl) ?_
          refine zr_iadd hx hb dD_append_56 ?_
          rw [show (↑ct0 + ↑n : Int) = ((ct0 + n : Nat) : Int) from by omega]
          refine zd_put_count (ct1 := ct0 + n) hx hb ht hown hK hZ hS tw_97 dD_append_57 (fun H locs hZ hS => ?_)
          refine lv_iconst (v := iZ (1)) hx hb dD_append_60 (by decide) ?_
          exact hend 61 (true) (v0, ct0 + n, wrt f0 ct0 n z) _ _ _ dD_append_61 (⟨by rw [decide_eq_true hfit], by rw [if_pos hfit]⟩) hZ hS
        · refine lv_aload_n hx hb dD_append_23 rfl (lv_at hl 0 rfl) ?_
          refine zd_characters hx hb ht hown hK hZ tw_99 dD_append_24 ?_
          refine lv_aload_n hx hb dD_append_27 rfl (lv_at hl 0 rfl) ?_
          refine zd_count hx hb ht hown hK hZ tw_97 dD_append_28 ?_
          refine lv_iload hx hb dD_append_31 (lv_at hl 3 rfl) ?_
          refine zr_iadd hx hb dD_append_33 ?_
          refine lv_lload_n hx hb dD_append_34 rfl (lv_at hl 2 rfl) ?_
          refine lv_bipush (v := iZ (8)) hx hb dD_append_35 (by decide) ?_
          refine lv_iload hx hb dD_append_37 (lv_at hl 3 rfl) ?_
          refine zr_imul hx hb dD_append_39 ?_
          refine zc_i (y := iZ (↑(8 * i))) (congrArg iZ (by omega)) ?_
          refine zr_lushrU (n := 8 * i) (P := ((2 ^ (8 * i) : Nat) : Int)) hx hb (by omega) rfl dD_append_40 ?_
          refine zr_l2i hx hb dD_append_41 ?_
          refine lv_i2b hx hb dD_append_42 (i2b_sb _) ?_
          rw [show (sb (((z % 18446744073709551616 / ((2 ^ (8 * i) : Nat) : Int)) : Int) % 256).toNat : Int) = sb (byt z i) from rfl]
          refine zd_st (i := ct0 + i) (x := byt z i) hx hb hK hZ hS (by omega) (byt_lt z i) dD_append_43 (fun H locs hZ hS => ?_)
          rw [wrt_s] at hZ
          refine lv_iinc (v := iZ (↑i + 1)) (lv' := [(4, .int (iZ (↑i + 1))), (0, .ref (B + 72)), (1, .int (iZ (↑n))), (2, .long (lZ (z)))]) hx hb dD_append_44 hl (k := 3) rfl (iZ_add _ _) (by decide) rfl (fun ls hl => ?_)
          refine lv_goto (tgt := 17) hx hb dD_append_47 (by decide) ?_
          rw [show (↑i + 1 : Int) = ↑(i + 1) from by omega] at hl
          exact ihL17 (i + 1) _ _ _ (by omega) (by omega)  hZ hS (lv_sub hl [1, 2, 3, 0] rfl)
    exact L17 _ 0 _ _ _ (Nat.lt_succ_self _) (Nat.zero_le _)  hZ hS (lv_sub hl [1, 2, 3, 0] rfl)
  · refine lv_iconst (v := iZ (0)) hx hb dD_append_12 (by decide) ?_
    exact hend 13 (false) (v0, ct0, f0) _ _ _ dD_append_13 (⟨by rw [decide_eq_false (by omega)], by rw [if_neg (by omega)]⟩) hZ hS

set_option maxHeartbeats 4000000 in
set_option maxRecDepth 100000 in
theorem mD_startsWith (l : Launch) (E : zE) (B : Nat) (v0 : Nat → zV) (o : Nat → va_E) (ct0 : Nat) (f0 : Nat → Nat) (ch : Nat) (hch : ch < 128) (hf : ∀ i, f0 i < 256) (hc : ct0 ≤ 2100) :
    Met l yD_startsWith (zws yD_startsWith cD_startsWith 2 (some .boolean)) { frames := 0, cells := 0, slots := 0, locals := 0 } (zPc E (zD E B v0 (zd E B o ct0 f0)) [.ref (B + 72), .int (iZ (↑ch))]) (va_Qi (fun (r : Int32) (u : (Nat → zV) × Nat × (Nat → Nat)) => u = (v0, ct0, f0) ∧ r = iZ (bZ (decide (0 < ct0 ∧ f0 0 = ch)))) (fun (u : (Nat → zV) × Nat × (Nat → Nat)) t => zD E B u.1 (zd E B o u.2.1 u.2.2) t.heap ∧ zK E t) (zA B 80)) 0 0 (zA B 80) := by
  refine zof_z (P' := fun (u : (Nat → zV) × Nat × (Nat → Nat)) H => zD E B u.1 (zd E B o u.2.1 u.2.2) H) (by decide) (Nat.le_of_ble_eq_true rfl) fun p e R s m args below meth c Q ls hR hx hb hml ht hown hK hZ hl hend => ?_
  have hS : va_S (zA B 80) s.heap s.heap [] := va_S.rf
  have hown : s.vm.findClass "WholeDesk$Draft" = some m.cls := hown
  have hl : lv_has ls 2 [(0, .ref (B + 72)), (1, .int (iZ (↑ch)))] := hl
  refine lv_aload_n hx hb dD_startsWith_0 rfl (lv_at hl 0 rfl) ?_
  refine zd_count hx hb ht hown hK hZ tw_97 dD_startsWith_1 ?_
  refine zr_if_le (tgt := 21) hx hb (by omega) dD_startsWith_4 (by decide) (fun c_1 => ?_) (fun c_1 => ?_)
  · refine lv_iconst (v := iZ (0)) hx hb dD_startsWith_21 (by decide) ?_
    exact hend 22 (false) (v0, ct0, f0) _ _ _ dD_startsWith_22 (⟨rfl, by rw [decide_eq_false (by omega)]⟩) hZ hS
  · refine lv_aload_n hx hb dD_startsWith_7 rfl (lv_at hl 0 rfl) ?_
    refine zd_characters hx hb ht hown hK hZ tw_99 dD_startsWith_8 ?_
    refine lv_iconst (v := iZ (0)) hx hb dD_startsWith_11 (by decide) ?_
    refine W.eq (g2 := F0 m 12 ls ([.int (iZ ((0 : Nat) : Int)), .ref (B + 73)])) rfl ?_
    refine zd_ld (i := 0) hx hb hK hZ (by omega) dD_startsWith_12 ?_
    have hb9 := sb_bd (hf 0)
    have he9 := sb_eq (hf 0) hch
    refine lv_iload_n hx hb dD_startsWith_13 rfl (lv_at hl 1 rfl) ?_
    refine zr_icmp_ne (tgt := 21) hx hb (by omega) (by omega) dD_startsWith_14 (by decide) (fun c_2 => ?_) (fun c_2 => ?_)
    · refine lv_iconst (v := iZ (0)) hx hb dD_startsWith_21 (by decide) ?_
      exact hend 22 (false) (v0, ct0, f0) _ _ _ dD_startsWith_22 (⟨rfl, by rw [decide_eq_false (fun h9 => absurd (he9.mpr h9.2) (by omega))]⟩) hZ hS
    · refine lv_iconst (v := iZ (1)) hx hb dD_startsWith_17 (by decide) ?_
      refine lv_goto (tgt := 22) hx hb dD_startsWith_18 (by decide) ?_
      exact hend 22 (true) (v0, ct0, f0) _ _ _ dD_startsWith_22 (⟨rfl, by rw [decide_eq_true ⟨by omega, he9.mp (by omega)⟩]⟩) hZ hS

set_option maxHeartbeats 4000000 in
set_option maxRecDepth 100000 in
theorem mD_start (l : Launch) (E : zE) (B : Nat) (v0 : Nat → zV) (o : Nat → va_E) (ct0 : Nat) (f0 : Nat → Nat) (hf : ∀ i, f0 i < 256) (hc : ct0 ≤ 2100) :
    Met l yD_start (zws yD_start cD_start 1 (some .int)) { frames := 1, cells := 0, slots := 0, locals := 40 } (zPc E (zD E B v0 (zd E B o ct0 f0)) [.ref (B + 72)]) (va_Qi (fun (r : Int32) (u : (Nat → zV) × Nat × (Nat → Nat)) => u = (v0, ct0, f0) ∧ r = iZ ↑(stt ct0 f0)) (fun (u : (Nat → zV) × Nat × (Nat → Nat)) t => zD E B u.1 (zd E B o u.2.1 u.2.2) t.heap ∧ zK E t) (zA B 80)) 0 0 (zA B 80) := by
  refine zof_i (P' := fun (u : (Nat → zV) × Nat × (Nat → Nat)) H => zD E B u.1 (zd E B o u.2.1 u.2.2) H) (by decide) (Nat.le_of_ble_eq_true rfl) fun p e R s m args below meth c Q ls hR hx hb hml ht hown hK hZ hl hend => ?_
  have hS : va_S (zA B 80) s.heap s.heap [] := va_S.rf
  have hown : s.vm.findClass "WholeDesk$Draft" = some m.cls := hown
  have hl : lv_has ls 1 [(0, .ref (B + 72))] := hl
  refine lv_aload_n hx hb dD_start_0 rfl (lv_at hl 0 rfl) ?_
  refine lv_bipush (v := iZ (43)) hx hb dD_start_1 (by decide) ?_
  refine zcV_i 1 (As := [.int (iZ (43))]) (rest := []) rfl ⟨hx, hb, hml, hown, ht⟩ (mD_startsWith l E B v0 o ct0 f0 43 (by decide) hf hc) tw_263 tw_260 tw_262 tp_3 tw_4 qD_startsWith (by rw [hR]; decide) (zd_recv hK hZ) hZ hK hl.1 rfl rfl (Nat.le_of_ble_eq_true rfl) dD_start_3 ⟨Nat.zero_le _, Nat.zero_le _⟩ hS (fun r_1 u H locs hp hZ _ hS => ?_)
  obtain ⟨hu, hr1⟩ := hp
  subst hu
  subst hr1
  dsimp only at hZ
  refine zr_if_ne (tgt := 18) hx hb (by have := bZ_01 (decide (0 < ct0 ∧ f0 0 = 43)); omega) dD_start_6 (by decide) (fun c_2 => ?_) (fun c_2 => ?_)
  · have hst : stt ct0 f0 = 1 := by unfold stt; rw [if_pos]; first | exact ⟨(of_decide_eq_true (bZ_nf.mp (by assumption : ¬ bZ (decide (0 < ct0 ∧ f0 0 = 45)) = 0))).1, Or.inr (of_decide_eq_true (bZ_nf.mp (by assumption : ¬ bZ (decide (0 < ct0 ∧ f0 0 = 45)) = 0))).2⟩ | exact ⟨(of_decide_eq_true (bZ_nf.mp (by assumption : ¬ bZ (decide (0 < ct0 ∧ f0 0 = 43)) = 0))).1, Or.inl (of_decide_eq_true (bZ_nf.mp (by assumption : ¬ bZ (decide (0 < ct0 ∧ f0 0 = 43)) = 0))).2⟩
    refine lv_iconst (v := iZ (1)) hx hb dD_start_18 (by decide) ?_
    refine lv_goto (tgt := 23) hx hb dD_start_19 (by decide) ?_
    refine zc_i (y := iZ ↑(stt ct0 f0)) (by rw [hst]; rfl) ?_
    exact hend 23 _ (v0, ct0, f0) _ _ _ dD_start_23 (⟨rfl, rfl⟩) hZ hS
  · have h43 := of_decide_eq_false (bZ_f.mp (by assumption : bZ (decide (0 < ct0 ∧ f0 0 = 43)) = 0))
    refine lv_aload_n hx hb dD_start_9 rfl (lv_at hl 0 rfl) ?_
    refine lv_bipush (v := iZ (45)) hx hb dD_start_10 (by decide) ?_
    refine zcV_i 1 (As := [.int (iZ (45))]) (rest := []) rfl ⟨hx, hb, hml, hown, ht⟩ (mD_startsWith l E B v0 o ct0 f0 45 (by decide) hf hc) tw_263 tw_260 tw_262 tp_3 tw_4 qD_startsWith (by rw [hR]; decide) (zd_recv hK hZ) hZ hK hl.1 rfl rfl (Nat.le_of_ble_eq_true rfl) dD_start_12 ⟨Nat.zero_le _, Nat.zero_le _⟩ hS (fun r_3 u H locs hp hZ _ hS => ?_)
    obtain ⟨hu, hr1⟩ := hp
    subst hu
    subst hr1
    dsimp only at hZ
    refine zr_if_eq (tgt := 22) hx hb (by have := bZ_01 (decide (0 < ct0 ∧ f0 0 = 45)); omega) dD_start_15 (by decide) (fun c_4 => ?_) (fun c_4 => ?_)
    · have h45 := of_decide_eq_false (bZ_f.mp (by assumption : bZ (decide (0 < ct0 ∧ f0 0 = 45)) = 0))
      have hst : stt ct0 f0 = 0 := by unfold stt; rw [if_neg (by omega)]
      refine lv_iconst (v := iZ (0)) hx hb dD_start_22 (by decide) ?_
      refine zc_i (y := iZ ↑(stt ct0 f0)) (by rw [hst]; rfl) ?_
      exact hend 23 _ (v0, ct0, f0) _ _ _ dD_start_23 (⟨rfl, rfl⟩) hZ hS
    · have hst : stt ct0 f0 = 1 := by unfold stt; rw [if_pos]; first | exact ⟨(of_decide_eq_true (bZ_nf.mp (by assumption : ¬ bZ (decide (0 < ct0 ∧ f0 0 = 45)) = 0))).1, Or.inr (of_decide_eq_true (bZ_nf.mp (by assumption : ¬ bZ (decide (0 < ct0 ∧ f0 0 = 45)) = 0))).2⟩ | exact ⟨(of_decide_eq_true (bZ_nf.mp (by assumption : ¬ bZ (decide (0 < ct0 ∧ f0 0 = 43)) = 0))).1, Or.inl (of_decide_eq_true (bZ_nf.mp (by assumption : ¬ bZ (decide (0 < ct0 ∧ f0 0 = 43)) = 0))).2⟩
      refine lv_iconst (v := iZ (1)) hx hb dD_start_18 (by decide) ?_
      refine lv_goto (tgt := 23) hx hb dD_start_19 (by decide) ?_
      refine zc_i (y := iZ ↑(stt ct0 f0)) (by rw [hst]; rfl) ?_
      exact hend 23 _ (v0, ct0, f0) _ _ _ dD_start_23 (⟨rfl, rfl⟩) hZ hS

set_option maxHeartbeats 4000000 in
set_option maxRecDepth 100000 in
theorem mD_digitOf (l : Launch) (E : zE) (B : Nat) (v0 : Nat → zV) (o : Nat → va_E) (x : Nat) (hx256 : x < 256) :
    Met l yD_digitOf (zws yD_digitOf cD_digitOf 1 (some .int)) { frames := 0, cells := 0, slots := 0, locals := 0 } (zPc E (zD E B v0 o) [.int (iZ (sb x))]) (va_Qi (fun (r : Int32) (v : Nat → zV) => v = v0 ∧ r = iZ ↑(dg x)) (fun v t => zD E B v o t.heap ∧ zK E t) (zA B 80)) 0 0 (zA B 80) := by
  refine zof_i (by decide) (Nat.le_of_ble_eq_true rfl) fun p e R s m args below meth c Q ls hR hx hb hml ht hown hK hZ hl hend => ?_
  have hS : va_S (zA B 80) s.heap s.heap [] := va_S.rf
  have hown : s.vm.findClass "WholeDesk$Draft" = some m.cls := hown
  have hl : lv_has ls 1 [(0, .int (iZ (sb x)))] := hl
  have hb9 := sb_bd hx256
  have he : sb x = if x < 128 then (x : Int) else (x : Int) - 256 := rfl
  refine lv_iload_n hx hb dD_digitOf_0 rfl (lv_at hl 0 rfl) ?_
  refine lv_bipush (v := iZ (48)) hx hb dD_digitOf_1 (by decide) ?_
  refine zr_icmp_lt (tgt := 17) hx hb (by unfold zi; omega) (by unfold zi; omega) dD_digitOf_3 (by decide) (fun c_1 => ?_) (fun c_1 => ?_)
  · refine lv_iload_n hx hb dD_digitOf_17 rfl (lv_at hl 0 rfl) ?_
    refine lv_bipush (v := iZ (97)) hx hb dD_digitOf_18 (by decide) ?_
    refine zr_icmp_lt (tgt := 37) hx hb (by unfold zi; omega) (by unfold zi; omega) dD_digitOf_20 (by decide) (fun c_2 => ?_) (fun c_2 => ?_)
    · refine lv_iload_n hx hb dD_digitOf_37 rfl (lv_at hl 0 rfl) ?_
      refine lv_bipush (v := iZ (65)) hx hb dD_digitOf_38 (by decide) ?_
      refine zr_icmp_lt (tgt := 57) hx hb (by unfold zi; omega) (by unfold zi; omega) dD_digitOf_40 (by decide) (fun c_3 => ?_) (fun c_3 => ?_)
      · refine lv_bipush (v := iZ (99)) hx hb dD_digitOf_57 (by decide) ?_
        refine zc_i (y := iZ ↑(dg x)) (congrArg iZ (by unfold dg; split at he <;> (repeat (first | rw [if_pos (by omega)] | rw [if_neg (by omega)])) <;> omega)) ?_
        exact hend 59 (_) v0 _ _ _ dD_digitOf_59 (⟨rfl, rfl⟩) hZ hS
      · refine lv_iload_n hx hb dD_digitOf_43 rfl (lv_at hl 0 rfl) ?_
        refine lv_bipush (v := iZ (90)) hx hb dD_digitOf_44 (by decide) ?_
        refine zr_icmp_gt (tgt := 57) hx hb (by unfold zi; omega) (by unfold zi; omega) dD_digitOf_46 (by decide) (fun c_4 => ?_) (fun c_4 => ?_)
        · refine lv_bipush (v := iZ (99)) hx hb dD_digitOf_57 (by decide) ?_
          refine zc_i (y := iZ ↑(dg x)) (congrArg iZ (by unfold dg; split at he <;> (repeat (first | rw [if_pos (by omega)] | rw [if_neg (by omega)])) <;> omega)) ?_
          exact hend 59 (_) v0 _ _ _ dD_digitOf_59 (⟨rfl, rfl⟩) hZ hS
        · refine lv_iload_n hx hb dD_digitOf_49 rfl (lv_at hl 0 rfl) ?_
          refine lv_bipush (v := iZ (65)) hx hb dD_digitOf_50 (by decide) ?_
          refine zr_isub hx hb dD_digitOf_52 ?_
          refine lv_bipush (v := iZ (10)) hx hb dD_digitOf_53 (by decide) ?_
          refine zr_iadd hx hb dD_digitOf_55 ?_
          refine zc_i (y := iZ ↑(dg x)) (congrArg iZ (by unfold dg; split at he <;> (repeat (first | rw [if_pos (by omega)] | rw [if_neg (by omega)])) <;> omega)) ?_
          exact hend 56 (_) v0 _ _ _ dD_digitOf_56 (⟨rfl, rfl⟩) hZ hS
    · refine lv_iload_n hx hb dD_digitOf_23 rfl (lv_at hl 0 rfl) ?_
      refine lv_bipush (v := iZ (122)) hx hb dD_digitOf_24 (by decide) ?_
      refine zr_icmp_gt (tgt := 37) hx hb (by unfold zi; omega) (by unfold zi; omega) dD_digitOf_26 (by decide) (fun c_5 => ?_) (fun c_5 => ?_)
      · refine lv_iload_n hx hb dD_digitOf_37 rfl (lv_at hl 0 rfl) ?_
        refine lv_bipush (v := iZ (65)) hx hb dD_digitOf_38 (by decide) ?_
        refine zr_icmp_lt (tgt := 57) hx hb (by unfold zi; omega) (by unfold zi; omega) dD_digitOf_40 (by decide) (fun c_6 => ?_) (fun c_6 => ?_)
        · refine lv_bipush (v := iZ (99)) hx hb dD_digitOf_57 (by decide) ?_
          refine zc_i (y := iZ ↑(dg x)) (congrArg iZ (by unfold dg; split at he <;> (repeat (first | rw [if_pos (by omega)] | rw [if_neg (by omega)])) <;> omega)) ?_
          exact hend 59 (_) v0 _ _ _ dD_digitOf_59 (⟨rfl, rfl⟩) hZ hS
        · refine lv_iload_n hx hb dD_digitOf_43 rfl (lv_at hl 0 rfl) ?_
          refine lv_bipush (v := iZ (90)) hx hb dD_digitOf_44 (by decide) ?_
          refine zr_icmp_gt (tgt := 57) hx hb (by unfold zi; omega) (by unfold zi; omega) dD_digitOf_46 (by decide) (fun c_7 => ?_) (fun c_7 => ?_)
          · refine lv_bipush (v := iZ (99)) hx hb dD_digitOf_57 (by decide) ?_
            refine zc_i (y := iZ ↑(dg x)) (congrArg iZ (by unfold dg; split at he <;> (repeat (first | rw [if_pos (by omega)] | rw [if_neg (by omega)])) <;> omega)) ?_
            exact hend 59 (_) v0 _ _ _ dD_digitOf_59 (⟨rfl, rfl⟩) hZ hS
          · refine lv_iload_n hx hb dD_digitOf_49 rfl (lv_at hl 0 rfl) ?_
            refine lv_bipush (v := iZ (65)) hx hb dD_digitOf_50 (by decide) ?_
            refine zr_isub hx hb dD_digitOf_52 ?_
            refine lv_bipush (v := iZ (10)) hx hb dD_digitOf_53 (by decide) ?_
            refine zr_iadd hx hb dD_digitOf_55 ?_
            refine zc_i (y := iZ ↑(dg x)) (congrArg iZ (by unfold dg; split at he <;> (repeat (first | rw [if_pos (by omega)] | rw [if_neg (by omega)])) <;> omega)) ?_
            exact hend 56 (_) v0 _ _ _ dD_digitOf_56 (⟨rfl, rfl⟩) hZ hS
      · refine lv_iload_n hx hb dD_digitOf_29 rfl (lv_at hl 0 rfl) ?_
        refine lv_bipush (v := iZ (97)) hx hb dD_digitOf_30 (by decide) ?_
        refine zr_isub hx hb dD_digitOf_32 ?_
        refine lv_bipush (v := iZ (10)) hx hb dD_digitOf_33 (by decide) ?_
        refine zr_iadd hx hb dD_digitOf_35 ?_
        refine zc_i (y := iZ ↑(dg x)) (congrArg iZ (by unfold dg; split at he <;> (repeat (first | rw [if_pos (by omega)] | rw [if_neg (by omega)])) <;> omega)) ?_
        exact hend 36 (_) v0 _ _ _ dD_digitOf_36 (⟨rfl, rfl⟩) hZ hS
  · refine lv_iload_n hx hb dD_digitOf_6 rfl (lv_at hl 0 rfl) ?_
    refine lv_bipush (v := iZ (57)) hx hb dD_digitOf_7 (by decide) ?_
    refine zr_icmp_gt (tgt := 17) hx hb (by unfold zi; omega) (by unfold zi; omega) dD_digitOf_9 (by decide) (fun c_8 => ?_) (fun c_8 => ?_)
    · refine lv_iload_n hx hb dD_digitOf_17 rfl (lv_at hl 0 rfl) ?_
      refine lv_bipush (v := iZ (97)) hx hb dD_digitOf_18 (by decide) ?_
      refine zr_icmp_lt (tgt := 37) hx hb (by unfold zi; omega) (by unfold zi; omega) dD_digitOf_20 (by decide) (fun c_9 => ?_) (fun c_9 => ?_)
      · refine lv_iload_n hx hb dD_digitOf_37 rfl (lv_at hl 0 rfl) ?_
        refine lv_bipush (v := iZ (65)) hx hb dD_digitOf_38 (by decide) ?_
        refine zr_icmp_lt (tgt := 57) hx hb (by unfold zi; omega) (by unfold zi; omega) dD_digitOf_40 (by decide) (fun c_10 => ?_) (fun c_10 => ?_)
        · refine lv_bipush (v := iZ (99)) hx hb dD_digitOf_57 (by decide) ?_
          refine zc_i (y := iZ ↑(dg x)) (congrArg iZ (by unfold dg; split at he <;> (repeat (first | rw [if_pos (by omega)] | rw [if_neg (by omega)])) <;> omega)) ?_
          exact hend 59 (_) v0 _ _ _ dD_digitOf_59 (⟨rfl, rfl⟩) hZ hS
        · refine lv_iload_n hx hb dD_digitOf_43 rfl (lv_at hl 0 rfl) ?_
          refine lv_bipush (v := iZ (90)) hx hb dD_digitOf_44 (by decide) ?_
          refine zr_icmp_gt (tgt := 57) hx hb (by unfold zi; omega) (by unfold zi; omega) dD_digitOf_46 (by decide) (fun c_11 => ?_) (fun c_11 => ?_)
          · refine lv_bipush (v := iZ (99)) hx hb dD_digitOf_57 (by decide) ?_
            refine zc_i (y := iZ ↑(dg x)) (congrArg iZ (by unfold dg; split at he <;> (repeat (first | rw [if_pos (by omega)] | rw [if_neg (by omega)])) <;> omega)) ?_
            exact hend 59 (_) v0 _ _ _ dD_digitOf_59 (⟨rfl, rfl⟩) hZ hS
          · refine lv_iload_n hx hb dD_digitOf_49 rfl (lv_at hl 0 rfl) ?_
            refine lv_bipush (v := iZ (65)) hx hb dD_digitOf_50 (by decide) ?_
            refine zr_isub hx hb dD_digitOf_52 ?_
            refine lv_bipush (v := iZ (10)) hx hb dD_digitOf_53 (by decide) ?_
            refine zr_iadd hx hb dD_digitOf_55 ?_
            refine zc_i (y := iZ ↑(dg x)) (congrArg iZ (by unfold dg; split at he <;> (repeat (first | rw [if_pos (by omega)] | rw [if_neg (by omega)])) <;> omega)) ?_
            exact hend 56 (_) v0 _ _ _ dD_digitOf_56 (⟨rfl, rfl⟩) hZ hS
      · refine lv_iload_n hx hb dD_digitOf_23 rfl (lv_at hl 0 rfl) ?_
        refine lv_bipush (v := iZ (122)) hx hb dD_digitOf_24 (by decide) ?_
        refine zr_icmp_gt (tgt := 37) hx hb (by unfold zi; omega) (by unfold zi; omega) dD_digitOf_26 (by decide) (fun c_12 => ?_) (fun c_12 => ?_)
        · refine lv_iload_n hx hb dD_digitOf_37 rfl (lv_at hl 0 rfl) ?_
          refine lv_bipush (v := iZ (65)) hx hb dD_digitOf_38 (by decide) ?_
          refine zr_icmp_lt (tgt := 57) hx hb (by unfold zi; omega) (by unfold zi; omega) dD_digitOf_40 (by decide) (fun c_13 => ?_) (fun c_13 => ?_)
          · refine lv_bipush (v := iZ (99)) hx hb dD_digitOf_57 (by decide) ?_
            refine zc_i (y := iZ ↑(dg x)) (congrArg iZ (by unfold dg; split at he <;> (repeat (first | rw [if_pos (by omega)] | rw [if_neg (by omega)])) <;> omega)) ?_
            exact hend 59 (_) v0 _ _ _ dD_digitOf_59 (⟨rfl, rfl⟩) hZ hS
          · refine lv_iload_n hx hb dD_digitOf_43 rfl (lv_at hl 0 rfl) ?_
            refine lv_bipush (v := iZ (90)) hx hb dD_digitOf_44 (by decide) ?_
            refine zr_icmp_gt (tgt := 57) hx hb (by unfold zi; omega) (by unfold zi; omega) dD_digitOf_46 (by decide) (fun c_14 => ?_) (fun c_14 => ?_)
            · refine lv_bipush (v := iZ (99)) hx hb dD_digitOf_57 (by decide) ?_
              refine zc_i (y := iZ ↑(dg x)) (congrArg iZ (by unfold dg; split at he <;> (repeat (first | rw [if_pos (by omega)] | rw [if_neg (by omega)])) <;> omega)) ?_
              exact hend 59 (_) v0 _ _ _ dD_digitOf_59 (⟨rfl, rfl⟩) hZ hS
            · refine lv_iload_n hx hb dD_digitOf_49 rfl (lv_at hl 0 rfl) ?_
              refine lv_bipush (v := iZ (65)) hx hb dD_digitOf_50 (by decide) ?_
              refine zr_isub hx hb dD_digitOf_52 ?_
              refine lv_bipush (v := iZ (10)) hx hb dD_digitOf_53 (by decide) ?_
              refine zr_iadd hx hb dD_digitOf_55 ?_
              refine zc_i (y := iZ ↑(dg x)) (congrArg iZ (by unfold dg; split at he <;> (repeat (first | rw [if_pos (by omega)] | rw [if_neg (by omega)])) <;> omega)) ?_
              exact hend 56 (_) v0 _ _ _ dD_digitOf_56 (⟨rfl, rfl⟩) hZ hS
        · refine lv_iload_n hx hb dD_digitOf_29 rfl (lv_at hl 0 rfl) ?_
          refine lv_bipush (v := iZ (97)) hx hb dD_digitOf_30 (by decide) ?_
          refine zr_isub hx hb dD_digitOf_32 ?_
          refine lv_bipush (v := iZ (10)) hx hb dD_digitOf_33 (by decide) ?_
          refine zr_iadd hx hb dD_digitOf_35 ?_
          refine zc_i (y := iZ ↑(dg x)) (congrArg iZ (by unfold dg; split at he <;> (repeat (first | rw [if_pos (by omega)] | rw [if_neg (by omega)])) <;> omega)) ?_
          exact hend 36 (_) v0 _ _ _ dD_digitOf_36 (⟨rfl, rfl⟩) hZ hS
    · refine lv_iload_n hx hb dD_digitOf_12 rfl (lv_at hl 0 rfl) ?_
      refine lv_bipush (v := iZ (48)) hx hb dD_digitOf_13 (by decide) ?_
      refine zr_isub hx hb dD_digitOf_15 ?_
      refine zc_i (y := iZ ↑(dg x)) (congrArg iZ (by unfold dg; split at he <;> (repeat (first | rw [if_pos (by omega)] | rw [if_neg (by omega)])) <;> omega)) ?_
      exact hend 16 (_) v0 _ _ _ dD_digitOf_16 (⟨rfl, rfl⟩) hZ hS

set_option maxHeartbeats 4000000 in
set_option maxRecDepth 100000 in
theorem mD_isNumber (l : Launch) (E : zE) (B : Nat) (v0 : Nat → zV) (o : Nat → va_E) (ct0 : Nat) (f0 : Nat → Nat) (hf : ∀ i, f0 i < 256) (hc : ct0 ≤ 2100) (base : Nat) (hbs : base < 100) :
    Met l yD_isNumber (zws yD_isNumber cD_isNumber 3 (some .boolean)) { frames := 2, cells := 0, slots := 0, locals := 62 } (zPc E (zD E B v0 (zd E B o ct0 f0)) [.ref (B + 72), .int (iZ (↑base))]) (va_Qi (fun (r : Int32) (u : (Nat → zV) × Nat × (Nat → Nat)) => u = (v0, ct0, f0) ∧ ∃ b : Bool, r = iZ (bZ b) ∧ (b = true ↔ isnum ct0 f0 base)) (fun (u : (Nat → zV) × Nat × (Nat → Nat)) t => zD E B u.1 (zd E B o u.2.1 u.2.2) t.heap ∧ zK E t) (zA B 80)) 0 0 (zA B 80) := by
  refine zof_z (P' := fun (u : (Nat → zV) × Nat × (Nat → Nat)) H => zD E B u.1 (zd E B o u.2.1 u.2.2) H) (by decide) (Nat.le_of_ble_eq_true rfl) fun p e R s m args below meth c Q ls hR hx hb hml ht hown hK hZ hl hend => ?_
  have hS : va_S (zA B 80) s.heap s.heap [] := va_S.rf
  have hown : s.vm.findClass "WholeDesk$Draft" = some m.cls := hown
  have hl : lv_has ls 3 [(0, .ref (B + 72)), (1, .int (iZ (↑base)))] := hl
  refine lv_aload_n hx hb dD_isNumber_0 rfl (lv_at hl 0 rfl) ?_
  refine zcV_i 0 (As := []) (rest := []) rfl ⟨hx, hb, hml, hown, ht⟩ (mD_start l E B v0 o ct0 f0 hf hc) tw_259 tw_256 tw_258 tp_2 tw_4 qD_start (by rw [hR]; decide) (zd_recv hK hZ) hZ hK hl.1 rfl rfl (Nat.le_of_ble_eq_true rfl) dD_isNumber_1 ⟨Nat.zero_le _, Nat.zero_le _⟩ hS (fun r_1 u H locs hp hZ _ hS => ?_)
  obtain ⟨hu, hr1⟩ := hp
  subst hu
  subst hr1
  dsimp only at hZ
  have hst := stt_le ct0 f0
  refine lv_istore_n (lv' := [(2, .int (iZ (↑(stt ct0 f0)))), (0, .ref (B + 72)), (1, .int (iZ (↑base)))]) hx hb dD_isNumber_4 rfl hl (by decide) rfl (fun ls hl => ?_)
  have L5 : ∀ (fu : Nat) (i : Nat) (H : Heap) (locs : List Loc) (ls : Array Slot), ct0 + 1 - i < fu → (stt ct0 f0 ≤ i) → (i ≤ 2100) → (∀ j, stt ct0 f0 ≤ j → j < i → dg (f0 j) < base) → zD E B v0 (zd E B o ct0 f0) H → va_S (zA B 80) s.heap H locs → lv_has ls 3 [(0, .ref (B + 72)), (1, .int (iZ (↑base))), (2, .int (iZ (↑i)))] → W p l e R s m args below meth c H locs 0 0 Q (F0 m 5 ls []) := by
    intro fu
    induction fu with
    | zero => intro i H locs ls hm; exact absurd hm (Nat.not_lt_zero _)
    | succ fu ihL5 =>
      intro i H locs ls hm hi hi2 hd  hZ hS hl
      refine lv_iload_n hx hb dD_isNumber_5 rfl (lv_at hl 2 rfl) ?_
      refine lv_aload_n hx hb dD_isNumber_6 rfl (lv_at hl 0 rfl) ?_
      refine zd_count hx hb ht hown hK hZ tw_97 dD_isNumber_7 ?_
      refine zr_icmp_ge (tgt := 34) hx hb (by omega) (by omega) dD_isNumber_10 (by decide) (fun c_2 => ?_) (fun c_2 => ?_)
      · refine lv_aload_n hx hb dD_isNumber_34 rfl (lv_at hl 0 rfl) ?_
        refine zd_count hx hb ht hown hK hZ tw_97 dD_isNumber_35 ?_
        refine lv_aload_n hx hb dD_isNumber_38 rfl (lv_at hl 0 rfl) ?_
        refine zcV_i 0 (As := []) (rest := [.int (iZ (↑ct0))]) rfl ⟨hx, hb, hml, hown, ht⟩ (mD_start l E B v0 o ct0 f0 hf hc) tw_259 tw_256 tw_258 tp_2 tw_4 qD_start (by rw [hR]; decide) (zd_recv hK hZ) hZ hK hl.1 rfl rfl (Nat.le_of_ble_eq_true rfl) dD_isNumber_39 ⟨Nat.zero_le _, Nat.zero_le _⟩ hS (fun r_3 u H locs hp hZ _ hS => ?_)
        obtain ⟨hu, hr1⟩ := hp
        subst hu
        subst hr1
        dsimp only at hZ
        refine zr_icmp_le (tgt := 49) hx hb (by unfold zi; omega) (by unfold zi; omega) dD_isNumber_42 (by decide) (fun c_4 => ?_) (fun c_4 => ?_)
        · refine lv_iconst (v := iZ (0)) hx hb dD_isNumber_49 (by decide) ?_
          exact hend 50 (false) (v0, ct0, f0) _ _ _ dD_isNumber_50 (⟨rfl, false, rfl, fun h9 => absurd h9 (by decide), fun h9 => absurd h9.1 (by omega)⟩) hZ hS
        · refine lv_iconst (v := iZ (1)) hx hb dD_isNumber_45 (by decide) ?_
          refine lv_goto (tgt := 50) hx hb dD_isNumber_46 (by decide) ?_
          exact hend 50 (true) (v0, ct0, f0) _ _ _ dD_isNumber_50 (⟨rfl, true, rfl, fun _ => ⟨by omega, fun j h1 h2 => hd j h1 (by omega)⟩, fun _ => rfl⟩) hZ hS
      · refine lv_aload_n hx hb dD_isNumber_13 rfl (lv_at hl 0 rfl) ?_
        refine zd_characters hx hb ht hown hK hZ tw_99 dD_isNumber_14 ?_
        refine lv_iload_n hx hb dD_isNumber_17 rfl (lv_at hl 2 rfl) ?_
        refine zd_ld (i := i) hx hb hK hZ (by omega) dD_isNumber_18 ?_
        refine zcS_i 1 (As := [.int (iZ (sb (f0 i)))]) (rest := []) ⟨hx, hb, hml, hown, ht⟩ (mD_digitOf l E B v0 (zd E B o ct0 f0) (f0 i) (hf _)) tw_266 tw_264 tw_265 tw_4 qD_digitOf (by rw [hR]; decide) hZ hK hl.1 rfl rfl (Nat.le_of_ble_eq_true rfl) dD_isNumber_19 ⟨Nat.zero_le _, Nat.zero_le _⟩ hS (fun r_5 v1 H locs hp hZ _ hS => ?_)
        obtain ⟨hv1, hr1⟩ := hp
        rw [hv1] at hZ
        subst hr1
        clear hv1 v1
        have hdl := dg_le (f0 i)
        refine lv_iload_n hx hb dD_isNumber_22 rfl (lv_at hl 1 rfl) ?_
        refine zr_icmp_lt (tgt := 28) hx hb (by unfold zi; omega) (by unfold zi; omega) dD_isNumber_23 (by decide) (fun c_6 => ?_) (fun c_6 => ?_)
        · refine lv_iinc (v := iZ (↑i + 1)) (lv' := [(2, .int (iZ (↑i + 1))), (0, .ref (B + 72)), (1, .int (iZ (↑base)))]) hx hb dD_isNumber_28 hl (k := 2) rfl (iZ_add _ _) (by decide) rfl (fun ls hl => ?_)
          refine lv_goto (tgt := 5) hx hb dD_isNumber_31 (by decide) ?_
          rw [show (↑i + 1 : Int) = ↑(i + 1) from by omega] at hl
          exact ihL5 (i + 1) _ _ _ (by omega) (by omega) (by omega) (fun j h1 h2 => by rcases Nat.lt_or_ge j i with h9 | h9; exact hd j h1 h9; rw [show j = i by omega]; omega)  hZ hS (lv_sub hl [1, 2, 0] rfl)
        · refine lv_iconst (v := iZ (0)) hx hb dD_isNumber_26 (by decide) ?_
          exact hend 27 (false) (v0, ct0, f0) _ _ _ dD_isNumber_27 (⟨rfl, false, rfl, fun h9 => absurd h9 (by decide), fun h9 => absurd (h9.2 i hi (by omega)) (by omega)⟩) hZ hS
  exact L5 _ (stt ct0 f0) _ _ _ (Nat.lt_succ_self _) (Nat.le_refl _) (by omega) (fun j h1 h2 => absurd h2 (by omega))  hZ hS (lv_sub hl [1, 2, 0] rfl)
