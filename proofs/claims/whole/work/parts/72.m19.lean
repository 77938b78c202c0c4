theorem cmp_le9 (a b : Int) : cmpZ a b ≤ 0 ↔ a ≤ b := by
  show (if a < b then (-1 : Int) else if a = b then 0 else 1) ≤ 0 ↔ a ≤ b
  by_cases h1 : a < b
  · rw [if_pos h1]; omega
  · by_cases h2 : a = b
    · rw [if_neg h1, if_pos h2]; omega
    · rw [if_neg h1, if_neg h2]; omega
theorem fits_bd {O Rv : Nat} (h1 : O < rP 128) (h2 : Rv < rP 129) : O * Rv < rP 264 := by
  refine Nat.lt_of_lt_of_le (Nat.mul_lt_mul'' h1 h2) ?_
  rw [← rP_add]
  exact rP_mono (by decide)
theorem va_back (d : Nat → Nat) (i x : Nat) : va_up (va_up d i x) i (d i) = d := by
  funext j
  by_cases h : j = i
  · rw [h, va_up_self]
  · rw [va_up_ne _ _ h, va_up_ne _ _ h]
set_option maxHeartbeats 4000000 in
set_option maxRecDepth 100000 in
theorem mM_fits (l : Launch) (E : zE) (B : Nat) (w0 : Nat → Nat → Nat) (q0 : zC) (rg : Nat → Int) (ct : Nat) (f : Nat → Nat) (st : Nat) (g : Nat → Nat) (hMR : MR w0 rg) (hdr : ∀ i, i < ct → w0 1 i = f i) (hpa : ∀ i, i < 2049 - st → w0 14 i = g (st + i)) (n Rv Xv : Nat) (hn1 : 1 ≤ n) (hn9 : n ≤ 64) (hR0 : 1 ≤ Rv) (hR129 : Rv < rP 129) (hX128 : Xv < rP 128) (hv_4 : rv (w0 4) 264 = Rv) (hv_9 : rv (w0 9) 264 = Xv) :
    Met l yM_fits (zws yM_fits cM_fits 3 (some .boolean)) { frames := 2, cells := 0, slots := 0, locals := 110 } (zPc E (zMD E B w0 q0) [.ref (B), .int (iZ (↑n))]) (va_Qi (fun (r : Int32) (u : (Nat → Nat → Nat) × zC) => (∀ j, j ≠ 5 → j ≠ 6 → u.1 j = w0 j) ∧ u.2 = q0 ∧ r = iZ (bZ (decide (Rv ^ n ≤ Xv)))) (fun u t => zMD E B u.1 u.2 t.heap ∧ zK E t) (zA B 15)) 0 0 (zA B 15) := by
  obtain ⟨th, fa, le, be, fb, sb9, pr⟩ := q0
  refine zof_z (P' := fun (u : (Nat → Nat → Nat) × zC) H => zMD E B u.1 u.2 H) (by decide) (Nat.le_of_ble_eq_true rfl) fun p e R s m args below meth c Q ls hR hx hb hml ht hown hK hZ hl hend => ?_
  have hS : va_S (zA B 15) s.heap s.heap [] := va_S.rf
  have hown : s.vm.findClass "WholeDeskModel" = some m.cls := hown
  have hl : lv_has ls 3 [(0, .ref (B)), (1, .int (iZ (↑n)))] := hl
  have frx : ∀ jx, jx ≠ 5 → jx ≠ 6 → w0 jx = w0 jx := fun jx _ _ => rfl
  refine lv_aload_n hx hb dM_fits_0 rfl (lv_at hl 0 rfl) ?_
  refine lv_aload_n hx hb dM_fits_1 rfl (lv_at hl 0 rfl) ?_
  refine zm_other hx hb ht hown hK hZ tw_685 dM_fits_2 ?_
  refine zcV_v (P' := fun (u : (Nat → Nat → Nat) × zC) H => zMD E B u.1 u.2 H) 1 (As := [.ref (B + 5)]) (rest := []) rfl ⟨hx, hb, hml, hown, ht⟩ (mM_setOne l E B w0 (th, fa, le, be, fb, sb9, pr) 5 (by decide) rfl) tw_844 tw_841 tw_843 tp_20 tw_6 qM_setOne (by rw [hR]; decide) (zm_recv hK hZ) hZ hK hl.1 rfl rfl (Nat.le_of_ble_eq_true rfl) dM_fits_5 ⟨Nat.zero_le _, Nat.zero_le _⟩ hS (fun u H locs hp hZ _ hS => ?_)
  obtain ⟨w, q9⟩ := u
  obtain ⟨ho, hq9, hso⟩ := hp
  dsimp only at *
  rw [hq9] at hZ
  replace hMR : MR w rg := MR_same (ho 2 (by decide)) (ho 3 (by decide)) hMR
  replace hdr : ∀ i, i < ct → w 1 i = f i := fun i hi => by rw [ho 1 (by decide)]; exact hdr i hi
  replace hpa : ∀ i, i < 2049 - st → w 14 i = g (st + i) := fun i hi => by rw [ho 14 (by decide)]; exact hpa i hi
  replace hv_4 : rv (w 4) 264 = Rv := by rw [ho 4 (by decide)]; exact hv_4
  replace hv_9 : rv (w 9) 264 = Xv := by rw [ho 9 (by decide)]; exact hv_9
  have frx : ∀ jx, jx ≠ 5 → jx ≠ 6 → w jx = w0 jx := fun jx h0 h1 => (ho jx h0).trans (frx jx h0 h1)
  have hv_5 : rv (w 5) 264 = 1 := hso
  clear hso
  refine lv_iconst (v := iZ (0)) hx hb dM_fits_8 (by decide) ?_
  refine lv_istore_n (lv' := [(2, .int (iZ (0))), (0, .ref (B)), (1, .int (iZ (↑n)))]) hx hb dM_fits_9 rfl hl (by decide) rfl (fun ls hl => ?_)
  have L10 : ∀ (fu : Nat) (j : Nat) (O : Nat) (w : Nat → Nat → Nat) (H : Heap) (locs : List Loc) (ls : Array Slot), n - j < fu → (j ≤ n) → (O = Rv ^ j) → (j ≠ 0 → O ≤ Xv) → (O < rP 128) → (∀ jx, jx ≠ 5 → jx ≠ 6 → w jx = w0 jx) → (MR w rg) → (∀ i, i < ct → w 1 i = f i) → (∀ i, i < 2049 - st → w 14 i = g (st + i)) → (rv (w 4) 264 = Rv) → (rv (w 9) 264 = Xv) → (rv (w 5) 264 = O) → zMD E B w (th, fa, le, be, fb, sb9, pr) H → va_S (zA B 15) s.heap H locs → lv_has ls 3 [(0, .ref (B)), (1, .int (iZ (↑n))), (2, .int (iZ (↑j)))] → W p l e R s m args below meth c H locs 0 0 Q (F0 m 10 ls []) := by
    intro fu
    induction fu with
    | zero => intro j O w H locs ls hm; exact absurd hm (Nat.not_lt_zero _)
    | succ fu ihL10 =>
      intro j O w H locs ls hm hj hO hOX hO128 frx hMR hdr hpa hv_4 hv_9 hv_5 hZ hS hl
      refine lv_iload_n hx hb dM_fits_10 rfl (lv_at hl 2 rfl) ?_
      refine lv_iload_n hx hb dM_fits_11 rfl (lv_at hl 1 rfl) ?_
      refine zr_icmp_ge (tgt := 53) hx hb (by unfold zi; omega) (by unfold zi; omega) dM_fits_12 (by decide) (fun c_1 => ?_) (fun c_1 => ?_)
      · have hjn : j = n := by omega
        have hT : Rv ^ n ≤ Xv := by rw [← hjn, ← hO]; exact hOX (by omega)
        refine lv_iconst (v := iZ (1)) hx hb dM_fits_53 (by decide) ?_
        exact hend 54 (true) (w, (th, fa, le, be, fb, sb9, pr)) _ _ _ dM_fits_54 (⟨frx, rfl, by rw [decide_eq_true hT]⟩) hZ hS
      · have hbd := fits_bd hO128 hR129
        refine lv_aload_n hx hb dM_fits_15 rfl (lv_at hl 0 rfl) ?_
        refine lv_aload_n hx hb dM_fits_16 rfl (lv_at hl 0 rfl) ?_
        refine zm_other hx hb ht hown hK hZ tw_685 dM_fits_17 ?_
        refine lv_aload_n hx hb dM_fits_20 rfl (lv_at hl 0 rfl) ?_
        refine zm_row hx hb ht hown hK hZ tw_683 dM_fits_21 ?_
        refine lv_aload_n hx hb dM_fits_24 rfl (lv_at hl 0 rfl) ?_
        refine zm_other hx hb ht hown hK hZ tw_685 dM_fits_25 ?_
        refine zcV_v (P' := fun (u : (Nat → Nat → Nat) × zC) H => zMD E B u.1 u.2 H) 3 (As := [.ref (B + 5), .ref (B + 4), .ref (B + 5)]) (rest := []) rfl ⟨hx, hb, hml, hown, ht⟩ (mM_multiplyRows l E B w (th, fa, le, be, fb, sb9, pr) 5 (by decide) 4 (by decide) 5 (by decide) rfl rfl rfl (by decide) (by decide) (by decide)) tw_812 tw_809 tw_811 tp_15 tw_6 qM_multiplyRows (by rw [hR]; decide) (zm_recv hK hZ) hZ hK hl.1 rfl rfl (Nat.le_of_ble_eq_true rfl) dM_fits_28 ⟨Nat.zero_le _, Nat.zero_le _⟩ hS (fun u H locs hp hZ _ hS => ?_)
        obtain ⟨w, q9⟩ := u
        obtain ⟨ho, hq9, hmv⟩ := hp
        dsimp only at *
        rw [hq9] at hZ
        rw [hv_5, hv_4] at hmv
        replace hMR : MR w rg := MR_same (ho 2 (by decide) (by decide)) (ho 3 (by decide) (by decide)) hMR
        replace hdr : ∀ i, i < ct → w 1 i = f i := fun i hi => by rw [ho 1 (by decide) (by decide)]; exact hdr i hi
        replace hpa : ∀ i, i < 2049 - st → w 14 i = g (st + i) := fun i hi => by rw [ho 14 (by decide) (by decide)]; exact hpa i hi
        replace hv_4 : rv (w 4) 264 = Rv := by rw [ho 4 (by decide) (by decide)]; exact hv_4
        replace hv_9 : rv (w 9) 264 = Xv := by rw [ho 9 (by decide) (by decide)]; exact hv_9
        clear hv_5
        have frx : ∀ jx, jx ≠ 5 → jx ≠ 6 → w jx = w0 jx := fun jx h0 h1 => (ho jx h1 h0).trans (frx jx h0 h1)
        have hv_5 : rv (w 5) 264 = O * Rv := by rw [hmv]; exact Nat.mod_eq_of_lt hbd
        refine lv_aload_n hx hb dM_fits_31 rfl (lv_at hl 0 rfl) ?_
        refine zm_other hx hb ht hown hK hZ tw_685 dM_fits_32 ?_
        refine lv_aload_n hx hb dM_fits_35 rfl (lv_at hl 0 rfl) ?_
        refine zm_one hx hb ht hown hK hZ tw_689 dM_fits_36 ?_
        refine zcS_i (P' := fun (u : (Nat → Nat → Nat) × zC) H => zMD E B u.1 u.2 H) 2 (As := [.ref (B + 5), .ref (B + 9)]) (rest := []) ⟨hx, hb, hml, hown, ht⟩ (mM_compareRows l E B w (th, fa, le, be, fb, sb9, pr) 5 (by decide) 9 (by decide) rfl rfl) tw_804 tw_802 tw_803 tw_6 qM_compareRows (by rw [hR]; decide) hZ hK hl.1 rfl rfl (Nat.le_of_ble_eq_true rfl) dM_fits_39 ⟨Nat.zero_le _, Nat.zero_le _⟩ hS (fun r9 u H locs hp hZ _ hS => ?_)
        obtain ⟨hu9, hr1⟩ := hp
        subst hr1
        rw [hu9] at hZ
        dsimp only at hZ
        clear hu9
        rw [hv_5, hv_9]
        refine zr_if_le (tgt := 47) hx hb (cmp_zi _ _) dM_fits_42 (by decide) (fun c_2 => ?_) (fun c_2 => ?_)
        · have hle : O * Rv ≤ Xv := by have h9 := (cmp_le9 _ _).mp (by assumption : cmpZ (((O * Rv) : Nat) : Int) ((Xv : Nat) : Int) ≤ 0); omega
          refine lv_iinc (v := iZ (↑j + 1)) (lv' := [(2, .int (iZ (↑j + 1))), (0, .ref (B)), (1, .int (iZ (↑n)))]) hx hb dM_fits_47 hl (k := 2) rfl (iZ_add _ _) (by decide) rfl (fun ls hl => ?_)
          refine lv_goto (tgt := 10) hx hb dM_fits_50 (by decide) ?_
          rw [show (↑j + 1 : Int) = ↑(j + 1) from by omega] at hl
          exact ihL10 (j + 1) (O * Rv) w _ _ _ (by omega) (by omega) (by rw [hO, Nat.pow_succ]) (fun _ => hle) (Nat.lt_of_le_of_lt hle hX128) (frx) hMR hdr hpa hv_4 hv_9 hv_5 hZ hS (lv_sub hl [1, 2, 0] rfl)
        · have hgt : Xv < O * Rv := by have h9 : ¬ (((O * Rv : Nat) : Int) ≤ ((Xv : Nat) : Int)) := fun h8 => absurd ((cmp_le9 _ _).mpr h8) (Int.not_le.mpr (by assumption)); omega
          have hF : ¬ Rv ^ n ≤ Xv := fun h9 => by have h8 := Nat.pow_le_pow_right hR0 (show j + 1 ≤ n by omega); rw [Nat.pow_succ, ← hO] at h8; omega
          refine lv_iconst (v := iZ (0)) hx hb dM_fits_45 (by decide) ?_
          exact hend 46 (false) (w, (th, fa, le, be, fb, sb9, pr)) _ _ _ dM_fits_46 (⟨frx, rfl, by rw [decide_eq_false hF]⟩) hZ hS
  exact L10 _ 0 1 w _ _ _ (Nat.lt_succ_self _) (Nat.zero_le _) (rfl) (fun h9 => absurd rfl h9) (by rw [rP_two]; exact Nat.one_lt_two_pow (by decide)) (frx) hMR hdr hpa hv_4 hv_9 hv_5 hZ hS (lv_sub hl [1, 2, 0] rfl)

set_option maxHeartbeats 4000000 in
set_option maxRecDepth 100000 in
theorem mM_root (l : Launch) (E : zE) (B : Nat) (rg : Nat → Int) (ct : Nat) (f : Nat → Nat) (st : Nat) (g : Nat → Nat) (t0 : Nat) (a : Int) (hz_a : zi a) (n : Int) (hz_n : zi n) (to : Int) (hz_to : zi to) (k : Nat) (σ1 : zS) (hok1 : okS σ1) (hsp : SP (rok a ∧ rok to ∧ 1 ≤ n ∧ n ≤ 64) (False) (rg a.toNat < 0) (fun τ => 0 ≤ rg a.toNat ∧ ∃ r : Nat, r ^ n.toNat ≤ (rg a.toNat).natAbs ∧ (rg a.toNat).natAbs < (r + 1) ^ n.toNat ∧ τ = (va_up rg to.toNat (((r : Nat) : Int)), ct, f, st, g)) (rg, ct, f, st, g) k σ1) :
    Met l yM_root (zws yM_root cM_root 5 none) { frames := 3, cells := 0, slots := 0, locals := 140 } (zPc E (zQM E B (rg, ct, f, st, g) t0) [.ref (B), .int (iZ (a)), .int (iZ (n)), .int (iZ (to))]) (va_Qv (fun (u : Unit) => True) (fun u t => zQM E B σ1 (tc k) t.heap ∧ zK E t) (zA B 15)) 0 0 (zA B 15) := by
  refine zof_v (P' := fun (u : Unit) H => zQM E B σ1 (tc k) H) (by decide) (Nat.le_of_ble_eq_true rfl) fun p e R s m args below meth c Q ls hR hx hb hml ht hown hK hZ hl hend => ?_
  have hS : va_S (zA B 15) s.heap s.heap [] := va_S.rf
  have hown : s.vm.findClass "WholeDeskModel" = some m.cls := hown
  have hl : lv_has ls 5 [(0, .ref (B)), (1, .int (iZ (a))), (2, .int (iZ (n))), (3, .int (iZ (to)))] := hl
  obtain ⟨hok, w0, ⟨th, fa, le, be, fb, sb9, pr⟩, hZ, ⟨hMR, hle, hdr, hpr, hpa⟩, hth⟩ := hZ
  dsimp only at *
  rw [hle, hpr] at hZ
  clear hth hle hpr le pr
  refine lv_aload_n hx hb dM_root_0 rfl (lv_at hl 0 rfl) ?_
  refine lv_iload_n hx hb dM_root_1 rfl (lv_at hl 1 rfl) ?_
  refine zcS_i (P' := fun (u : (Nat → Nat → Nat) × zC) H => zMD E B u.1 u.2 H) 1 (As := [.int (iZ (a))]) (rest := [.ref (B)]) ⟨hx, hb, hml, hown, ht⟩ (mM_no l E B w0 (th, fa, ct, be, fb, sb9, (2049 - st)) (a) hz_a) tw_762 tw_760 tw_761 tw_6 qM_no (by rw [hR]; decide) hZ hK hl.1 rfl rfl (Nat.le_of_ble_eq_true rfl) dM_root_2 ⟨Nat.zero_le _, Nat.zero_le _⟩ hS (fun r9 u H locs hp hZ _ hS => ?_)
  obtain ⟨hu9, ba, hr1, hba⟩ := hp
  subst hr1
  rw [hu9] at hZ
  dsimp only at hZ
  clear hu9
  refine zr_if_ne (tgt := 26) hx hb (by have := bZ_01 ba; omega) dM_root_5 (by decide) (fun c_1 => ?_) (fun c_1 => ?_)
  · have hng : ¬ rok a := hba.mp (bZ_nf.mp (by assumption))
    refine lv_iconst (v := iZ (1)) hx hb dM_root_26 (by decide) ?_
    refine lv_goto (tgt := 44) hx hb dM_root_27 (by decide) ?_
    refine W.eq (g2 := F0 m 44 ls ([.int (iZ ((1 : Nat) : Int)), .ref B])) rfl ?_
    refine zm_put_thrown (x := 1) hx hb ht hown hK hZ hS tw_677 dM_root_44 (fun H locs hZ hS => ?_)
    have hZ : zMD E B w0 (1, fa, ct, be, fb, sb9, (2049 - st)) H := hZ
    refine lv_aload_n hx hb dM_root_47 rfl (lv_at hl 0 rfl) ?_
    refine zm_thrown hx hb ht hown hK hZ tw_677 dM_root_48 ?_
    refine zc_i (y := iZ (((1 : Nat) : Int))) rfl ?_
    refine zr_if_le (tgt := 55) hx hb (by decide) dM_root_51 (by decide) (fun c_2 => ?_) (fun c_2 => ?_)
    · exact absurd c_2 (by decide)
    · exact hend 54 () _ _ _ dM_root_54 trivial (by obtain ⟨hk, hs⟩ := SP_1 hsp (fun h9 => hng (by first | exact h9 | exact h9.1 | exact h9.2.1 | exact h9.2.2.1 | exact h9.2.2.2.1 | exact h9.2.2.2 | exact h9.2.2 | exact h9.2)); subst hk; subst hs; exact ⟨hok1, w0, (1, fa, ct, be, fb, sb9, (2049 - st)), hZ, ⟨hMR, rfl, hdr, rfl, hpa⟩, rfl⟩) hS
  · have hk_na : rok a := Classical.byContradiction (fun h9 => absurd (hba.mpr h9) (by rw [show ba = false from bZ_f.mp (by assumption)]; decide))
    obtain ⟨na, rfl⟩ : ∃ n9 : Nat, a = (n9 : Int) := ⟨a.toNat, by have := hk_na.1; omega⟩
    have h10_na : na < 10 := by have := hk_na.2; omega
    refine lv_iload_n hx hb dM_root_8 rfl (lv_at hl 3 rfl) ?_
    refine zcS_i (P' := fun (u : (Nat → Nat → Nat) × zC) H => zMD E B u.1 u.2 H) 1 (As := [.int (iZ (to))]) (rest := [.ref (B)]) ⟨hx, hb, hml, hown, ht⟩ (mM_no l E B w0 (th, fa, ct, be, fb, sb9, (2049 - st)) (to) hz_to) tw_762 tw_760 tw_761 tw_6 qM_no (by rw [hR]; decide) hZ hK hl.1 rfl rfl (Nat.le_of_ble_eq_true rfl) dM_root_9 ⟨Nat.zero_le _, Nat.zero_le _⟩ hS (fun r9 u H locs hp hZ _ hS => ?_)
    obtain ⟨hu9, bto, hr1, hbto⟩ := hp
    subst hr1
    rw [hu9] at hZ
    dsimp only at hZ
    clear hu9
    refine zr_if_ne (tgt := 26) hx hb (by have := bZ_01 bto; omega) dM_root_12 (by decide) (fun c_3 => ?_) (fun c_3 => ?_)
    · have hng : ¬ rok to := hbto.mp (bZ_nf.mp (by assumption))
      refine lv_iconst (v := iZ (1)) hx hb dM_root_26 (by decide) ?_
      refine lv_goto (tgt := 44) hx hb dM_root_27 (by decide) ?_
      refine W.eq (g2 := F0 m 44 ls ([.int (iZ ((1 : Nat) : Int)), .ref B])) rfl ?_
      refine zm_put_thrown (x := 1) hx hb ht hown hK hZ hS tw_677 dM_root_44 (fun H locs hZ hS => ?_)
      have hZ : zMD E B w0 (1, fa, ct, be, fb, sb9, (2049 - st)) H := hZ
      refine lv_aload_n hx hb dM_root_47 rfl (lv_at hl 0 rfl) ?_
      refine zm_thrown hx hb ht hown hK hZ tw_677 dM_root_48 ?_
      refine zc_i (y := iZ (((1 : Nat) : Int))) rfl ?_
      refine zr_if_le (tgt := 55) hx hb (by decide) dM_root_51 (by decide) (fun c_4 => ?_) (fun c_4 => ?_)
      · exact absurd c_4 (by decide)
      · exact hend 54 () _ _ _ dM_root_54 trivial (by obtain ⟨hk, hs⟩ := SP_1 hsp (fun h9 => hng (by first | exact h9 | exact h9.1 | exact h9.2.1 | exact h9.2.2.1 | exact h9.2.2.2.1 | exact h9.2.2.2 | exact h9.2.2 | exact h9.2)); subst hk; subst hs; exact ⟨hok1, w0, (1, fa, ct, be, fb, sb9, (2049 - st)), hZ, ⟨hMR, rfl, hdr, rfl, hpa⟩, rfl⟩) hS
    · have hk_nto : rok to := Classical.byContradiction (fun h9 => absurd (hbto.mpr h9) (by rw [show bto = false from bZ_f.mp (by assumption)]; decide))
      obtain ⟨nto, rfl⟩ : ∃ n9 : Nat, to = (n9 : Int) := ⟨to.toNat, by have := hk_nto.1; omega⟩
      have h10_nto : nto < 10 := by have := hk_nto.2; omega
      refine lv_iload_n hx hb dM_root_15 rfl (lv_at hl 2 rfl) ?_
      refine lv_iconst (v := iZ (1)) hx hb dM_root_16 (by decide) ?_
      refine zr_icmp_lt (tgt := 26) hx hb hz_n (by unfold zi; omega) dM_root_17 (by decide) (fun c_5 => ?_) (fun c_5 => ?_)
      · have hng : ¬ (1 ≤ n ∧ n ≤ 64) := by omega
        refine lv_iconst (v := iZ (1)) hx hb dM_root_26 (by decide) ?_
        refine lv_goto (tgt := 44) hx hb dM_root_27 (by decide) ?_
        refine W.eq (g2 := F0 m 44 ls ([.int (iZ ((1 : Nat) : Int)), .ref B])) rfl ?_
        refine zm_put_thrown (x := 1) hx hb ht hown hK hZ hS tw_677 dM_root_44 (fun H locs hZ hS => ?_)
        have hZ : zMD E B w0 (1, fa, ct, be, fb, sb9, (2049 - st)) H := hZ
        refine lv_aload_n hx hb dM_root_47 rfl (lv_at hl 0 rfl) ?_
        refine zm_thrown hx hb ht hown hK hZ tw_677 dM_root_48 ?_
        refine zc_i (y := iZ (((1 : Nat) : Int))) rfl ?_
        refine zr_if_le (tgt := 55) hx hb (by decide) dM_root_51 (by decide) (fun c_6 => ?_) (fun c_6 => ?_)
        · exact absurd c_6 (by decide)
        · exact hend 54 () _ _ _ dM_root_54 trivial (by obtain ⟨hk, hs⟩ := SP_1 hsp (fun h9 => hng (by first | exact h9 | exact h9.1 | exact h9.2.1 | exact h9.2.2.1 | exact h9.2.2.2.1 | exact h9.2.2.2 | exact h9.2.2 | exact h9.2)); subst hk; subst hs; exact ⟨hok1, w0, (1, fa, ct, be, fb, sb9, (2049 - st)), hZ, ⟨hMR, rfl, hdr, rfl, hpa⟩, rfl⟩) hS
      · refine lv_iload_n hx hb dM_root_20 rfl (lv_at hl 2 rfl) ?_
        refine lv_bipush (v := iZ (64)) hx hb dM_root_21 (by decide) ?_
        refine zr_icmp_le (tgt := 30) hx hb hz_n (by unfold zi; omega) dM_root_23 (by decide) (fun c_7 => ?_) (fun c_7 => ?_)
        · have h1n : 1 ≤ n ∧ n ≤ 64 := by omega
          obtain ⟨nn, rfl⟩ : ∃ n9 : Nat, n = (n9 : Int) := ⟨n.toNat, by omega⟩
          refine lv_aload_n hx hb dM_root_30 rfl (lv_at hl 0 rfl) ?_
          refine zm_minus hx hb ht hown hK hZ tw_682 dM_root_31 ?_
          refine lv_iload_n hx hb dM_root_34 rfl (lv_at hl 1 rfl) ?_
          refine zm_ldz (i := na) hx hb hK hZ (by omega) dM_root_35 ?_
          rw [show ((w0 3 na : Nat) : Int) = bZ (decide (rg na < 0)) from by rw [show w0 3 na = bN (decide (rg na < 0)) from (hMR na h10_na).2, bN_Z]]
          refine zr_if_eq (tgt := 43) hx hb (by have := bZ_01 (decide (rg na < 0)); omega) dM_root_36 (by decide) (fun c_8 => ?_) (fun c_8 => ?_)
          · have hsg : ¬ rg na < 0 := of_decide_eq_false (bZ_f.mp (by assumption))
            refine lv_iconst (v := iZ (0)) hx hb dM_root_43 (by decide) ?_
            refine W.eq (g2 := F0 m 44 ls ([.int (iZ ((0 : Nat) : Int)), .ref B])) rfl ?_
            refine zm_put_thrown (x := 0) hx hb ht hown hK hZ hS tw_677 dM_root_44 (fun H locs hZ hS => ?_)
            have hZ : zMD E B w0 (0, fa, ct, be, fb, sb9, (2049 - st)) H := hZ
            refine lv_aload_n hx hb dM_root_47 rfl (lv_at hl 0 rfl) ?_
            refine zm_thrown hx hb ht hown hK hZ tw_677 dM_root_48 ?_
            refine zc_i (y := iZ (((0 : Nat) : Int))) rfl ?_
            refine zr_if_le (tgt := 55) hx hb (by decide) dM_root_51 (by decide) (fun c_9 => ?_) (fun c_9 => ?_)
            · refine lv_aload_n hx hb dM_root_55 rfl (lv_at hl 0 rfl) ?_
              refine lv_iconst (v := iZ (2)) hx hb dM_root_56 (by decide) ?_
              refine W.eq (g2 := F0 m 57 ls ([.int (iZ ((2 : Nat) : Int)), .ref B])) rfl ?_
              refine zm_put_fault (x := 2) hx hb ht hown hK hZ hS tw_678 dM_root_57 (fun H locs hZ hS => ?_)
              have hZ : zMD E B w0 (0, 2, ct, be, fb, sb9, (2049 - st)) H := hZ
              refine lv_aload_n hx hb dM_root_60 rfl (lv_at hl 0 rfl) ?_
              refine lv_iload_n hx hb dM_root_61 rfl (lv_at hl 1 rfl) ?_
              refine lv_aload_n hx hb dM_root_62 rfl (lv_at hl 0 rfl) ?_
              refine zm_one hx hb ht hown hK hZ tw_689 dM_root_63 ?_
              refine zcV_v (P' := fun (u : (Nat → Nat → Nat) × zC) H => zMD E B u.1 u.2 H) 2 (As := [.int (iZ (↑na)), .ref (B + 9)]) (rest := []) rfl ⟨hx, hb, hml, hown, ht⟩ (mM_take l E B w0 (0, 2, ct, be, fb, sb9, (2049 - st)) na h10_na 9 (by decide) 264 rfl (by decide)) tw_791 tw_788 tw_790 tp_13 tw_6 qM_take (by rw [hR]; decide) (zm_recv hK hZ) hZ hK hl.1 rfl rfl (Nat.le_of_ble_eq_true rfl) dM_root_66 ⟨Nat.zero_le _, Nat.zero_le _⟩ hS (fun u H locs hp hZ _ hS => ?_)
              obtain ⟨w, q9⟩ := u
              obtain ⟨ho, hq9, hcp⟩ := hp
              dsimp only at *
              rw [hq9] at hZ
              have htk := take_val hcp (hMR na h10_na).1
              replace hMR : MR w rg := MR_same (ho 2 (by decide)) (ho 3 (by decide)) hMR
              replace hdr : ∀ i, i < ct → w 1 i = f i := fun i hi => by rw [ho 1 (by decide)]; exact hdr i hi
              replace hpa : ∀ i, i < 2049 - st → w 14 i = g (st + i) := fun i hi => by rw [ho 14 (by decide)]; exact hpa i hi
              have hv_9 : rv (w 9) 264 = (rg na).natAbs := htk
              clear htk
              obtain ⟨X, hXv⟩ : ∃ q, q = (rg na).natAbs := ⟨_, rfl⟩
              rw [← hXv] at hv_9
              have hX128 : X < rP 128 := by rw [hXv]; exact rP_big (hok.1 na h10_na)
              refine lv_aload_n hx hb dM_root_69 rfl (lv_at hl 0 rfl) ?_
              refine zm_row hx hb ht hown hK hZ tw_683 dM_root_70 ?_
              refine zcS_v (P' := fun (u : (Nat → Nat → Nat) × zC) H => zMD E B u.1 u.2 H) 1 (As := [.ref (B + 4)]) (rest := []) ⟨hx, hb, hml, hown, ht⟩ (mM_clear l E B w (0, 2, ct, be, fb, sb9, (2049 - st)) 4 (by decide) 264 rfl (by decide)) tw_768 tw_766 tw_767 tw_6 qM_clear (by rw [hR]; decide) hZ hK hl.1 rfl rfl (Nat.le_of_ble_eq_true rfl) dM_root_73 ⟨Nat.zero_le _, Nat.zero_le _⟩ hS (fun u H locs hp hZ _ hS => ?_)
              obtain ⟨w, q9⟩ := u
              obtain ⟨ho, hq9, hcl⟩ := hp
              dsimp only at *
              rw [hq9] at hZ
              replace hMR : MR w rg := MR_same (ho 2 (by decide)) (ho 3 (by decide)) hMR
              replace hdr : ∀ i, i < ct → w 1 i = f i := fun i hi => by rw [ho 1 (by decide)]; exact hdr i hi
              replace hpa : ∀ i, i < 2049 - st → w 14 i = g (st + i) := fun i hi => by rw [ho 14 (by decide)]; exact hpa i hi
              replace hv_9 : rv (w 9) 264 = X := by rw [ho 9 (by decide)]; exact hv_9
              have hv_4 : rv (w 4) 264 = 0 := by rw [rv_drop (m := 0) (Nat.zero_le _) (fun i _ h => hcl i h)]; rfl
              have hcl4 := hcl
              refine lv_bipush (v := iZ (16)) hx hb dM_root_76 (by decide) ?_
              refine lv_aload_n hx hb dM_root_78 rfl (lv_at hl 0 rfl) ?_
              refine zm_one hx hb ht hown hK hZ tw_689 dM_root_79 ?_
              refine zcS_i (P' := fun (u : (Nat → Nat → Nat) × zC) H => zMD E B u.1 u.2 H) 1 (As := [.ref (B + 9)]) (rest := [.int (iZ (16))]) ⟨hx, hb, hml, hown, ht⟩ (mM_size l E B w (0, 2, ct, be, fb, sb9, (2049 - st)) 9 (by decide) 264 rfl (by decide)) tw_774 tw_772 tw_773 tw_6 qM_size (by rw [hR]; decide) hZ hK hl.1 rfl rfl (Nat.le_of_ble_eq_true rfl) dM_root_82 ⟨Nat.zero_le _, Nat.zero_le _⟩ hS (fun r9 u H locs hp hZ _ hS => ?_)
              obtain ⟨hu9, sz, hr1, hsz1, hsz2, hsz3⟩ := hp
              subst hr1
              rw [hu9] at hZ
              dsimp only at hZ
              clear hu9
              have hszz : ∀ q, sz ≤ q ↔ X < rP q := fun q => by rw [← hv_9]; exact size_le (hZ.2 9) hsz1 hsz2 hsz3 q
              have hsz := (hszz 128).mpr hX128
              refine zr_imul hx hb dM_root_85 ?_
              refine lv_iload_n hx hb dM_root_86 rfl (lv_at hl 2 rfl) ?_
              refine zr_idiv hx hb (by unfold zi; omega) (by unfold zi; omega) (by omega) (by omega) dM_root_87 ?_
              obtain ⟨b0, hb0⟩ : ∃ q, q = 16 * sz / nn := ⟨_, rfl⟩
              have hq9 : ((16 * ↑sz) / ↑nn : Int) = ((b0 : Nat) : Int) := by rw [hb0, Int.natCast_ediv, Int.natCast_mul]; rfl
              refine zc_i (y := iZ (((b0 + 1 : Nat) : Int) - 1)) (congrArg iZ (by rw [hq9]; omega)) ?_
              have hb9 : b0 ≤ 2048 := by rw [hb0]; exact Nat.le_trans (Nat.div_le_self _ _) (by omega)
              refine lv_istore (lv' := [(4, .int (iZ (((b0 + 1 : Nat) : Int) - 1))), (0, .ref (B)), (1, .int (iZ (↑na))), (2, .int (iZ (↑nn))), (3, .int (iZ (↑nto)))]) hx hb dM_root_88 hl (by decide) rfl (fun ls hl => ?_)
              have L90 : ∀ (fu : Nat) (q : Nat) (Rv : Nat) (w : Nat → Nat → Nat) (H : Heap) (locs : List Loc) (ls : Array Slot), q < fu → (q ≤ 2049) → (RT X nn Rv q) → (Rv + 2 ^ q ≤ 2 ^ 2049) → (MR w rg) → (∀ i, i < ct → w 1 i = f i) → (∀ i, i < 2049 - st → w 14 i = g (st + i)) → (rv (w 9) 264 = X) → (rv (w 4) 264 = Rv) → zMD E B w (0, 2, ct, be, fb, sb9, (2049 - st)) H → va_S (zA B 15) s.heap H locs → lv_has ls 5 [(0, .ref (B)), (2, .int (iZ (↑nn))), (3, .int (iZ (↑nto))), (4, .int (iZ (↑q - 1)))] → W p l e R s m args below meth c H locs 0 0 Q (F0 m 90 ls []) := by
                intro fu
                induction fu with
                | zero => intro q Rv w H locs ls hm; exact absurd hm (Nat.not_lt_zero _)
                | succ fu ihL90 =>
                  intro q Rv w H locs ls hm hq hRT hsm hMR hdr hpa hv_9 hv_4 hZ hS hl
                  refine lv_iload hx hb dM_root_90 (lv_at hl 3 rfl) ?_
                  refine zr_if_lt (tgt := 167) hx hb (by unfold zi; omega) dM_root_92 (by decide) (fun c_10 => ?_) (fun c_10 => ?_)
                  · have hq0 : q = 0 := by omega
                    rw [hq0] at hRT
                    have hRl : Rv < rP 128 := Nat.lt_of_le_of_lt (RT_le (by omega) hRT) hX128
                    refine lv_aload_n hx hb dM_root_167 rfl (lv_at hl 0 rfl) ?_
                    refine lv_iconst (v := iZ (0)) hx hb dM_root_168 (by decide) ?_
                    refine W.eq (g2 := F0 m 169 ls ([.int (iZ (bZ false)), .ref B])) rfl ?_
                    refine zm_put_below (x := false) hx hb ht hown hK hZ hS tw_684 dM_root_169 (fun H locs hZ hS => ?_)
                    have hZ : zMD E B w (0, 2, ct, false, fb, sb9, (2049 - st)) H := hZ
                    refine lv_aload_n hx hb dM_root_172 rfl (lv_at hl 0 rfl) ?_
                    refine lv_iload_n hx hb dM_root_173 rfl (lv_at hl 2 rfl) ?_
                    refine zcV_v (P' := fun (u : (Nat → Nat → Nat) × zC) H => zMD E B u.1 u.2 H) 1 (As := [.int (iZ (↑nto))]) (rest := []) rfl ⟨hx, hb, hml, hown, ht⟩ (mM_store l E B w (0, 2, ct, false, fb, sb9, (2049 - st)) nto h10_nto rg hMR) tw_779 tw_776 tw_778 tp_12 tw_6 qM_store (by rw [hR]; decide) (zm_recv hK hZ) hZ hK hl.1 rfl rfl (Nat.le_of_ble_eq_true rfl) dM_root_174 ⟨Nat.zero_le _, Nat.zero_le _⟩ hS (fun u H locs hp hZ _ hS => ?_)
                    obtain ⟨w, q9⟩ := u
                    obtain ⟨ho, hbig, hfit⟩ := hp
                    dsimp only at *
                    rw [hv_4] at hbig hfit
                    have hzz : (if false = true then -(((Rv : Nat) : Int)) else ((Rv : Nat) : Int)) = ((Rv : Nat) : Int) := by rw [if_neg (by decide)]
                    have hzX : zX (((Rv : Nat) : Int)) ↔ Rv < rP 128 := by rw [← hzz]; exact zX_if
                    rcases Nat.lt_or_ge (Rv) (rP 128) with hX | hX
                    · obtain ⟨hq9, hMR9⟩ := hfit hX
                      rw [hq9] at hZ
                      rw [hzz] at hMR9
                      have hzx := hzX.mpr hX
                      replace hdr : ∀ i, i < ct → w 1 i = f i := fun i hi => by rw [ho 1 (by decide) (by decide)]; exact hdr i hi
                      replace hpa : ∀ i, i < 2049 - st → w 14 i = g (st + i) := fun i hi => by rw [ho 14 (by decide) (by decide)]; exact hpa i hi
                      replace hv_9 : rv (w 9) 264 = X := by rw [ho 9 (by decide) (by decide)]; exact hv_9
                      replace hv_4 : rv (w 4) 264 = Rv := by rw [ho 4 (by decide) (by decide)]; exact hv_4
                      have hMR : MR w (va_up rg nto (((Rv : Nat) : Int))) := hMR9
                      exact hend 177 () _ _ _ dM_root_177 trivial (by rcases SP_g hsp ⟨hk_na, hk_nto, h1n⟩ with ⟨_, h, _⟩ | ⟨_, h, _⟩ | ⟨hk, _, r8, hr1, hr2, hs⟩; exact h.elim; exact absurd h hsg; have hrr : r8 = Rv := RT_end (X := (rg na).natAbs) (n := nn) (by omega) (by rw [← hXv]; exact hRT) hr1 hr2; subst hk; rw [hrr] at hs; subst hs; exact ⟨hok1, w, (0, 2, ct, false, fb, sb9, (2049 - st)), hZ, ⟨hMR, rfl, hdr, rfl, hpa⟩, rfl⟩) hS
                    · obtain ⟨e1, e2⟩ := Prod.mk.inj (hbig hX)
                      rw [e2] at hZ
                      rw [← e1] at hMR hdr hpa
                      have hzx : ¬ zX (((Rv : Nat) : Int)) := fun h9 => absurd (hzX.mp h9) (Nat.not_lt.mpr hX)
                      have hZ : zMD E B w (2, 2, ct, false, fb, sb9, (2049 - st)) H := hZ
                      exact absurd hRl (Nat.not_lt.mpr hX)
                  · obtain ⟨bq, rfl⟩ : ∃ b, q = b + 1 := ⟨q - 1, by omega⟩
                    rw [show (((bq + 1 : Nat) : Int) - 1) = ((bq : Nat) : Int) from by omega] at hl
                    obtain ⟨D, hD⟩ : ∃ d, d = w 4 := ⟨_, rfl⟩
                    have hRD : rv D 264 = Rv := by rw [hD]; exact hv_4
                    have hdD : ∀ q, D q < 65536 := by rw [hD]; exact hZ.2 4
                    have hbt : (D (bq / 16)).testBit (bq % 16) = false := by rw [← rv_tb hdD (n := 264) (by omega), hRD]; exact RT_bit hRT
                    have hdi := hdD (bq / 16)
                    have hsm2 := hsm
                    rw [Nat.pow_succ] at hsm2
                    have hpw : 0 < 2 ^ bq := Nat.pow_pos (by decide)
                    obtain ⟨Pb, hPb⟩ : ∃ q, q = 2 ^ bq := ⟨_, rfl⟩
                    rw [← hPb] at hsm2 hpw
                    have hT1 : 1 ≤ Rv + Pb := by omega
                    have hT129 : Rv + Pb < rP 129 := by rw [rP_two]; exact Nat.lt_of_lt_of_le (Nat.lt_of_lt_of_le (show Rv + Pb < Rv + Pb * 2 by omega) hsm2) (Nat.pow_le_pow_right (by decide) (by decide))
                    have hp16 : 2 ^ (bq % 16) ≤ 2 ^ 15 := Nat.pow_le_pow_right (by decide) (by omega)
                    refine lv_aload_n hx hb dM_root_95 rfl (lv_at hl 0 rfl) ?_
                    refine zm_row hx hb ht hown hK hZ tw_683 dM_root_96 ?_
                    refine lv_iload hx hb dM_root_99 (lv_at hl 3 rfl) ?_
                    refine lv_bipush (v := iZ (16)) hx hb dM_root_101 (by decide) ?_
                    refine zr_idiv hx hb (by unfold zi; omega) (by unfold zi; omega) (by omega) (by omega) dM_root_103 ?_
                    refine lv_aload_n hx hb dM_root_104 rfl (lv_at hl 0 rfl) ?_
                    refine zm_row hx hb ht hown hK hZ tw_683 dM_root_105 ?_
                    refine lv_iload hx hb dM_root_108 (lv_at hl 3 rfl) ?_
                    refine lv_bipush (v := iZ (16)) hx hb dM_root_110 (by decide) ?_
                    refine zr_idiv hx hb (by unfold zi; omega) (by unfold zi; omega) (by omega) (by omega) dM_root_112 ?_
                    rw [show (((bq : Nat) : Int) / 16 : Int) = ((bq / 16 : Nat) : Int) by omega]
                    refine zm_ld (k := 4) (i := bq / 16) hx hb hK hZ (by decide) (by show bq / 16 < 264; omega) dM_root_113 ?_
                    rw [← hD]
                    refine lv_iconst (v := iZ (1)) hx hb dM_root_114 (by decide) ?_
                    refine lv_iload hx hb dM_root_115 (lv_at hl 3 rfl) ?_
                    refine lv_bipush (v := iZ (16)) hx hb dM_root_117 (by decide) ?_
                    refine zr_irem hx hb (by unfold zi; omega) (by unfold zi; omega) (by omega) (by omega) dM_root_119 ?_
                    refine zc_i (y := iZ ((bq % 16 : Nat) : Int)) (congrArg iZ (by omega)) ?_
                    refine W.eq (g2 := F0 m 120 ls (.int (iZ ((bq % 16 : Nat) : Int)) :: .int (iZ ((1 : Nat) : Int)) :: [.int (iZ (((D (bq / 16) : Nat) : Int))), .int (iZ (((bq / 16 : Nat) : Int))), .ref (B + 4)])) rfl ?_
                    refine zr_ishl hx hb (Nat.lt_of_le_of_lt (Nat.mul_le_mul (Nat.le_refl 1) hp16) (by decide)) (by omega) dM_root_120 ?_
                    rw [Nat.one_mul]
                    refine zr_iorN hx hb dM_root_121 ?_
                    rw [or_bit hbt]
                    rw [show (((D (bq / 16) + 2 ^ (bq % 16) : Nat) : Int) : Int) = ((D (bq / 16) + 2 ^ (bq % 16) : Nat) : Int) from rfl]
                    refine zm_st (k := 4) (i := bq / 16) (x := D (bq / 16) + 2 ^ (bq % 16)) hx hb hK hZ hS (by decide) (by show bq / 16 < 264; omega) (bit_lt hbt hdi (by omega)) dM_root_122 (fun H locs hZ hS => ?_)
                    obtain ⟨w9, hw9⟩ : ∃ q, q = mup w 4 (bq / 16) (D (bq / 16) + 2 ^ (bq % 16)) := ⟨_, rfl⟩
                    rw [← hw9] at hZ
                    have ho : ∀ j, j ≠ 4 → w9 j = w j := fun j hj => by rw [hw9, mup_ne _ _ _ hj]
                    have hwk : w9 4 = va_up (w 4) (bq / 16) (D (bq / 16) + 2 ^ (bq % 16)) := by rw [hw9, mup_at]
                    clear hw9
                    obtain ⟨w, hww⟩ : ∃ q, q = w9 := ⟨_, rfl⟩
                    rw [← hww] at hZ ho hwk
                    clear hww
                    replace hMR : MR w rg := MR_same (ho 2 (by decide)) (ho 3 (by decide)) hMR
                    replace hdr : ∀ i, i < ct → w 1 i = f i := fun i hi => by rw [ho 1 (by decide)]; exact hdr i hi
                    replace hpa : ∀ i, i < 2049 - st → w 14 i = g (st + i) := fun i hi => by rw [ho 14 (by decide)]; exact hpa i hi
                    replace hv_9 : rv (w 9) 264 = X := by rw [ho 9 (by decide)]; exact hv_9
                    clear hv_4
                    have hwk1 : w 4 = va_up D (bq / 16) (D (bq / 16) + 2 ^ (bq % 16)) := by rw [hwk, hD]
                    have hv_4 : rv (w 4) 264 = Rv + Pb := by have h9 := rv_bit (d := D) (a := bq) (x := 1) (n := 264) (by omega); rw [Nat.one_mul, Nat.one_mul, hRD, ← hPb] at h9; rw [hwk1]; exact h9
                    refine lv_aload_n hx hb dM_root_123 rfl (lv_at hl 0 rfl) ?_
                    refine lv_iload_n hx hb dM_root_124 rfl (lv_at hl 1 rfl) ?_
                    refine zcV_i (P' := fun (u : (Nat → Nat → Nat) × zC) H => zMD E B u.1 u.2 H) 1 (As := [.int (iZ (↑nn))]) (rest := []) rfl ⟨hx, hb, hml, hown, ht⟩ (mM_fits l E B w (0, 2, ct, be, fb, sb9, (2049 - st)) rg ct f st g hMR hdr hpa nn (Rv + Pb) (X) (by omega) (by omega) hT1 hT129 hX128 hv_4 hv_9) tw_852 tw_849 tw_851 tp_21 tw_6 qM_fits (by rw [hR]; decide) (zm_recv hK hZ) hZ hK hl.1 rfl rfl (Nat.le_of_ble_eq_true rfl) dM_root_125 ⟨Nat.zero_le _, Nat.zero_le _⟩ hS (fun r9 u H locs hp hZ _ hS => ?_)
                    obtain ⟨w, q9⟩ := u
                    obtain ⟨ho, hq9, hr1⟩ := hp
                    dsimp only at ho hq9 hr1 hZ
                    subst hr1
                    rw [hq9] at hZ
                    replace hMR : MR w rg := MR_same (ho 2 (by decide) (by decide)) (ho 3 (by decide) (by decide)) hMR
                    replace hdr : ∀ i, i < ct → w 1 i = f i := fun i hi => by rw [ho 1 (by decide) (by decide)]; exact hdr i hi
                    replace hpa : ∀ i, i < 2049 - st → w 14 i = g (st + i) := fun i hi => by rw [ho 14 (by decide) (by decide)]; exact hpa i hi
                    replace hv_9 : rv (w 9) 264 = X := by rw [ho 9 (by decide) (by decide)]; exact hv_9
                    replace hv_4 : rv (w 4) 264 = Rv + Pb := by rw [ho 4 (by decide) (by decide)]; exact hv_4
                    have hwk1 : w 4 = va_up D (bq / 16) (D (bq / 16) + 2 ^ (bq % 16)) := by rw [ho 4 (by decide) (by decide)]; exact hwk1
                    refine zr_if_ne (tgt := 161) hx hb (by have := bZ_01 (decide ((Rv + Pb) ^ nn ≤ X)); omega) dM_root_128 (by decide) (fun c_11 => ?_) (fun c_11 => ?_)
                    · have hyF : (Rv + Pb) ^ nn ≤ X := of_decide_eq_true (bZ_nf.mp (by assumption))
                      refine lv_iinc (v := iZ (((bq : Nat) : Int) - 1)) (lv' := [(4, .int (iZ (((bq : Nat) : Int) - 1))), (0, .ref (B)), (2, .int (iZ (↑nn))), (3, .int (iZ (↑nto)))]) hx hb dM_root_161 hl (k := 3) rfl (iZ_dec _ _) (by decide) rfl (fun ls hl => ?_)
                      refine lv_goto (tgt := 90) hx hb dM_root_164 (by decide) ?_
                      exact ihL90 bq (Rv + Pb) w _ _ _ (by omega) (by omega) (by rw [hPb] at hyF ⊢; exact RT_yes hRT hyF) (by rw [← hPb]; exact Nat.le_trans (by omega) hsm2) hMR hdr hpa hv_9 hv_4 hZ hS (lv_sub hl [1, 2, 3, 0] rfl)
                    · have hnF : ¬ (Rv + Pb) ^ nn ≤ X := of_decide_eq_false (bZ_f.mp (by have := bZ_01 (decide ((Rv + Pb) ^ nn ≤ X)); omega))
                      refine lv_aload_n hx hb dM_root_131 rfl (lv_at hl 0 rfl) ?_
                      refine zm_row hx hb ht hown hK hZ tw_683 dM_root_132 ?_
                      refine lv_iload hx hb dM_root_135 (lv_at hl 3 rfl) ?_
                      refine lv_bipush (v := iZ (16)) hx hb dM_root_137 (by decide) ?_
                      refine zr_idiv hx hb (by unfold zi; omega) (by unfold zi; omega) (by omega) (by omega) dM_root_139 ?_
                      refine lv_aload_n hx hb dM_root_140 rfl (lv_at hl 0 rfl) ?_
                      refine zm_row hx hb ht hown hK hZ tw_683 dM_root_141 ?_
                      refine lv_iload hx hb dM_root_144 (lv_at hl 3 rfl) ?_
                      refine lv_bipush (v := iZ (16)) hx hb dM_root_146 (by decide) ?_
                      refine zr_idiv hx hb (by unfold zi; omega) (by unfold zi; omega) (by omega) (by omega) dM_root_148 ?_
                      rw [show (((bq : Nat) : Int) / 16 : Int) = ((bq / 16 : Nat) : Int) by omega]
                      refine zm_ld (k := 4) (i := bq / 16) hx hb hK hZ (by decide) (by show bq / 16 < 264; omega) dM_root_149 ?_
                      rw [hwk1, va_up_self]
                      refine lv_iconst (v := iZ (1)) hx hb dM_root_150 (by decide) ?_
                      refine lv_iload hx hb dM_root_151 (lv_at hl 3 rfl) ?_
                      refine lv_bipush (v := iZ (16)) hx hb dM_root_153 (by decide) ?_
                      refine zr_irem hx hb (by unfold zi; omega) (by unfold zi; omega) (by omega) (by omega) dM_root_155 ?_
                      refine zc_i (y := iZ ((bq % 16 : Nat) : Int)) (congrArg iZ (by omega)) ?_
                      refine W.eq (g2 := F0 m 156 ls (.int (iZ ((bq % 16 : Nat) : Int)) :: .int (iZ ((1 : Nat) : Int)) :: [.int (iZ (((D (bq / 16) + 2 ^ (bq % 16) : Nat) : Int))), .int (iZ (((bq / 16 : Nat) : Int))), .ref (B + 4)])) rfl ?_
                      refine zr_ishl hx hb (Nat.lt_of_le_of_lt (Nat.mul_le_mul (Nat.le_refl 1) hp16) (by decide)) (by omega) dM_root_156 ?_
                      rw [Nat.one_mul]
                      refine lv_iconst (v := iZ (-1)) hx hb dM_root_157 (by decide) ?_
                      refine lv_ixor hx hb dM_root_158 ?_
                      refine lv_iand hx hb dM_root_159 ?_
                      rw [show iZ (-1) = iZ ((4294967295 : Nat) : Int) from iZ_congr (by decide), iZ_xorN, iZ_andN, and_bit hbt hdi (by omega)]
                      rw [show (((D (bq / 16) : Nat) : Int) : Int) = ((D (bq / 16) : Nat) : Int) from rfl]
                      refine zm_st (k := 4) (i := bq / 16) (x := D (bq / 16)) hx hb hK hZ hS (by decide) (by show bq / 16 < 264; omega) (hdi) dM_root_160 (fun H locs hZ hS => ?_)
                      obtain ⟨w9, hw9⟩ : ∃ q, q = mup w 4 (bq / 16) (D (bq / 16)) := ⟨_, rfl⟩
                      rw [← hw9] at hZ
                      have ho : ∀ j, j ≠ 4 → w9 j = w j := fun j hj => by rw [hw9, mup_ne _ _ _ hj]
                      have hwk : w9 4 = va_up (w 4) (bq / 16) (D (bq / 16)) := by rw [hw9, mup_at]
                      clear hw9
                      obtain ⟨w, hww⟩ : ∃ q, q = w9 := ⟨_, rfl⟩
                      rw [← hww] at hZ ho hwk
                      clear hww
                      replace hMR : MR w rg := MR_same (ho 2 (by decide)) (ho 3 (by decide)) hMR
                      replace hdr : ∀ i, i < ct → w 1 i = f i := fun i hi => by rw [ho 1 (by decide)]; exact hdr i hi
                      replace hpa : ∀ i, i < 2049 - st → w 14 i = g (st + i) := fun i hi => by rw [ho 14 (by decide)]; exact hpa i hi
                      replace hv_9 : rv (w 9) 264 = X := by rw [ho 9 (by decide)]; exact hv_9
                      clear hv_4
                      have hv_4 : rv (w 4) 264 = Rv := by rw [hwk, hwk1, va_back]; exact hRD
                      refine lv_iinc (v := iZ (((bq : Nat) : Int) - 1)) (lv' := [(4, .int (iZ (((bq : Nat) : Int) - 1))), (0, .ref (B)), (2, .int (iZ (↑nn))), (3, .int (iZ (↑nto)))]) hx hb dM_root_161 hl (k := 3) rfl (iZ_dec _ _) (by decide) rfl (fun ls hl => ?_)
                      refine lv_goto (tgt := 90) hx hb dM_root_164 (by decide) ?_
                      exact ihL90 bq Rv w _ _ _ (by omega) (by omega) (RT_no hRT (by rw [← hPb]; exact hnF)) (by rw [← hPb]; exact Nat.le_trans (by omega) hsm2) hMR hdr hpa hv_9 hv_4 hZ hS (lv_sub hl [1, 2, 3, 0] rfl)
              exact L90 _ (b0 + 1) 0 w _ _ _ (Nat.lt_succ_self _) (by omega) (RT_0 (by omega) ((hszz sz).mp (Nat.le_refl _)) hb0) (by rw [Nat.zero_add]; exact Nat.pow_le_pow_right (by decide) (by omega)) hMR hdr hpa hv_9 hv_4 hZ hS (lv_sub hl [1, 3, 4, 0] rfl)
            · exact absurd c_9 (by decide)
          · have hsg : rg na < 0 := of_decide_eq_true (bZ_nf.mp (by assumption))
            refine lv_iconst (v := iZ (2)) hx hb dM_root_39 (by decide) ?_
            refine lv_goto (tgt := 44) hx hb dM_root_40 (by decide) ?_
            refine W.eq (g2 := F0 m 44 ls ([.int (iZ ((2 : Nat) : Int)), .ref B])) rfl ?_
            refine zm_put_thrown (x := 2) hx hb ht hown hK hZ hS tw_677 dM_root_44 (fun H locs hZ hS => ?_)
            have hZ : zMD E B w0 (2, fa, ct, be, fb, sb9, (2049 - st)) H := hZ
            refine lv_aload_n hx hb dM_root_47 rfl (lv_at hl 0 rfl) ?_
            refine zm_thrown hx hb ht hown hK hZ tw_677 dM_root_48 ?_
            refine zc_i (y := iZ (((2 : Nat) : Int))) rfl ?_
            refine zr_if_le (tgt := 55) hx hb (by decide) dM_root_51 (by decide) (fun c_12 => ?_) (fun c_12 => ?_)
            · exact absurd c_12 (by decide)
            · exact hend 54 () _ _ _ dM_root_54 trivial (by rcases SP_g hsp ⟨hk_na, hk_nto, h1n⟩ with ⟨_, h, _⟩ | h | ⟨_, h, _⟩; exact h.elim; rotate_left; exact absurd hsg (Int.not_lt.mpr h); obtain ⟨hk, _, hs⟩ := h; subst hk; subst hs; exact ⟨hok1, w0, (2, fa, ct, be, fb, sb9, (2049 - st)), hZ, ⟨hMR, rfl, hdr, rfl, hpa⟩, rfl⟩) hS
        · have hng : ¬ (1 ≤ n ∧ n ≤ 64) := by omega
          refine lv_iconst (v := iZ (1)) hx hb dM_root_26 (by decide) ?_
          refine lv_goto (tgt := 44) hx hb dM_root_27 (by decide) ?_
          refine W.eq (g2 := F0 m 44 ls ([.int (iZ ((1 : Nat) : Int)), .ref B])) rfl ?_
          refine zm_put_thrown (x := 1) hx hb ht hown hK hZ hS tw_677 dM_root_44 (fun H locs hZ hS => ?_)
          have hZ : zMD E B w0 (1, fa, ct, be, fb, sb9, (2049 - st)) H := hZ
          refine lv_aload_n hx hb dM_root_47 rfl (lv_at hl 0 rfl) ?_
          refine zm_thrown hx hb ht hown hK hZ tw_677 dM_root_48 ?_
          refine zc_i (y := iZ (((1 : Nat) : Int))) rfl ?_
          refine zr_if_le (tgt := 55) hx hb (by decide) dM_root_51 (by decide) (fun c_13 => ?_) (fun c_13 => ?_)
          · exact absurd c_13 (by decide)
          · exact hend 54 () _ _ _ dM_root_54 trivial (by obtain ⟨hk, hs⟩ := SP_1 hsp (fun h9 => hng (by first | exact h9 | exact h9.1 | exact h9.2.1 | exact h9.2.2.1 | exact h9.2.2.2.1 | exact h9.2.2.2 | exact h9.2.2 | exact h9.2)); subst hk; subst hs; exact ⟨hok1, w0, (1, fa, ct, be, fb, sb9, (2049 - st)), hZ, ⟨hMR, rfl, hdr, rfl, hpa⟩, rfl⟩) hS
