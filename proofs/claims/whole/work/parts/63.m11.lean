theorem cmp_sgn (x y : Int) : (decide (x < 0) ≠ decide (y < 0) → cmpZ x y = if decide (x < 0) = true then -1 else 1) ∧ (decide (x < 0) = decide (y < 0) → cmpZ x y = if decide (x < 0) = true then -cmpZ ((x.natAbs : Nat) : Int) ((y.natAbs : Nat) : Int) else cmpZ ((x.natAbs : Nat) : Int) ((y.natAbs : Nat) : Int)) := by
  have e : ∀ a b : Int, cmpZ a b = if a < b then -1 else if a = b then 0 else 1 := fun _ _ => rfl
  constructor
  · intro h
    by_cases hx : x < 0
    · have hy : ¬ y < 0 := fun h9 => h (by rw [decide_eq_true hx, decide_eq_true h9])
      rw [if_pos (decide_eq_true hx), e, if_pos (by omega)]
    · have hy : y < 0 := Classical.byContradiction (fun h9 => h (by rw [decide_eq_false hx, decide_eq_false h9]))
      rw [if_neg (by rw [decide_eq_false hx]; decide), e, if_neg (by omega), if_neg (by omega)]
  · intro h
    by_cases hx : x < 0
    · have hy : y < 0 := by rw [decide_eq_true hx] at h; exact of_decide_eq_true h.symm
      rw [if_pos (decide_eq_true hx), e, e]
      by_cases h1 : x < y
      · rw [if_pos h1, if_neg (by omega), if_neg (by omega)]
      · by_cases h2 : x = y
        · rw [if_neg h1, if_pos h2, if_neg (by omega), if_pos (by omega)]; rfl
        · rw [if_neg h1, if_neg h2, if_pos (by omega)]; rfl
    · have hy : ¬ y < 0 := by rw [decide_eq_false hx] at h; exact of_decide_eq_false h.symm
      rw [if_neg (by rw [decide_eq_false hx]; decide), e, e]
      by_cases h1 : x < y
      · rw [if_pos h1, if_pos (by omega)]
      · by_cases h2 : x = y
        · rw [if_neg h1, if_pos h2, if_neg (by omega), if_pos (by omega)]
        · rw [if_neg h1, if_neg h2, if_neg (by omega), if_neg (by omega)]
set_option maxHeartbeats 4000000 in
set_option maxRecDepth 100000 in
theorem mM_compare (l : Launch) (E : zE) (B : Nat) (rg : Nat → Int) (ct : Nat) (f : Nat → Nat) (st : Nat) (g : Nat → Nat) (t0 : Nat) (a : Int) (hz_a : zi a) (b : Int) (hz_b : zi b) (k : Nat) (σ1 : zS) (hok1 : okS σ1) (hsp : SP (rok a ∧ rok b) (False) (False) (fun τ => τ = (rg, ct, f, st, g)) (rg, ct, f, st, g) k σ1) :
    Met l yM_compare (zws yM_compare cM_compare 4 (some .int)) { frames := 2, cells := 0, slots := 0, locals := 80 } (zPc E (zQM E B (rg, ct, f, st, g) t0) [.ref (B), .int (iZ (a)), .int (iZ (b))]) (va_Qi (fun (r : Int32) (u : Unit) => k = 0 → r = iZ (cmpZ (rg a.toNat) (rg b.toNat))) (fun u t => zQM E B σ1 (tc k) t.heap ∧ zK E t) (zA B 15)) 0 0 (zA B 15) := by
  refine zof_i (P' := fun (u : Unit) H => zQM E B σ1 (tc k) H) (by decide) (Nat.le_of_ble_eq_true rfl) fun p e R s m args below meth c Q ls hR hx hb hml ht hown hK hZ hl hend => ?_
  have hS : va_S (zA B 15) s.heap s.heap [] := va_S.rf
  have hown : s.vm.findClass "WholeDeskModel" = some m.cls := hown
  have hl : lv_has ls 4 [(0, .ref (B)), (1, .int (iZ (a))), (2, .int (iZ (b)))] := hl
  obtain ⟨hok, w0, ⟨th, fa, le, be, fb, sb9, pr⟩, hZ, ⟨hMR, hle, hdr, hpr, hpa⟩, hth⟩ := hZ
  dsimp only at *
  rw [hle, hpr] at hZ
  clear hth hle hpr le pr
  refine lv_aload_n hx hb dM_compare_0 rfl (lv_at hl 0 rfl) ?_
  refine lv_iload_n hx hb dM_compare_1 rfl (lv_at hl 1 rfl) ?_
  refine zcS_i (P' := fun (u : (Nat → Nat → Nat) × zC) H => zMD E B u.1 u.2 H) 1 (As := [.int (iZ (a))]) (rest := [.ref (B)]) ⟨hx, hb, hml, hown, ht⟩ (mM_no l E B w0 (th, fa, ct, be, fb, sb9, (2049 - st)) (a) hz_a) tw_762 tw_760 tw_761 tw_6 qM_no (by rw [hR]; decide) hZ hK hl.1 rfl rfl (Nat.le_of_ble_eq_true rfl) dM_compare_2 ⟨Nat.zero_le _, Nat.zero_le _⟩ hS (fun r9 u H locs hp hZ _ hS => ?_)
  obtain ⟨hu9, ba, hr1, hba⟩ := hp
  subst hr1
  rw [hu9] at hZ
  dsimp only at hZ
  clear hu9
  refine zr_if_ne (tgt := 15) hx hb (by have := bZ_01 ba; omega) dM_compare_5 (by decide) (fun c_1 => ?_) (fun c_1 => ?_)
  · have hng : ¬ rok a := hba.mp (bZ_nf.mp (by assumption))
    refine lv_iconst (v := iZ (1)) hx hb dM_compare_15 (by decide) ?_
    refine lv_goto (tgt := 20) hx hb dM_compare_16 (by decide) ?_
    refine W.eq (g2 := F0 m 20 ls ([.int (iZ ((1 : Nat) : Int)), .ref B])) rfl ?_
    refine zm_put_thrown (x := 1) hx hb ht hown hK hZ hS tw_677 dM_compare_20 (fun H locs hZ hS => ?_)
    have hZ : zMD E B w0 (1, fa, ct, be, fb, sb9, (2049 - st)) H := hZ
    refine lv_aload_n hx hb dM_compare_23 rfl (lv_at hl 0 rfl) ?_
    refine zm_thrown hx hb ht hown hK hZ tw_677 dM_compare_24 ?_
    refine zc_i (y := iZ (((1 : Nat) : Int))) rfl ?_
    refine zr_if_le (tgt := 32) hx hb (by decide) dM_compare_27 (by decide) (fun c_2 => ?_) (fun c_2 => ?_)
    · exact absurd c_2 (by decide)
    · refine lv_iconst (v := iZ (0)) hx hb dM_compare_30 (by decide) ?_
      exact hend 31 _ () _ _ _ dM_compare_31 (fun h9 => by obtain ⟨hk, _⟩ := SP_1 hsp (fun h9 => hng (by first | exact h9.1 | exact h9.2)); omega) (by obtain ⟨hk, hs⟩ := SP_1 hsp (fun h9 => hng (by first | exact h9 | exact h9.1 | exact h9.2.1 | exact h9.2.2.1 | exact h9.2.2.2.1 | exact h9.2.2.2 | exact h9.2.2 | exact h9.2)); subst hk; subst hs; exact ⟨hok1, w0, (1, fa, ct, be, fb, sb9, (2049 - st)), hZ, ⟨hMR, rfl, hdr, rfl, hpa⟩, rfl⟩) hS
  · have hk_na : rok a := Classical.byContradiction (fun h9 => absurd (hba.mpr h9) (by rw [show ba = false from bZ_f.mp (by assumption)]; decide))
    obtain ⟨na, rfl⟩ : ∃ n9 : Nat, a = (n9 : Int) := ⟨a.toNat, by have := hk_na.1; omega⟩
    have h10_na : na < 10 := by have := hk_na.2; omega
    refine lv_iload_n hx hb dM_compare_8 rfl (lv_at hl 2 rfl) ?_
    refine zcS_i (P' := fun (u : (Nat → Nat → Nat) × zC) H => zMD E B u.1 u.2 H) 1 (As := [.int (iZ (b))]) (rest := [.ref (B)]) ⟨hx, hb, hml, hown, ht⟩ (mM_no l E B w0 (th, fa, ct, be, fb, sb9, (2049 - st)) (b) hz_b) tw_762 tw_760 tw_761 tw_6 qM_no (by rw [hR]; decide) hZ hK hl.1 rfl rfl (Nat.le_of_ble_eq_true rfl) dM_compare_9 ⟨Nat.zero_le _, Nat.zero_le _⟩ hS (fun r9 u H locs hp hZ _ hS => ?_)
    obtain ⟨hu9, bb, hr1, hbb⟩ := hp
    subst hr1
    rw [hu9] at hZ
    dsimp only at hZ
    clear hu9
    refine zr_if_eq (tgt := 19) hx hb (by have := bZ_01 bb; omega) dM_compare_12 (by decide) (fun c_3 => ?_) (fun c_3 => ?_)
    · have hk_nb : rok b := Classical.byContradiction (fun h9 => absurd (hbb.mpr h9) (by rw [show bb = false from bZ_f.mp (by assumption)]; decide))
      obtain ⟨nb, rfl⟩ : ∃ n9 : Nat, b = (n9 : Int) := ⟨b.toNat, by have := hk_nb.1; omega⟩
      have h10_nb : nb < 10 := by have := hk_nb.2; omega
      refine lv_iconst (v := iZ (0)) hx hb dM_compare_19 (by decide) ?_
      refine W.eq (g2 := F0 m 20 ls ([.int (iZ ((0 : Nat) : Int)), .ref B])) rfl ?_
      refine zm_put_thrown (x := 0) hx hb ht hown hK hZ hS tw_677 dM_compare_20 (fun H locs hZ hS => ?_)
      have hZ : zMD E B w0 (0, fa, ct, be, fb, sb9, (2049 - st)) H := hZ
      refine lv_aload_n hx hb dM_compare_23 rfl (lv_at hl 0 rfl) ?_
      refine zm_thrown hx hb ht hown hK hZ tw_677 dM_compare_24 ?_
      refine zc_i (y := iZ (((0 : Nat) : Int))) rfl ?_
      refine zr_if_le (tgt := 32) hx hb (by decide) dM_compare_27 (by decide) (fun c_4 => ?_) (fun c_4 => ?_)
      · refine lv_aload_n hx hb dM_compare_32 rfl (lv_at hl 0 rfl) ?_
        refine zm_minus hx hb ht hown hK hZ tw_682 dM_compare_33 ?_
        refine lv_iload_n hx hb dM_compare_36 rfl (lv_at hl 1 rfl) ?_
        refine zm_ldz (i := na) hx hb hK hZ (by omega) dM_compare_37 ?_
        rw [show ((w0 3 na : Nat) : Int) = bZ (decide (rg na < 0)) from by rw [show w0 3 na = bN (decide (rg na < 0)) from (hMR na h10_na).2, bN_Z]]
        refine lv_aload_n hx hb dM_compare_38 rfl (lv_at hl 0 rfl) ?_
        refine zm_minus hx hb ht hown hK hZ tw_682 dM_compare_39 ?_
        refine lv_iload_n hx hb dM_compare_42 rfl (lv_at hl 2 rfl) ?_
        refine zm_ldz (i := nb) hx hb hK hZ (by omega) dM_compare_43 ?_
        rw [show ((w0 3 nb : Nat) : Int) = bZ (decide (rg nb < 0)) from by rw [show w0 3 nb = bN (decide (rg nb < 0)) from (hMR nb h10_nb).2, bN_Z]]
        refine zr_icmp_eq (tgt := 62) hx hb (by have := bZ_01 (decide (rg na < 0)); omega) (by have := bZ_01 (decide (rg nb < 0)); omega) dM_compare_44 (by decide) (fun c_5 => ?_) (fun c_5 => ?_)
        · have hcs := (cmp_sgn (rg na) (rg nb)).2 (bZ_eq.mp (by omega))
          refine lv_aload_n hx hb dM_compare_62 rfl (lv_at hl 0 rfl) ?_
          refine lv_iload_n hx hb dM_compare_63 rfl (lv_at hl 1 rfl) ?_
          refine lv_aload_n hx hb dM_compare_64 rfl (lv_at hl 0 rfl) ?_
          refine zm_one hx hb ht hown hK hZ tw_689 dM_compare_65 ?_
          refine zcV_v (P' := fun (u : (Nat → Nat → Nat) × zC) H => zMD E B u.1 u.2 H) 2 (As := [.int (iZ (↑na)), .ref (B + 9)]) (rest := []) rfl ⟨hx, hb, hml, hown, ht⟩ (mM_take l E B w0 (0, fa, ct, be, fb, sb9, (2049 - st)) na h10_na 9 (by decide) 264 rfl (by decide)) tw_791 tw_788 tw_790 tp_13 tw_6 qM_take (by rw [hR]; decide) (zm_recv hK hZ) hZ hK hl.1 rfl rfl (Nat.le_of_ble_eq_true rfl) dM_compare_68 ⟨Nat.zero_le _, Nat.zero_le _⟩ hS (fun u H locs hp hZ _ hS => ?_)
          obtain ⟨w, q9⟩ := u
          obtain ⟨ho, hq9, hcp⟩ := hp
          dsimp only at *
          rw [hq9] at hZ
          have htk := take_val hcp (hMR na h10_na).1
          replace hMR : MR w rg := MR_same (ho 2 (by decide)) (ho 3 (by decide)) hMR
          replace hdr : ∀ i, i < ct → w 1 i = f i := fun i hi => by rw [ho 1 (by decide)]; exact hdr i hi
          replace hpa : ∀ i, i < 2049 - st → w 14 i = g (st + i) := fun i hi => by rw [ho 14 (by decide)]; exact hpa i hi
          have hv_9 : rv (w 9) 264 = (rg na).natAbs := htk
          clear htk
          refine lv_aload_n hx hb dM_compare_71 rfl (lv_at hl 0 rfl) ?_
          refine lv_iload_n hx hb dM_compare_72 rfl (lv_at hl 2 rfl) ?_
          refine lv_aload_n hx hb dM_compare_73 rfl (lv_at hl 0 rfl) ?_
          refine zm_two hx hb ht hown hK hZ tw_690 dM_compare_74 ?_
          refine zcV_v (P' := fun (u : (Nat → Nat → Nat) × zC) H => zMD E B u.1 u.2 H) 2 (As := [.int (iZ (↑nb)), .ref (B + 10)]) (rest := []) rfl ⟨hx, hb, hml, hown, ht⟩ (mM_take l E B w (0, fa, ct, be, fb, sb9, (2049 - st)) nb h10_nb 10 (by decide) 264 rfl (by decide)) tw_791 tw_788 tw_790 tp_13 tw_6 qM_take (by rw [hR]; decide) (zm_recv hK hZ) hZ hK hl.1 rfl rfl (Nat.le_of_ble_eq_true rfl) dM_compare_77 ⟨Nat.zero_le _, Nat.zero_le _⟩ hS (fun u H locs hp hZ _ hS => ?_)
          obtain ⟨w, q9⟩ := u
          obtain ⟨ho, hq9, hcp⟩ := hp
          dsimp only at *
          rw [hq9] at hZ
          have htk := take_val hcp (hMR nb h10_nb).1
          replace hMR : MR w rg := MR_same (ho 2 (by decide)) (ho 3 (by decide)) hMR
          replace hdr : ∀ i, i < ct → w 1 i = f i := fun i hi => by rw [ho 1 (by decide)]; exact hdr i hi
          replace hpa : ∀ i, i < 2049 - st → w 14 i = g (st + i) := fun i hi => by rw [ho 14 (by decide)]; exact hpa i hi
          replace hv_9 : rv (w 9) 264 = (rg na).natAbs := by rw [ho 9 (by decide)]; exact hv_9
          have hv_10 : rv (w 10) 264 = (rg nb).natAbs := htk
          clear htk
          refine lv_aload_n hx hb dM_compare_80 rfl (lv_at hl 0 rfl) ?_
          refine zm_one hx hb ht hown hK hZ tw_689 dM_compare_81 ?_
          refine lv_aload_n hx hb dM_compare_84 rfl (lv_at hl 0 rfl) ?_
          refine zm_two hx hb ht hown hK hZ tw_690 dM_compare_85 ?_
          refine zcS_i (P' := fun (u : (Nat → Nat → Nat) × zC) H => zMD E B u.1 u.2 H) 2 (As := [.ref (B + 9), .ref (B + 10)]) (rest := []) ⟨hx, hb, hml, hown, ht⟩ (mM_compareRows l E B w (0, fa, ct, be, fb, sb9, (2049 - st)) 9 (by decide) 10 (by decide) rfl rfl) tw_804 tw_802 tw_803 tw_6 qM_compareRows (by rw [hR]; decide) hZ hK hl.1 rfl rfl (Nat.le_of_ble_eq_true rfl) dM_compare_88 ⟨Nat.zero_le _, Nat.zero_le _⟩ hS (fun r9 u H locs hp hZ _ hS => ?_)
          obtain ⟨hu9, hr1⟩ := hp
          subst hr1
          rw [hu9] at hZ
          dsimp only at hZ
          clear hu9
          rw [hv_9, hv_10]
          refine lv_istore_n (lv' := [(3, .int (iZ (cmpZ ((((rg na).natAbs) : Nat) : Int) ((((rg nb).natAbs) : Nat) : Int)))), (0, .ref (B)), (1, .int (iZ (↑na))), (2, .int (iZ (↑nb)))]) hx hb dM_compare_91 rfl hl (by decide) rfl (fun ls hl => ?_)
          refine lv_aload_n hx hb dM_compare_92 rfl (lv_at hl 1 rfl) ?_
          refine zm_minus hx hb ht hown hK hZ tw_682 dM_compare_93 ?_
          refine lv_iload_n hx hb dM_compare_96 rfl (lv_at hl 2 rfl) ?_
          refine zm_ldz (i := na) hx hb hK hZ (by omega) dM_compare_97 ?_
          rw [show ((w 3 na : Nat) : Int) = bZ (decide (rg na < 0)) from by rw [show w 3 na = bN (decide (rg na < 0)) from (hMR na h10_na).2, bN_Z]]
          refine zr_if_eq (tgt := 106) hx hb (by have := bZ_01 (decide (rg na < 0)); omega) dM_compare_98 (by decide) (fun c_6 => ?_) (fun c_6 => ?_)
          · refine lv_iload_n hx hb dM_compare_106 rfl (lv_at hl 0 rfl) ?_
            exact hend 107 _ () _ _ _ dM_compare_107 (fun _ => by show _ = iZ (cmpZ (rg na) (rg nb)); rw [hcs, if_neg (by rw [show decide (rg na < 0) = false from bZ_f.mp (by assumption)]; decide)]) (by rcases SP_g hsp ⟨hk_na, hk_nb⟩ with ⟨_, h, _⟩ | ⟨_, h, _⟩ | ⟨hk, hs⟩; exact h.elim; exact h.elim; subst hk; subst hs; exact ⟨hok1, w, (0, fa, ct, be, fb, sb9, (2049 - st)), hZ, ⟨hMR, rfl, hdr, rfl, hpa⟩, rfl⟩) hS
          · refine lv_iload_n hx hb dM_compare_101 rfl (lv_at hl 0 rfl) ?_
            refine zr_ineg hx hb dM_compare_102 ?_
            refine lv_goto (tgt := 107) hx hb dM_compare_103 (by decide) ?_
            exact hend 107 _ () _ _ _ dM_compare_107 (fun _ => by show _ = iZ (cmpZ (rg na) (rg nb)); rw [hcs, if_pos (bZ_nf.mp (by assumption))]) (by rcases SP_g hsp ⟨hk_na, hk_nb⟩ with ⟨_, h, _⟩ | ⟨_, h, _⟩ | ⟨hk, hs⟩; exact h.elim; exact h.elim; subst hk; subst hs; exact ⟨hok1, w, (0, fa, ct, be, fb, sb9, (2049 - st)), hZ, ⟨hMR, rfl, hdr, rfl, hpa⟩, rfl⟩) hS
        · have hcs := (cmp_sgn (rg na) (rg nb)).1 (fun h9 => absurd (bZ_eq.mpr h9) (by omega))
          refine lv_aload_n hx hb dM_compare_47 rfl (lv_at hl 0 rfl) ?_
          refine zm_minus hx hb ht hown hK hZ tw_682 dM_compare_48 ?_
          refine lv_iload_n hx hb dM_compare_51 rfl (lv_at hl 1 rfl) ?_
          refine zm_ldz (i := na) hx hb hK hZ (by omega) dM_compare_52 ?_
          rw [show ((w0 3 na : Nat) : Int) = bZ (decide (rg na < 0)) from by rw [show w0 3 na = bN (decide (rg na < 0)) from (hMR na h10_na).2, bN_Z]]
          refine zr_if_eq (tgt := 60) hx hb (by have := bZ_01 (decide (rg na < 0)); omega) dM_compare_53 (by decide) (fun c_7 => ?_) (fun c_7 => ?_)
          · refine lv_iconst (v := iZ (1)) hx hb dM_compare_60 (by decide) ?_
            exact hend 61 _ () _ _ _ dM_compare_61 (fun _ => by show _ = iZ (cmpZ (rg na) (rg nb)); rw [hcs, if_neg (by rw [show decide (rg na < 0) = false from bZ_f.mp (by assumption)]; decide)]) (by rcases SP_g hsp ⟨hk_na, hk_nb⟩ with ⟨_, h, _⟩ | ⟨_, h, _⟩ | ⟨hk, hs⟩; exact h.elim; exact h.elim; subst hk; subst hs; exact ⟨hok1, w0, (0, fa, ct, be, fb, sb9, (2049 - st)), hZ, ⟨hMR, rfl, hdr, rfl, hpa⟩, rfl⟩) hS
          · refine lv_iconst (v := iZ (-1)) hx hb dM_compare_56 (by decide) ?_
            refine lv_goto (tgt := 61) hx hb dM_compare_57 (by decide) ?_
            exact hend 61 _ () _ _ _ dM_compare_61 (fun _ => by show _ = iZ (cmpZ (rg na) (rg nb)); rw [hcs, if_pos (bZ_nf.mp (by assumption))]) (by rcases SP_g hsp ⟨hk_na, hk_nb⟩ with ⟨_, h, _⟩ | ⟨_, h, _⟩ | ⟨hk, hs⟩; exact h.elim; exact h.elim; subst hk; subst hs; exact ⟨hok1, w0, (0, fa, ct, be, fb, sb9, (2049 - st)), hZ, ⟨hMR, rfl, hdr, rfl, hpa⟩, rfl⟩) hS
      · exact absurd c_4 (by decide)
    · have hng : ¬ rok b := hbb.mp (bZ_nf.mp (by assumption))
      refine lv_iconst (v := iZ (1)) hx hb dM_compare_15 (by decide) ?_
      refine lv_goto (tgt := 20) hx hb dM_compare_16 (by decide) ?_
      refine W.eq (g2 := F0 m 20 ls ([.int (iZ ((1 : Nat) : Int)), .ref B])) rfl ?_
      refine zm_put_thrown (x := 1) hx hb ht hown hK hZ hS tw_677 dM_compare_20 (fun H locs hZ hS => ?_)
      have hZ : zMD E B w0 (1, fa, ct, be, fb, sb9, (2049 - st)) H := hZ
      refine lv_aload_n hx hb dM_compare_23 rfl (lv_at hl 0 rfl) ?_
      refine zm_thrown hx hb ht hown hK hZ tw_677 dM_compare_24 ?_
      refine zc_i (y := iZ (((1 : Nat) : Int))) rfl ?_
      refine zr_if_le (tgt := 32) hx hb (by decide) dM_compare_27 (by decide) (fun c_8 => ?_) (fun c_8 => ?_)
      · exact absurd c_8 (by decide)
      · refine lv_iconst (v := iZ (0)) hx hb dM_compare_30 (by decide) ?_
        exact hend 31 _ () _ _ _ dM_compare_31 (fun h9 => by obtain ⟨hk, _⟩ := SP_1 hsp (fun h9 => hng (by first | exact h9.1 | exact h9.2)); omega) (by obtain ⟨hk, hs⟩ := SP_1 hsp (fun h9 => hng (by first | exact h9 | exact h9.1 | exact h9.2.1 | exact h9.2.2.1 | exact h9.2.2.2.1 | exact h9.2.2.2 | exact h9.2.2 | exact h9.2)); subst hk; subst hs; exact ⟨hok1, w0, (1, fa, ct, be, fb, sb9, (2049 - st)), hZ, ⟨hMR, rfl, hdr, rfl, hpa⟩, rfl⟩) hS

set_option maxHeartbeats 4000000 in
set_option maxRecDepth 100000 in
theorem mM_wipe (l : Launch) (E : zE) (B : Nat) (rg : Nat → Int) (ct : Nat) (f : Nat → Nat) (st : Nat) (g : Nat → Nat) (t0 : Nat)  (k : Nat) (σ1 : zS) (hok1 : okS σ1) (hsp : SP (True) (False) (False) (fun τ => τ = (rg, 0, f, st, g)) (rg, ct, f, st, g) k σ1) :
    Met l yM_wipe (zws yM_wipe cM_wipe 2 (some .int)) { frames := 0, cells := 0, slots := 0, locals := 0 } (zPc E (zQM E B (rg, ct, f, st, g) t0) [.ref (B)]) (va_Qi (fun (r : Int32) (u : Unit) => r = iZ ct) (fun u t => zQM E B σ1 (tc k) t.heap ∧ zK E t) (zA B 15)) 0 0 (zA B 15) := by
  refine zof_i (P' := fun (u : Unit) H => zQM E B σ1 (tc k) H) (by decide) (Nat.le_of_ble_eq_true rfl) fun p e R s m args below meth c Q ls hR hx hb hml ht hown hK hZ hl hend => ?_
  have hS : va_S (zA B 15) s.heap s.heap [] := va_S.rf
  have hown : s.vm.findClass "WholeDeskModel" = some m.cls := hown
  have hl : lv_has ls 2 [(0, .ref (B))] := hl
  obtain ⟨hok, w0, ⟨th, fa, le, be, fb, sb9, pr⟩, hZ, ⟨hMR, hle, hdr, hpr, hpa⟩, hth⟩ := hZ
  dsimp only at *
  rw [hle, hpr] at hZ
  clear hth hle hpr le pr
  refine lv_aload_n hx hb dM_wipe_0 rfl (lv_at hl 0 rfl) ?_
  refine lv_iconst (v := iZ (0)) hx hb dM_wipe_1 (by decide) ?_
  refine W.eq (g2 := F0 m 2 ls ([.int (iZ ((0 : Nat) : Int)), .ref B])) rfl ?_
  refine zm_put_thrown (x := 0) hx hb ht hown hK hZ hS tw_677 dM_wipe_2 (fun H locs hZ hS => ?_)
  have hZ : zMD E B w0 (0, fa, ct, be, fb, sb9, (2049 - st)) H := hZ
  refine lv_aload_n hx hb dM_wipe_5 rfl (lv_at hl 0 rfl) ?_
  refine zm_length hx hb ht hown hK hZ tw_680 dM_wipe_6 ?_
  refine zc_i (y := iZ (↑ct)) rfl ?_
  refine lv_istore_n (lv' := [(1, .int (iZ (↑ct))), (0, .ref (B))]) hx hb dM_wipe_9 rfl hl (by decide) rfl (fun ls hl => ?_)
  refine lv_aload_n hx hb dM_wipe_10 rfl (lv_at hl 1 rfl) ?_
  refine lv_iconst (v := iZ (0)) hx hb dM_wipe_11 (by decide) ?_
  refine W.eq (g2 := F0 m 12 ls ([.int (iZ ((0 : Nat) : Int)), .ref B])) rfl ?_
  refine zm_put_length (x := 0) hx hb ht hown hK hZ hS tw_680 dM_wipe_12 (fun H locs hZ hS => ?_)
  have hZ : zMD E B w0 (0, fa, 0, be, fb, sb9, (2049 - st)) H := hZ
  refine lv_iload_n hx hb dM_wipe_15 rfl (lv_at hl 0 rfl) ?_
  exact hend 16 _ () _ _ _ dM_wipe_16 (rfl) (by rcases SP_g hsp trivial with ⟨_, h, _⟩ | ⟨_, h, _⟩ | ⟨hk, hs⟩; exact h.elim; exact h.elim; subst hk; subst hs; exact ⟨hok1, w0, (0, fa, 0, be, fb, sb9, (2049 - st)), hZ, ⟨hMR, rfl, (fun i hi => absurd hi (Nat.not_lt_zero _)), rfl, hpa⟩, rfl⟩) hS

/-- limb k of x, as if the bits went on without end -/
def tl (x : Int) (k : Nat) : Nat := if x < 0 then 65535 - zu x / rP k % 65536 else zu x / rP k % 65536
theorem tl_lt (x : Int) (k : Nat) : tl x k < 65536 := by unfold tl; split <;> omega
theorem iZ_xorN (a b : Nat) : iZ ((a : Nat) : Int) ^^^ iZ ((b : Nat) : Int) = iZ ((a ^^^ b : Nat) : Int) := by
  rw [← iZ_nI, ← iZ_nI, ← iZ_nI]
  apply Int32.toBitVec_inj.mp
  show BitVec.ofNat 32 a ^^^ BitVec.ofNat 32 b = BitVec.ofNat 32 (a ^^^ b)
  exact BitVec.ofNat_xor.symm
theorem iZ_andN (a b : Nat) : iZ ((a : Nat) : Int) &&& iZ ((b : Nat) : Int) = iZ ((a &&& b : Nat) : Int) := by
  rw [← iZ_nI, ← iZ_nI, ← iZ_nI]
  apply Int32.toBitVec_inj.mp
  show BitVec.ofNat 32 a &&& BitVec.ofNat 32 b = BitVec.ofNat 32 (a &&& b)
  exact BitVec.ofNat_and.symm
theorem iZ_orN (a b : Nat) : iZ ((a : Nat) : Int) ||| iZ ((b : Nat) : Int) = iZ ((a ||| b : Nat) : Int) := by
  rw [← iZ_nI, ← iZ_nI, ← iZ_nI]
  apply Int32.toBitVec_inj.mp
  show BitVec.ofNat 32 a ||| BitVec.ofNat 32 b = BitVec.ofNat 32 (a ||| b)
  exact BitVec.ofNat_or.symm
theorem iZ_congr {a b : Int} (h : a % 4294967296 = b % 4294967296) : iZ a = iZ b := by
  apply Int32.toInt_inj.mp
  show (Int32.ofInt a).toInt = (Int32.ofInt b).toInt
  rw [Int32.toInt_ofInt, Int32.toInt_ofInt]
  unfold Int.bmod
  have e : ((4294967296 : Nat) : Int) = 4294967296 := rfl
  show (if a % ((2 ^ 32 : Nat) : Int) < _ then _ else _) = _
  rw [show ((2 ^ 32 : Nat) : Int) = 4294967296 from rfl, h]
theorem xor_ones {n k : Nat} (h : n < 2 ^ k) : n ^^^ (2 ^ k - 1) = 2 ^ k - (n + 1) := by
  apply Nat.eq_of_testBit_eq
  intro i
  rw [Nat.testBit_xor, Nat.testBit_two_pow_sub_one, Nat.testBit_two_pow_sub_succ h]
  rcases Nat.lt_or_ge i k with h9 | h9
  · rw [decide_eq_true h9]; cases n.testBit i <;> rfl
  · rw [decide_eq_false (by omega), Nat.testBit_lt_two_pow (Nat.lt_of_lt_of_le h (Nat.pow_le_pow_right (by decide) h9))]; rfl
theorem inv16 {y : Int} (h1 : -1 ≤ y) (h2 : y ≤ 65535) : (iZ y ^^^ iZ (-1)) &&& iZ 65535 = iZ (65535 - y % 65536) := by
  obtain ⟨n, hn⟩ : ∃ n : Nat, (n : Int) = y % 4294967296 := ⟨(y % 4294967296).toNat, by omega⟩
  have hn2 : n < 2 ^ 32 := by omega
  rw [show iZ y = iZ ((n : Nat) : Int) from iZ_congr (by omega), show iZ (-1) = iZ ((2 ^ 32 - 1 : Nat) : Int) from iZ_congr (by decide), iZ_xorN, xor_ones hn2, show (65535 : Int) = ((2 ^ 16 - 1 : Nat) : Int) from rfl, iZ_andN, Nat.and_two_pow_sub_one_eq_mod]
  apply congrArg iZ
  omega
theorem limb_neg {x : Int} (hx : x < 0) {k : Nat} : 65535 - ((zu x / rP k % 65536 : Nat) : Int) = 65535 - (if x.natAbs % rP k = 0 then ((x.natAbs / rP k : Nat) : Int) - 1 else ((x.natAbs / rP k : Nat) : Int)) % 65536 := by
  rw [zu_neg hx]
  have hp := rP_pos k
  have h1 := Nat.div_add_mod x.natAbs (rP k)
  have h2 := Nat.mod_lt x.natAbs hp
  have hX : x.natAbs ≠ 0 := by omega
  generalize x.natAbs = X at *
  generalize hr : X % rP k = r at *
  generalize hq : X / rP k = q at *
  generalize rP k = P at *
  by_cases h0 : r = 0
  · rw [if_pos h0]
    have hq0 : q ≠ 0 := by
      intro h9
      rw [h9, Nat.mul_zero] at h1
      omega
    obtain ⟨t, rfl⟩ : ∃ t, q = t + 1 := ⟨q - 1, by omega⟩
    have e : (X - 1) / P = t := by
      have e2 : X - 1 = P * t + (P - 1) := by rw [Nat.mul_succ] at h1; omega
      rw [e2, Nat.mul_add_div hp, Nat.div_eq_of_lt (by omega), Nat.add_zero]
    rw [e]
    omega
  · rw [if_neg h0]
    have e : (X - 1) / P = q := by
      have e2 : X - 1 = P * q + (r - 1) := by omega
      rw [e2, Nat.mul_add_div hp, Nat.div_eq_of_lt (by omega), Nat.add_zero]
    rw [e]
    omega
theorem low_0 {d : Nat → Nat} (hd : ∀ i, d i < 65536) {X j : Nat} (hX : rv d 128 = X) (hj : j ≤ 128) : (∀ i, i < j → d i = 0) ↔ X % rP j = 0 := by
  obtain ⟨r, hr⟩ : ∃ r, 128 = j + r := ⟨128 - j, by omega⟩
  rw [← hX, hr, rv_mod hd]
  constructor
  · intro h
    rw [rv_drop (m := 0) (Nat.zero_le _) (fun i _ hi => h i hi)]
    rfl
  · intro h i hi
    rw [← rv_digit hd hi, h, Nat.zero_div]
set_option maxHeartbeats 4000000 in
set_option maxRecDepth 100000 in
theorem mM_limb (l : Launch) (E : zE) (B : Nat) (w0 : Nat → Nat → Nat) (q0 : zC) (rg : Nat → Int) (ct : Nat) (f : Nat → Nat) (st : Nat) (g : Nat → Nat) (hMR : MR w0 rg) (hdr : ∀ i, i < ct → w0 1 i = f i) (hpa : ∀ i, i < 2049 - st → w0 14 i = g (st + i)) (a : Nat) (h10_a : a < 10) (hXa : zX (rg a)) (kx : Nat) (hkx : kx < 2147483648)  :
    Met l yM_limb (zws yM_limb cM_limb 5 (some .int)) { frames := 0, cells := 0, slots := 0, locals := 0 } (zPc E (zMD E B w0 q0) [.ref (B), .int (iZ (↑a)), .int (iZ (↑kx))]) (va_Qi (fun (r : Int32) (u : (Nat → Nat → Nat) × zC) => (∀ j, j ≠ 0 → u.1 j = w0 j) ∧ u = (w0, q0) ∧ r = iZ ↑(tl (rg a) kx)) (fun u t => zMD E B u.1 u.2 t.heap ∧ zK E t) (zA B 15)) 0 0 (zA B 15) := by
  obtain ⟨th, fa, le, be, fb, sb9, pr⟩ := q0
  refine zof_i (P' := fun (u : (Nat → Nat → Nat) × zC) H => zMD E B u.1 u.2 H) (by decide) (Nat.le_of_ble_eq_true rfl) fun p e R s m args below meth c Q ls hR hx hb hml ht hown hK hZ hl hend => ?_
  have hS : va_S (zA B 15) s.heap s.heap [] := va_S.rf
  have hown : s.vm.findClass "WholeDeskModel" = some m.cls := hown
  have hl : lv_has ls 5 [(0, .ref (B)), (1, .int (iZ (↑a))), (2, .int (iZ (↑kx)))] := hl
  have frx : ∀ jx, jx ≠ 0 → w0 jx = w0 jx := fun jx _ => rfl
  have hMa := (hMR a h10_a).1
  have hX128 := rP_big hXa
  have hdig : ∀ i, w0 2 (128 * a + i) < 65536 := fun i => hZ.2 2 _
  refine lv_aload_n hx hb dM_limb_0 rfl (lv_at hl 0 rfl) ?_
  refine zm_minus hx hb ht hown hK hZ tw_682 dM_limb_1 ?_
  refine lv_iload_n hx hb dM_limb_4 rfl (lv_at hl 1 rfl) ?_
  refine zm_ldz (i := a) hx hb hK hZ (by omega) dM_limb_5 ?_
  rw [show ((w0 3 a : Nat) : Int) = bZ (decide (rg a < 0)) from by rw [show w0 3 a = bN (decide (rg a < 0)) from (hMR a h10_a).2, bN_Z]]
  refine zr_if_ne (tgt := 33) hx hb (by have := bZ_01 (decide (rg a < 0)); omega) dM_limb_6 (by decide) (fun c_1 => ?_) (fun c_1 => ?_)
  · have hx0 : rg a < 0 := of_decide_eq_true (bZ_nf.mp (by assumption))
    refine lv_iconst (v := iZ (1)) hx hb dM_limb_33 (by decide) ?_
    refine lv_istore_n (lv' := [(3, .int (iZ (1))), (0, .ref (B)), (1, .int (iZ (↑a))), (2, .int (iZ (↑kx)))]) hx hb dM_limb_34 rfl hl (by decide) rfl (fun ls hl => ?_)
    refine lv_iconst (v := iZ (0)) hx hb dM_limb_35 (by decide) ?_
    refine lv_istore (lv' := [(4, .int (iZ (0))), (3, .int (iZ (1))), (0, .ref (B)), (1, .int (iZ (↑a))), (2, .int (iZ (↑kx)))]) hx hb dM_limb_36 hl (by decide) rfl (fun ls hl => ?_)
    have L38 : ∀ (fu : Nat) (j : Nat) (bo : Bool) (H : Heap) (locs : List Loc) (ls : Array Slot), 128 - j < fu → (j ≤ 128 ∧ j ≤ kx) → (bo = true ↔ (∀ i, i < j → w0 2 (128 * a + i) = 0)) → zMD E B w0 (th, fa, le, be, fb, sb9, pr) H → va_S (zA B 15) s.heap H locs → lv_has ls 5 [(0, .ref (B)), (1, .int (iZ (↑a))), (2, .int (iZ (↑kx))), (3, .int (iZ (bZ bo))), (4, .int (iZ (↑j)))] → W p l e R s m args below meth c H locs 0 0 Q (F0 m 38 ls []) := by
      intro fu
      induction fu with
      | zero => intro j bo H locs ls hm; exact absurd hm (Nat.not_lt_zero _)
      | succ fu ihL38 =>
        intro j bo H locs ls hm hj hbo hZ hS hl
        refine lv_iload hx hb dM_limb_38 (lv_at hl 4 rfl) ?_
        refine lv_iload_n hx hb dM_limb_40 rfl (lv_at hl 2 rfl) ?_
        refine zr_icmp_ge (tgt := 84) hx hb (by unfold zi; omega) (by unfold zi; omega) dM_limb_41 (by decide) (fun c_2 => ?_) (fun c_2 => ?_)
        · have hlz := low_0 (d := (fun q => w0 2 (128 * a + q))) hdig hMa hj.1
          refine lv_iload_n hx hb dM_limb_84 rfl (lv_at hl 2 rfl) ?_
          refine lv_sipush (v := iZ (128)) hx hb dM_limb_85 (by decide) ?_
          refine zr_icmp_ge (tgt := 106) hx hb (by unfold zi; omega) (by unfold zi; omega) dM_limb_88 (by decide) (fun c_3 => ?_) (fun c_3 => ?_)
          · refine lv_iconst (v := iZ (0)) hx hb dM_limb_106 (by decide) ?_
            have hkk : 128 ≤ kx := by omega
            have hxk : (rg a).natAbs / rP kx = 0 := Nat.div_eq_of_lt (Nat.lt_of_lt_of_le hX128 (rP_mono hkk))
            have hbk : bo = true ↔ (rg a).natAbs % rP kx = 0 := by
              have hj8 : j = 128 := by omega
              rw [hbo]
              show (∀ i, i < j → w0 2 (128 * a + i) = 0) ↔ _
              rw [hlz, hj8, Nat.mod_eq_of_lt hX128, Nat.mod_eq_of_lt (Nat.lt_of_lt_of_le hX128 (rP_mono hkk))]
            refine zc_i (y := iZ (((rg a).natAbs / rP kx % 65536 : Nat) : Int)) (congrArg iZ (by rw [hxk]; rfl)) ?_
            obtain ⟨xk, hxk9⟩ : ∃ q, q = (rg a).natAbs / rP kx := ⟨_, rfl⟩
            rw [← hxk9]
            refine lv_istore (lv' := [(4, .int (iZ (((xk % 65536 : Nat) : Int)))), (0, .ref (B)), (1, .int (iZ (↑a))), (2, .int (iZ (↑kx))), (3, .int (iZ (bZ bo)))]) hx hb dM_limb_107 hl (by decide) rfl (fun ls hl => ?_)
            refine lv_iload_n hx hb dM_limb_109 rfl (lv_at hl 4 rfl) ?_
            refine zr_if_eq (tgt := 120) hx hb (by have := bZ_01 bo; omega) dM_limb_110 (by decide) (fun c_4 => ?_) (fun c_4 => ?_)
            · refine lv_iload hx hb dM_limb_120 (lv_at hl 0 rfl) ?_
              have hif : (if (rg a).natAbs % rP kx = 0 then ((xk : Nat) : Int) - 1 else ((xk : Nat) : Int)) = (xk : Int) := if_neg (fun h9 => absurd (hbk.mpr h9) (by rw [show bo = false from bZ_f.mp (by assumption)]; decide))
              refine lv_iconst (v := iZ (-1)) hx hb dM_limb_122 (by decide) ?_
              refine lv_ixor hx hb dM_limb_123 ?_
              refine lv_ldc (v := iZ 65535) hx hb hown (ht _ tw_877) dM_limb_124 ?_
              refine lv_iand hx hb dM_limb_126 ?_
              rw [inv16 (y := ((xk % 65536 : Nat) : Int)) (by omega) (by omega)]
              refine zc_i (y := iZ ↑(tl (rg a) kx)) (congrArg iZ (by unfold tl; rw [if_pos hx0, Int.natCast_sub (by omega)]; have h9 := limb_neg (k := kx) hx0; rw [← hxk9, hif] at h9; show _ = 65535 - _; rw [h9]; omega)) ?_
              exact hend 127 _ (w0, (th, fa, le, be, fb, sb9, pr)) _ _ _ dM_limb_127 (⟨fun j _ => rfl, rfl, rfl⟩) hZ hS
            · refine lv_iload hx hb dM_limb_113 (lv_at hl 0 rfl) ?_
              refine lv_iconst (v := iZ (1)) hx hb dM_limb_115 (by decide) ?_
              refine zr_isub hx hb dM_limb_116 ?_
              refine lv_goto (tgt := 122) hx hb dM_limb_117 (by decide) ?_
              have hif : (if (rg a).natAbs % rP kx = 0 then ((xk : Nat) : Int) - 1 else ((xk : Nat) : Int)) = (xk : Int) - 1 := if_pos (hbk.mp (bZ_nf.mp (by assumption)))
              refine lv_iconst (v := iZ (-1)) hx hb dM_limb_122 (by decide) ?_
              refine lv_ixor hx hb dM_limb_123 ?_
              refine lv_ldc (v := iZ 65535) hx hb hown (ht _ tw_877) dM_limb_124 ?_
              refine lv_iand hx hb dM_limb_126 ?_
              rw [inv16 (y := ((xk % 65536 : Nat) : Int) - 1) (by omega) (by omega)]
              refine zc_i (y := iZ ↑(tl (rg a) kx)) (congrArg iZ (by unfold tl; rw [if_pos hx0, Int.natCast_sub (by omega)]; have h9 := limb_neg (k := kx) hx0; rw [← hxk9, hif] at h9; show _ = 65535 - _; rw [h9]; omega)) ?_
              exact hend 127 _ (w0, (th, fa, le, be, fb, sb9, pr)) _ _ _ dM_limb_127 (⟨fun j _ => rfl, rfl, rfl⟩) hZ hS
          · refine lv_aload_n hx hb dM_limb_91 rfl (lv_at hl 0 rfl) ?_
            refine zm_kept hx hb ht hown hK hZ tw_681 dM_limb_92 ?_
            refine lv_sipush (v := iZ (128)) hx hb dM_limb_95 (by decide) ?_
            refine lv_iload_n hx hb dM_limb_98 rfl (lv_at hl 1 rfl) ?_
            refine zr_imul hx hb dM_limb_99 ?_
            refine lv_iload_n hx hb dM_limb_100 rfl (lv_at hl 2 rfl) ?_
            refine zr_iadd hx hb dM_limb_101 ?_
            rw [show ((128 * ↑a) + ↑kx : Int) = ((128 * a + kx : Nat) : Int) by omega]
            refine zm_ld (k := 2) (i := 128 * a + kx) hx hb hK hZ (by decide) (by show 128 * a + kx < 1280; omega) dM_limb_102 ?_
            refine lv_goto (tgt := 107) hx hb dM_limb_103 (by decide) ?_
            have hbk : bo = true ↔ (rg a).natAbs % rP kx = 0 := by
              have hj8 : j = kx := by omega
              rw [hbo]
              show (∀ i, i < j → w0 2 (128 * a + i) = 0) ↔ _
              rw [hlz, hj8]
            refine zc_i (y := iZ (((rg a).natAbs / rP kx % 65536 : Nat) : Int)) (congrArg iZ (by rw [← hMa, rv_digit (d := (fun q => w0 2 (128 * a + q))) hdig (by omega)])) ?_
            obtain ⟨xk, hxk9⟩ : ∃ q, q = (rg a).natAbs / rP kx := ⟨_, rfl⟩
            rw [← hxk9]
            refine lv_istore (lv' := [(4, .int (iZ (((xk % 65536 : Nat) : Int)))), (0, .ref (B)), (1, .int (iZ (↑a))), (2, .int (iZ (↑kx))), (3, .int (iZ (bZ bo)))]) hx hb dM_limb_107 hl (by decide) rfl (fun ls hl => ?_)
            refine lv_iload_n hx hb dM_limb_109 rfl (lv_at hl 4 rfl) ?_
            refine zr_if_eq (tgt := 120) hx hb (by have := bZ_01 bo; omega) dM_limb_110 (by decide) (fun c_5 => ?_) (fun c_5 => ?_)
            · refine lv_iload hx hb dM_limb_120 (lv_at hl 0 rfl) ?_
              have hif : (if (rg a).natAbs % rP kx = 0 then ((xk : Nat) : Int) - 1 else ((xk : Nat) : Int)) = (xk : Int) := if_neg (fun h9 => absurd (hbk.mpr h9) (by rw [show bo = false from bZ_f.mp (by assumption)]; decide))
              refine lv_iconst (v := iZ (-1)) hx hb dM_limb_122 (by decide) ?_
              refine lv_ixor hx hb dM_limb_123 ?_
              refine lv_ldc (v := iZ 65535) hx hb hown (ht _ tw_877) dM_limb_124 ?_
              refine lv_iand hx hb dM_limb_126 ?_
              rw [inv16 (y := ((xk % 65536 : Nat) : Int)) (by omega) (by omega)]
              refine zc_i (y := iZ ↑(tl (rg a) kx)) (congrArg iZ (by unfold tl; rw [if_pos hx0, Int.natCast_sub (by omega)]; have h9 := limb_neg (k := kx) hx0; rw [← hxk9, hif] at h9; show _ = 65535 - _; rw [h9]; omega)) ?_
              exact hend 127 _ (w0, (th, fa, le, be, fb, sb9, pr)) _ _ _ dM_limb_127 (⟨fun j _ => rfl, rfl, rfl⟩) hZ hS
            · refine lv_iload hx hb dM_limb_113 (lv_at hl 0 rfl) ?_
              refine lv_iconst (v := iZ (1)) hx hb dM_limb_115 (by decide) ?_
              refine zr_isub hx hb dM_limb_116 ?_
              refine lv_goto (tgt := 122) hx hb dM_limb_117 (by decide) ?_
              have hif : (if (rg a).natAbs % rP kx = 0 then ((xk : Nat) : Int) - 1 else ((xk : Nat) : Int)) = (xk : Int) - 1 := if_pos (hbk.mp (bZ_nf.mp (by assumption)))
              refine lv_iconst (v := iZ (-1)) hx hb dM_limb_122 (by decide) ?_
              refine lv_ixor hx hb dM_limb_123 ?_
              refine lv_ldc (v := iZ 65535) hx hb hown (ht _ tw_877) dM_limb_124 ?_
              refine lv_iand hx hb dM_limb_126 ?_
              rw [inv16 (y := ((xk % 65536 : Nat) : Int) - 1) (by omega) (by omega)]
              refine zc_i (y := iZ ↑(tl (rg a) kx)) (congrArg iZ (by unfold tl; rw [if_pos hx0, Int.natCast_sub (by omega)]; have h9 := limb_neg (k := kx) hx0; rw [← hxk9, hif] at h9; show _ = 65535 - _; rw [h9]; omega)) ?_
              exact hend 127 _ (w0, (th, fa, le, be, fb, sb9, pr)) _ _ _ dM_limb_127 (⟨fun j _ => rfl, rfl, rfl⟩) hZ hS
        · refine lv_iload hx hb dM_limb_44 (lv_at hl 4 rfl) ?_
          refine lv_sipush (v := iZ (128)) hx hb dM_limb_46 (by decide) ?_
          refine zr_icmp_ge (tgt := 84) hx hb (by unfold zi; omega) (by unfold zi; omega) dM_limb_49 (by decide) (fun c_6 => ?_) (fun c_6 => ?_)
          · have hlz := low_0 (d := (fun q => w0 2 (128 * a + q))) hdig hMa hj.1
            refine lv_iload_n hx hb dM_limb_84 rfl (lv_at hl 2 rfl) ?_
            refine lv_sipush (v := iZ (128)) hx hb dM_limb_85 (by decide) ?_
            refine zr_icmp_ge (tgt := 106) hx hb (by unfold zi; omega) (by unfold zi; omega) dM_limb_88 (by decide) (fun c_7 => ?_) (fun c_7 => ?_)
            · refine lv_iconst (v := iZ (0)) hx hb dM_limb_106 (by decide) ?_
              have hkk : 128 ≤ kx := by omega
              have hxk : (rg a).natAbs / rP kx = 0 := Nat.div_eq_of_lt (Nat.lt_of_lt_of_le hX128 (rP_mono hkk))
              have hbk : bo = true ↔ (rg a).natAbs % rP kx = 0 := by
                have hj8 : j = 128 := by omega
                rw [hbo]
                show (∀ i, i < j → w0 2 (128 * a + i) = 0) ↔ _
                rw [hlz, hj8, Nat.mod_eq_of_lt hX128, Nat.mod_eq_of_lt (Nat.lt_of_lt_of_le hX128 (rP_mono hkk))]
              refine zc_i (y := iZ (((rg a).natAbs / rP kx % 65536 : Nat) : Int)) (congrArg iZ (by rw [hxk]; rfl)) ?_
              obtain ⟨xk, hxk9⟩ : ∃ q, q = (rg a).natAbs / rP kx := ⟨_, rfl⟩
              rw [← hxk9]
              refine lv_istore (lv' := [(4, .int (iZ (((xk % 65536 : Nat) : Int)))), (0, .ref (B)), (1, .int (iZ (↑a))), (2, .int (iZ (↑kx))), (3, .int (iZ (bZ bo)))]) hx hb dM_limb_107 hl (by decide) rfl (fun ls hl => ?_)
              refine lv_iload_n hx hb dM_limb_109 rfl (lv_at hl 4 rfl) ?_
              refine zr_if_eq (tgt := 120) hx hb (by have := bZ_01 bo; omega) dM_limb_110 (by decide) (fun c_8 => ?_) (fun c_8 => ?_)
              · refine lv_iload hx hb dM_limb_120 (lv_at hl 0 rfl) ?_
                have hif : (if (rg a).natAbs % rP kx = 0 then ((xk : Nat) : Int) - 1 else ((xk : Nat) : Int)) = (xk : Int) := if_neg (fun h9 => absurd (hbk.mpr h9) (by rw [show bo = false from bZ_f.mp (by assumption)]; decide))
                refine lv_iconst (v := iZ (-1)) hx hb dM_limb_122 (by decide) ?_
                refine lv_ixor hx hb dM_limb_123 ?_
                refine lv_ldc (v := iZ 65535) hx hb hown (ht _ tw_877) dM_limb_124 ?_
                refine lv_iand hx hb dM_limb_126 ?_
                rw [inv16 (y := ((xk % 65536 : Nat) : Int)) (by omega) (by omega)]
                refine zc_i (y := iZ ↑(tl (rg a) kx)) (congrArg iZ (by unfold tl; rw [if_pos hx0, Int.natCast_sub (by omega)]; have h9 := limb_neg (k := kx) hx0; rw [← hxk9, hif] at h9; show _ = 65535 - _; rw [h9]; omega)) ?_
                exact hend 127 _ (w0, (th, fa, le, be, fb, sb9, pr)) _ _ _ dM_limb_127 (⟨fun j _ => rfl, rfl, rfl⟩) hZ hS
              · refine lv_iload hx hb dM_limb_113 (lv_at hl 0 rfl) ?_
                refine lv_iconst (v := iZ (1)) hx hb dM_limb_115 (by decide) ?_
                refine zr_isub hx hb dM_limb_116 ?_
                refine lv_goto (tgt := 122) hx hb dM_limb_117 (by decide) ?_
                have hif : (if (rg a).natAbs % rP kx = 0 then ((xk : Nat) : Int) - 1 else ((xk : Nat) : Int)) = (xk : Int) - 1 := if_pos (hbk.mp (bZ_nf.mp (by assumption)))
                refine lv_iconst (v := iZ (-1)) hx hb dM_limb_122 (by decide) ?_
                refine lv_ixor hx hb dM_limb_123 ?_
                refine lv_ldc (v := iZ 65535) hx hb hown (ht _ tw_877) dM_limb_124 ?_
                refine lv_iand hx hb dM_limb_126 ?_
                rw [inv16 (y := ((xk % 65536 : Nat) : Int) - 1) (by omega) (by omega)]
                refine zc_i (y := iZ ↑(tl (rg a) kx)) (congrArg iZ (by unfold tl; rw [if_pos hx0, Int.natCast_sub (by omega)]; have h9 := limb_neg (k := kx) hx0; rw [← hxk9, hif] at h9; show _ = 65535 - _; rw [h9]; omega)) ?_
                exact hend 127 _ (w0, (th, fa, le, be, fb, sb9, pr)) _ _ _ dM_limb_127 (⟨fun j _ => rfl, rfl, rfl⟩) hZ hS
            · refine lv_aload_n hx hb dM_limb_91 rfl (lv_at hl 0 rfl) ?_
              refine zm_kept hx hb ht hown hK hZ tw_681 dM_limb_92 ?_
              refine lv_sipush (v := iZ (128)) hx hb dM_limb_95 (by decide) ?_
              refine lv_iload_n hx hb dM_limb_98 rfl (lv_at hl 1 rfl) ?_
              refine zr_imul hx hb dM_limb_99 ?_
              refine lv_iload_n hx hb dM_limb_100 rfl (lv_at hl 2 rfl) ?_
              refine zr_iadd hx hb dM_limb_101 ?_
              rw [show ((128 * ↑a) + ↑kx : Int) = ((128 * a + kx : Nat) : Int) by omega]
              refine zm_ld (k := 2) (i := 128 * a + kx) hx hb hK hZ (by decide) (by show 128 * a + kx < 1280; omega) dM_limb_102 ?_
              refine lv_goto (tgt := 107) hx hb dM_limb_103 (by decide) ?_
              have hbk : bo = true ↔ (rg a).natAbs % rP kx = 0 := by
                have hj8 : j = kx := by omega
                rw [hbo]
                show (∀ i, i < j → w0 2 (128 * a + i) = 0) ↔ _
                rw [hlz, hj8]
              refine zc_i (y := iZ (((rg a).natAbs / rP kx % 65536 : Nat) : Int)) (congrArg iZ (by rw [← hMa, rv_digit (d := (fun q => w0 2 (128 * a + q))) hdig (by omega)])) ?_
              obtain ⟨xk, hxk9⟩ : ∃ q, q = (rg a).natAbs / rP kx := ⟨_, rfl⟩
              rw [← hxk9]
              refine lv_istore (lv' := [(4, .int (iZ (((xk % 65536 : Nat) : Int)))), (0, .ref (B)), (1, .int (iZ (↑a))), (2, .int (iZ (↑kx))), (3, .int (iZ (bZ bo)))]) hx hb dM_limb_107 hl (by decide) rfl (fun ls hl => ?_)
              refine lv_iload_n hx hb dM_limb_109 rfl (lv_at hl 4 rfl) ?_
              refine zr_if_eq (tgt := 120) hx hb (by have := bZ_01 bo; omega) dM_limb_110 (by decide) (fun c_9 => ?_) (fun c_9 => ?_)
              · refine lv_iload hx hb dM_limb_120 (lv_at hl 0 rfl) ?_
                have hif : (if (rg a).natAbs % rP kx = 0 then ((xk : Nat) : Int) - 1 else ((xk : Nat) : Int)) = (xk : Int) := if_neg (fun h9 => absurd (hbk.mpr h9) (by rw [show bo = false from bZ_f.mp (by assumption)]; decide))
                refine lv_iconst (v := iZ (-1)) hx hb dM_limb_122 (by decide) ?_
                refine lv_ixor hx hb dM_limb_123 ?_
                refine lv_ldc (v := iZ 65535) hx hb hown (ht _ tw_877) dM_limb_124 ?_
                refine lv_iand hx hb dM_limb_126 ?_
                rw [inv16 (y := ((xk % 65536 : Nat) : Int)) (by omega) (by omega)]
                refine zc_i (y := iZ ↑(tl (rg a) kx)) (congrArg iZ (by unfold tl; rw [if_pos hx0, Int.natCast_sub (by omega)]; have h9 := limb_neg (k := kx) hx0; rw [← hxk9, hif] at h9; show _ = 65535 - _; rw [h9]; omega)) ?_
                exact hend 127 _ (w0, (th, fa, le, be, fb, sb9, pr)) _ _ _ dM_limb_127 (⟨fun j _ => rfl, rfl, rfl⟩) hZ hS
              · refine lv_iload hx hb dM_limb_113 (lv_at hl 0 rfl) ?_
                refine lv_iconst (v := iZ (1)) hx hb dM_limb_115 (by decide) ?_
                refine zr_isub hx hb dM_limb_116 ?_
                refine lv_goto (tgt := 122) hx hb dM_limb_117 (by decide) ?_
                have hif : (if (rg a).natAbs % rP kx = 0 then ((xk : Nat) : Int) - 1 else ((xk : Nat) : Int)) = (xk : Int) - 1 := if_pos (hbk.mp (bZ_nf.mp (by assumption)))
                refine lv_iconst (v := iZ (-1)) hx hb dM_limb_122 (by decide) ?_
                refine lv_ixor hx hb dM_limb_123 ?_
                refine lv_ldc (v := iZ 65535) hx hb hown (ht _ tw_877) dM_limb_124 ?_
                refine lv_iand hx hb dM_limb_126 ?_
                rw [inv16 (y := ((xk % 65536 : Nat) : Int) - 1) (by omega) (by omega)]
                refine zc_i (y := iZ ↑(tl (rg a) kx)) (congrArg iZ (by unfold tl; rw [if_pos hx0, Int.natCast_sub (by omega)]; have h9 := limb_neg (k := kx) hx0; rw [← hxk9, hif] at h9; show _ = 65535 - _; rw [h9]; omega)) ?_
                exact hend 127 _ (w0, (th, fa, le, be, fb, sb9, pr)) _ _ _ dM_limb_127 (⟨fun j _ => rfl, rfl, rfl⟩) hZ hS
          · refine lv_iload_n hx hb dM_limb_52 rfl (lv_at hl 3 rfl) ?_
            refine zr_if_eq (tgt := 76) hx hb (by have := bZ_01 bo; omega) dM_limb_53 (by decide) (fun c_10 => ?_) (fun c_10 => ?_)
            · refine lv_iconst (v := iZ (0)) hx hb dM_limb_76 (by decide) ?_
              refine lv_istore_n (lv' := [(3, .int (iZ (0))), (0, .ref (B)), (1, .int (iZ (↑a))), (2, .int (iZ (↑kx))), (4, .int (iZ (↑j)))]) hx hb dM_limb_77 rfl hl (by decide) rfl (fun ls hl => ?_)
              refine lv_iinc (v := iZ (↑j + 1)) (lv' := [(4, .int (iZ (↑j + 1))), (3, .int (iZ (0))), (0, .ref (B)), (1, .int (iZ (↑a))), (2, .int (iZ (↑kx)))]) hx hb dM_limb_78 hl (k := 4) rfl (iZ_add _ _) (by decide) rfl (fun ls hl => ?_)
              refine lv_goto (tgt := 38) hx hb dM_limb_81 (by decide) ?_
              rw [show (↑j + 1 : Int) = ↑(j + 1) from by omega] at hl
              rw [show (0 : Int) = bZ false from rfl] at hl
              exact ihL38 (j + 1) false _ _ _ (by omega) (⟨by omega, by omega⟩) (⟨fun h9 => absurd h9 (by decide), fun h9 => absurd (hbo.mpr (fun i hi => h9 i (by omega))) (by rw [show bo = false from bZ_f.mp (by assumption : bZ bo = 0)]; decide)⟩) hZ hS (lv_sub hl [2, 3, 4, 1, 0] rfl)
            · have hbt := bZ_nf.mp (by assumption : ¬ bZ bo = 0)
              refine lv_aload_n hx hb dM_limb_56 rfl (lv_at hl 0 rfl) ?_
              refine zm_kept hx hb ht hown hK hZ tw_681 dM_limb_57 ?_
              refine lv_sipush (v := iZ (128)) hx hb dM_limb_60 (by decide) ?_
              refine lv_iload_n hx hb dM_limb_63 rfl (lv_at hl 1 rfl) ?_
              refine zr_imul hx hb dM_limb_64 ?_
              refine lv_iload hx hb dM_limb_65 (lv_at hl 4 rfl) ?_
              refine zr_iadd hx hb dM_limb_67 ?_
              rw [show ((128 * ↑a) + ↑j : Int) = ((128 * a + j : Nat) : Int) by omega]
              refine zm_ld (k := 2) (i := 128 * a + j) hx hb hK hZ (by decide) (by show 128 * a + j < 1280; omega) dM_limb_68 ?_
              have hl9 := hdig j
              refine zr_if_ne (tgt := 76) hx hb (by unfold zi; omega) dM_limb_69 (by decide) (fun c_11 => ?_) (fun c_11 => ?_)
              · refine lv_iconst (v := iZ (0)) hx hb dM_limb_76 (by decide) ?_
                refine lv_istore_n (lv' := [(3, .int (iZ (0))), (0, .ref (B)), (1, .int (iZ (↑a))), (2, .int (iZ (↑kx))), (4, .int (iZ (↑j)))]) hx hb dM_limb_77 rfl hl (by decide) rfl (fun ls hl => ?_)
                refine lv_iinc (v := iZ (↑j + 1)) (lv' := [(4, .int (iZ (↑j + 1))), (3, .int (iZ (0))), (0, .ref (B)), (1, .int (iZ (↑a))), (2, .int (iZ (↑kx)))]) hx hb dM_limb_78 hl (k := 4) rfl (iZ_add _ _) (by decide) rfl (fun ls hl => ?_)
                refine lv_goto (tgt := 38) hx hb dM_limb_81 (by decide) ?_
                rw [show (↑j + 1 : Int) = ↑(j + 1) from by omega] at hl
                rw [show (0 : Int) = bZ false from rfl] at hl
                exact ihL38 (j + 1) false _ _ _ (by omega) (⟨by omega, by omega⟩) (⟨fun h9 => absurd h9 (by decide), fun h9 => absurd (h9 j (by omega)) (by omega)⟩) hZ hS (lv_sub hl [2, 3, 4, 1, 0] rfl)
              · refine lv_iconst (v := iZ (1)) hx hb dM_limb_72 (by decide) ?_
                refine lv_goto (tgt := 77) hx hb dM_limb_73 (by decide) ?_
                refine lv_istore_n (lv' := [(3, .int (iZ (1))), (0, .ref (B)), (1, .int (iZ (↑a))), (2, .int (iZ (↑kx))), (4, .int (iZ (↑j)))]) hx hb dM_limb_77 rfl hl (by decide) rfl (fun ls hl => ?_)
                refine lv_iinc (v := iZ (↑j + 1)) (lv' := [(4, .int (iZ (↑j + 1))), (3, .int (iZ (1))), (0, .ref (B)), (1, .int (iZ (↑a))), (2, .int (iZ (↑kx)))]) hx hb dM_limb_78 hl (k := 4) rfl (iZ_add _ _) (by decide) rfl (fun ls hl => ?_)
                refine lv_goto (tgt := 38) hx hb dM_limb_81 (by decide) ?_
                rw [show (↑j + 1 : Int) = ↑(j + 1) from by omega] at hl
                rw [show (1 : Int) = bZ true from rfl] at hl
                exact ihL38 (j + 1) true _ _ _ (by omega) (⟨by omega, by omega⟩) (⟨fun _ i hi => by by_cases h9 : i = j; rw [h9]; omega; exact hbo.mp hbt i (by omega), fun _ => rfl⟩) hZ hS (lv_sub hl [2, 3, 4, 1, 0] rfl)
    rw [show (1 : Int) = bZ true from rfl] at hl
    exact L38 _ 0 true _ _ _ (Nat.lt_succ_self _) (⟨by decide, Nat.zero_le _⟩) (⟨fun _ i hi => absurd hi (Nat.not_lt_zero _), fun _ => rfl⟩) hZ hS (lv_sub hl [2, 3, 4, 1, 0] rfl)
  · have hx0 : ¬ rg a < 0 := of_decide_eq_false (bZ_f.mp (by assumption))
    refine lv_iload_n hx hb dM_limb_9 rfl (lv_at hl 2 rfl) ?_
    refine lv_sipush (v := iZ (128)) hx hb dM_limb_10 (by decide) ?_
    refine zr_icmp_ge (tgt := 31) hx hb (by unfold zi; omega) (by unfold zi; omega) dM_limb_13 (by decide) (fun c_12 => ?_) (fun c_12 => ?_)
    · refine lv_iconst (v := iZ (0)) hx hb dM_limb_31 (by decide) ?_
      refine zc_i (y := iZ ↑(tl (rg a) kx)) (congrArg iZ (by unfold tl; rw [if_neg hx0, zu_pos hx0, Nat.div_eq_of_lt (Nat.lt_of_lt_of_le hX128 (rP_mono (by omega)))]; rfl)) ?_
      exact hend 32 _ (w0, (th, fa, le, be, fb, sb9, pr)) _ _ _ dM_limb_32 (⟨fun j _ => rfl, rfl, rfl⟩) hZ hS
    · refine lv_aload_n hx hb dM_limb_16 rfl (lv_at hl 0 rfl) ?_
      refine zm_kept hx hb ht hown hK hZ tw_681 dM_limb_17 ?_
      refine lv_sipush (v := iZ (128)) hx hb dM_limb_20 (by decide) ?_
      refine lv_iload_n hx hb dM_limb_23 rfl (lv_at hl 1 rfl) ?_
      refine zr_imul hx hb dM_limb_24 ?_
      refine lv_iload_n hx hb dM_limb_25 rfl (lv_at hl 2 rfl) ?_
      refine zr_iadd hx hb dM_limb_26 ?_
      rw [show ((128 * ↑a) + ↑kx : Int) = ((128 * a + kx : Nat) : Int) by omega]
      refine zm_ld (k := 2) (i := 128 * a + kx) hx hb hK hZ (by decide) (by show 128 * a + kx < 1280; omega) dM_limb_27 ?_
      refine lv_goto (tgt := 32) hx hb dM_limb_28 (by decide) ?_
      refine zc_i (y := iZ ↑(tl (rg a) kx)) (congrArg iZ (by unfold tl; rw [if_neg hx0, zu_pos hx0, ← hMa, rv_digit (d := (fun q => w0 2 (128 * a + q))) hdig (by omega)])) ?_
      exact hend 32 _ (w0, (th, fa, le, be, fb, sb9, pr)) _ _ _ dM_limb_32 (⟨fun j _ => rfl, rfl, rfl⟩) hZ hS
