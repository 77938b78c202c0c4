theorem zX_if {b : Bool} {X : Nat} : zX (if b = true then -((X : Nat) : Int) else ((X : Nat) : Int)) ↔ X < rP 128 := by
  rw [rP_128]
  unfold zX
  split
  · rw [Int.natAbs_neg, Int.natAbs_natCast]
  · rw [Int.natAbs_natCast]
theorem lf_neg {x : Int} : (if decide (x < 0) = true then -((x.natAbs : Nat) : Int) else ((x.natAbs : Nat) : Int)) = x := by
  by_cases h : x < 0
  · rw [if_pos (decide_eq_true h)]; omega
  · rw [if_neg (by rw [decide_eq_false h]; decide)]; omega
theorem lfb_x (x : Int) : lfb (decide (x < 0)) x.natAbs = x := lf_neg
theorem rP_big {x : Int} (h : zX x) : x.natAbs < rP 128 := by rw [rP_128]; exact h
theorem rP_mul128 {a b : Nat} (ha : a < rP 128) (hb : b < rP 128) : a * b < rP 264 := by
  refine Nat.lt_of_lt_of_le (Nat.mul_lt_mul'' ha hb) ?_
  rw [← rP_add]
  exact rP_mono (by decide)
theorem mul_sgn (x y : Int) : (if (decide (x < 0) != decide (y < 0)) = true then -((x.natAbs * y.natAbs : Nat) : Int) else ((x.natAbs * y.natAbs : Nat) : Int)) = x * y := by
  rw [Int.natCast_mul]
  by_cases hx : x < 0
  · by_cases hy : y < 0
    · rw [decide_eq_true hx, decide_eq_true hy, if_neg (by decide), show ((x.natAbs : Nat) : Int) = -x by omega, show ((y.natAbs : Nat) : Int) = -y by omega, Int.neg_mul_neg]
    · rw [decide_eq_true hx, decide_eq_false hy, if_pos (by decide), show ((x.natAbs : Nat) : Int) = -x by omega, show ((y.natAbs : Nat) : Int) = y by omega, Int.neg_mul, Int.neg_neg]
  · by_cases hy : y < 0
    · rw [decide_eq_false hx, decide_eq_true hy, if_pos (by decide), show ((x.natAbs : Nat) : Int) = x by omega, show ((y.natAbs : Nat) : Int) = -y by omega, Int.mul_neg, Int.neg_neg]
    · rw [decide_eq_false hx, decide_eq_false hy, if_neg (by decide), show ((x.natAbs : Nat) : Int) = x by omega, show ((y.natAbs : Nat) : Int) = y by omega]
theorem put_dig {z : Int} {v : Nat} (hv : v < 18446744073709551616) {d : Nat → Nat} (h : ∀ i, i < 4 → d i = v / 65536 ^ i % 65536) (h2 : ∀ i, 4 ≤ i → i < 264 → d i = 0) : rv d 264 = v := by
  rw [rv_drop (m := 4) (by decide) h2, rv_digs 4 (fun i hi => h i hi)]
  exact Nat.mod_eq_of_lt (by show v < 65536 ^ 4; omega)
set_option maxHeartbeats 4000000 in
set_option maxRecDepth 100000 in
theorem mM_put (l : Launch) (E : zE) (B : Nat) (rg : Nat → Int) (ct : Nat) (f : Nat → Nat) (st : Nat) (g : Nat → Nat) (t0 : Nat) (to : Int) (hz_to : zi to) (z : Int) (hzl : zl z) (k : Nat) (σ1 : zS) (hok1 : okS σ1) (hsp : SP (rok to) (False) (False) (fun τ => τ = (va_up rg to.toNat (z), ct, f, st, g)) (rg, ct, f, st, g) k σ1) :
    Met l yM_put (zws yM_put cM_put 7 none) { frames := 2, cells := 0, slots := 0, locals := 60 } (zPc E (zQM E B (rg, ct, f, st, g) t0) [.ref (B), .int (iZ (to)), .long (lZ (z))]) (va_Qv (fun (u : Unit) => True) (fun u t => zQM E B σ1 (tc k) t.heap ∧ zK E t) (zA B 15)) 0 0 (zA B 15) := by
  refine zof_v (P' := fun (u : Unit) H => zQM E B σ1 (tc k) H) (by decide) (Nat.le_of_ble_eq_true rfl) fun p e R s m args below meth c Q ls hR hx hb hml ht hown hK hZ hl hend => ?_
  have hS : va_S (zA B 15) s.heap s.heap [] := va_S.rf
  have hown : s.vm.findClass "WholeDeskModel" = some m.cls := hown
  have hl : lv_has ls 7 [(0, .ref (B)), (1, .int (iZ (to))), (2, .long (lZ (z)))] := hl
  obtain ⟨hok, w0, ⟨th, fa, le, be, fb, sb9, pr⟩, hZ, ⟨hMR, hle, hdr, hpr, hpa⟩, hth⟩ := hZ
  dsimp only at *
  rw [hle, hpr] at hZ
  clear hth hle hpr le pr
  refine lv_aload_n hx hb dM_put_0 rfl (lv_at hl 0 rfl) ?_
  refine lv_iload_n hx hb dM_put_1 rfl (lv_at hl 1 rfl) ?_
  refine zcS_i (P' := fun (u : (Nat → Nat → Nat) × zC) H => zMD E B u.1 u.2 H) 1 (As := [.int (iZ (to))]) (rest := [.ref (B)]) ⟨hx, hb, hml, hown, ht⟩ (mM_no l E B w0 (th, fa, ct, be, fb, sb9, (2049 - st)) (to) hz_to) tw_762 tw_760 tw_761 tw_6 qM_no (by rw [hR]; decide) hZ hK hl.1 rfl rfl (Nat.le_of_ble_eq_true rfl) dM_put_2 ⟨Nat.zero_le _, Nat.zero_le _⟩ hS (fun r9 u H locs hp hZ _ hS => ?_)
  obtain ⟨hu9, bto, hr1, hbto⟩ := hp
  subst hr1
  rw [hu9] at hZ
  dsimp only at hZ
  clear hu9
  refine zr_if_eq (tgt := 12) hx hb (by have := bZ_01 bto; omega) dM_put_5 (by decide) (fun c_1 => ?_) (fun c_1 => ?_)
  · have hk_nto : rok to := Classical.byContradiction (fun h9 => absurd (hbto.mpr h9) (by rw [show bto = false from bZ_f.mp (by assumption)]; decide))
    obtain ⟨nto, rfl⟩ : ∃ n9 : Nat, to = (n9 : Int) := ⟨to.toNat, by have := hk_nto.1; omega⟩
    have h10_nto : nto < 10 := by have := hk_nto.2; omega
    refine lv_iconst (v := iZ (0)) hx hb dM_put_12 (by decide) ?_
    refine W.eq (g2 := F0 m 13 ls ([.int (iZ ((0 : Nat) : Int)), .ref B])) rfl ?_
    refine zm_put_thrown (x := 0) hx hb ht hown hK hZ hS tw_677 dM_put_13 (fun H locs hZ hS => ?_)
    have hZ : zMD E B w0 (0, fa, ct, be, fb, sb9, (2049 - st)) H := hZ
    refine lv_aload_n hx hb dM_put_16 rfl (lv_at hl 0 rfl) ?_
    refine zm_thrown hx hb ht hown hK hZ tw_677 dM_put_17 ?_
    refine zc_i (y := iZ (((0 : Nat) : Int))) rfl ?_
    refine zr_if_le (tgt := 24) hx hb (by decide) dM_put_20 (by decide) (fun c_2 => ?_) (fun c_2 => ?_)
    · refine lv_aload_n hx hb dM_put_24 rfl (lv_at hl 0 rfl) ?_
      refine zm_row hx hb ht hown hK hZ tw_683 dM_put_25 ?_
      refine zcS_v (P' := fun (u : (Nat → Nat → Nat) × zC) H => zMD E B u.1 u.2 H) 1 (As := [.ref (B + 4)]) (rest := []) ⟨hx, hb, hml, hown, ht⟩ (mM_clear l E B w0 (0, fa, ct, be, fb, sb9, (2049 - st)) 4 (by decide) 264 rfl (by decide)) tw_768 tw_766 tw_767 tw_6 qM_clear (by rw [hR]; decide) hZ hK hl.1 rfl rfl (Nat.le_of_ble_eq_true rfl) dM_put_28 ⟨Nat.zero_le _, Nat.zero_le _⟩ hS (fun u H locs hp hZ _ hS => ?_)
      obtain ⟨w, q9⟩ := u
      obtain ⟨ho, hq9, hcl⟩ := hp
      dsimp only at *
      rw [hq9] at hZ
      replace hMR : MR w rg := MR_same (ho 2 (by decide)) (ho 3 (by decide)) hMR
      replace hdr : ∀ i, i < ct → w 1 i = f i := fun i hi => by rw [ho 1 (by decide)]; exact hdr i hi
      replace hpa : ∀ i, i < 2049 - st → w 14 i = g (st + i) := fun i hi => by rw [ho 14 (by decide)]; exact hpa i hi
      have hv_4 : rv (w 4) 264 = 0 := by rw [rv_drop (m := 0) (Nat.zero_le _) (fun i _ h => hcl i h)]; rfl
      have hcl4 := hcl
      refine lv_aload_n hx hb dM_put_31 rfl (lv_at hl 0 rfl) ?_
      refine lv_lload_n hx hb dM_put_32 rfl (lv_at hl 2 rfl) ?_
      refine lv_lconst (v := lZ (0)) hx hb dM_put_33 (by decide) ?_
      refine zr_lcmp_ge (tgt := 42) hx hb hzl (by unfold zl; omega) dM_put_34 dM_put_35 (by decide) (fun c_3 => ?_) (fun c_3 => ?_)
      · refine lv_iconst (v := iZ (0)) hx hb dM_put_42 (by decide) ?_
        refine W.eq (g2 := F0 m 43 ls ([.int (iZ (bZ false)), .ref B])) rfl ?_
        refine zm_put_below (x := false) hx hb ht hown hK hZ hS tw_684 dM_put_43 (fun H locs hZ hS => ?_)
        have hZ : zMD E B w (0, fa, ct, false, fb, sb9, (2049 - st)) H := hZ
        have hbe : false = decide (z < 0) := by rw [decide_eq_false (by omega)]
        refine lv_aload_n hx hb dM_put_46 rfl (lv_at hl 0 rfl) ?_
        refine zm_below hx hb ht hown hK hZ tw_684 dM_put_47 ?_
        refine zc_i (y := iZ (bZ false)) rfl ?_
        refine zr_if_eq (tgt := 58) hx hb (by decide) dM_put_50 (by decide) (fun c_4 => ?_) (fun c_4 => ?_)
        · refine lv_lload_n hx hb dM_put_58 rfl (lv_at hl 2 rfl) ?_
          obtain ⟨v9, hv9⟩ : ∃ q : Nat, q = z.natAbs := ⟨_, rfl⟩
          have hv64 : v9 ≤ 9223372036854775808 := by unfold zl at hzl; omega
          refine zc_l (y := lZ ↑v9) (congrArg lZ (by omega)) ?_
          have hrow : ∀ i, i < 264 → w 4 i = 0 := hcl4
          refine lv_lstore (lv' := [(4, .long (lZ (↑v9))), (0, .ref (B)), (1, .int (iZ (↑nto))), (2, .long (lZ (z)))]) hx hb dM_put_59 hl (by decide) rfl (fun ls hl => ?_)
          refine lv_iconst (v := iZ (0)) hx hb dM_put_61 (by decide) ?_
          refine lv_istore (lv' := [(6, .int (iZ (0))), (4, .long (lZ (↑v9))), (0, .ref (B)), (1, .int (iZ (↑nto))), (2, .long (lZ (z)))]) hx hb dM_put_62 hl (by decide) rfl (fun ls hl => ?_)
          have L64 : ∀ (fu : Nat) (i : Nat) (w : Nat → Nat → Nat) (H : Heap) (locs : List Loc) (ls : Array Slot), 4 - i < fu → (i ≤ 4) → (∀ q, q < i → w 4 q = v9 / 65536 ^ q % 65536) → (∀ q, i ≤ q → q < 264 → w 4 q = 0) → (MR w rg) → (∀ i, i < ct → w 1 i = f i) → (∀ i, i < 2049 - st → w 14 i = g (st + i)) → zMD E B w (0, fa, ct, false, fb, sb9, (2049 - st)) H → va_S (zA B 15) s.heap H locs → lv_has ls 7 [(0, .ref (B)), (1, .int (iZ (↑nto))), (4, .long (lZ (↑v9))), (6, .int (iZ (↑i)))] → W p l e R s m args below meth c H locs 0 0 Q (F0 m 64 ls []) := by
            intro fu
            induction fu with
            | zero => intro i w H locs ls hm; exact absurd hm (Nat.not_lt_zero _)
            | succ fu ihL64 =>
              intro i w H locs ls hm hi h4a h4b hMR hdr hpa hZ hS hl
              refine lv_iload hx hb dM_put_64 (lv_at hl 3 rfl) ?_
              refine lv_iconst (v := iZ (4)) hx hb dM_put_66 (by decide) ?_
              refine zr_icmp_ge (tgt := 96) hx hb (by unfold zi; omega) (by unfold zi; omega) dM_put_67 (by decide) (fun c_5 => ?_) (fun c_5 => ?_)
              · rw [show i = 4 by omega] at h4a h4b
                have hv_4 : rv (w 4) 264 = v9 := put_dig (z := z) (by omega) h4a h4b
                refine lv_aload_n hx hb dM_put_96 rfl (lv_at hl 0 rfl) ?_
                refine lv_iload_n hx hb dM_put_97 rfl (lv_at hl 1 rfl) ?_
                refine zcV_v (P' := fun (u : (Nat → Nat → Nat) × zC) H => zMD E B u.1 u.2 H) 1 (As := [.int (iZ (↑nto))]) (rest := []) rfl ⟨hx, hb, hml, hown, ht⟩ (mM_store l E B w (0, fa, ct, false, fb, sb9, (2049 - st)) nto h10_nto rg hMR) tw_779 tw_776 tw_778 tp_12 tw_6 qM_store (by rw [hR]; decide) (zm_recv hK hZ) hZ hK hl.1 rfl rfl (Nat.le_of_ble_eq_true rfl) dM_put_98 ⟨Nat.zero_le _, Nat.zero_le _⟩ hS (fun u H locs hp hZ _ hS => ?_)
                obtain ⟨w, q9⟩ := u
                obtain ⟨ho, hbig, hfit⟩ := hp
                dsimp only at *
                rw [hv_4] at hbig hfit
                have hzz : (if false = true then -(((v9 : Nat) : Int)) else ((v9 : Nat) : Int)) = z := by have h9 := lf_neg (x := z); rw [← hbe] at h9; rw [hv9]; exact h9
                have hzX : zX (z) ↔ v9 < rP 128 := by rw [← hzz]; exact zX_if
                rcases Nat.lt_or_ge (v9) (rP 128) with hX | hX
                · obtain ⟨hq9, hMR9⟩ := hfit hX
                  rw [hq9] at hZ
                  rw [hzz] at hMR9
                  have hzx := hzX.mpr hX
                  replace hdr : ∀ i, i < ct → w 1 i = f i := fun i hi => by rw [ho 1 (by decide) (by decide)]; exact hdr i hi
                  replace hpa : ∀ i, i < 2049 - st → w 14 i = g (st + i) := fun i hi => by rw [ho 14 (by decide) (by decide)]; exact hpa i hi
                  replace hv_4 : rv (w 4) 264 = v9 := by rw [ho 4 (by decide) (by decide)]; exact hv_4
                  have hMR : MR w (va_up rg nto (z)) := hMR9
                  exact hend 101 () _ _ _ dM_put_101 trivial (by rcases SP_g hsp hk_nto with ⟨_, h, _⟩ | ⟨_, h, _⟩ | ⟨hk, hs⟩; exact h.elim; exact h.elim; subst hk; subst hs; exact ⟨hok1, w, (0, fa, ct, false, fb, sb9, (2049 - st)), hZ, ⟨hMR, rfl, hdr, rfl, hpa⟩, rfl⟩) hS
                · obtain ⟨e1, e2⟩ := Prod.mk.inj (hbig hX)
                  rw [e2] at hZ
                  rw [← e1] at hMR hdr hpa
                  have hzx : ¬ zX (z) := fun h9 => absurd (hzX.mp h9) (Nat.not_lt.mpr hX)
                  have hZ : zMD E B w (fa, fa, ct, false, fb, sb9, (2049 - st)) H := hZ
                  exact absurd (zX_long hzl) hzx
              · refine lv_aload_n hx hb dM_put_70 rfl (lv_at hl 0 rfl) ?_
                refine zm_row hx hb ht hown hK hZ tw_683 dM_put_71 ?_
                refine lv_iload hx hb dM_put_74 (lv_at hl 3 rfl) ?_
                refine lv_lload hx hb dM_put_76 (lv_at hl 2 rfl) ?_
                refine lv_bipush (v := iZ (16)) hx hb dM_put_78 (by decide) ?_
                refine lv_iload hx hb dM_put_80 (lv_at hl 3 rfl) ?_
                refine zr_imul hx hb dM_put_82 ?_
                refine zc_i (y := iZ (↑(16 * i))) (congrArg iZ (by omega)) ?_
                refine zr_lushrU (n := 16 * i) (P := ((2 ^ (16 * i) : Nat) : Int)) hx hb (by omega) rfl dM_put_83 ?_
                refine zc_l (y := lZ ((v9 / 65536 ^ i : Nat) : Int)) (congrArg lZ (by rw [show ((v9 : Nat) : Int) % 18446744073709551616 = ((v9 : Nat) : Int) by omega, ← Int.natCast_ediv, Nat.pow_mul])) ?_
                refine lv_ldc2 (v := lZ (65535)) hx hb hown (ht _ tw_775) dM_put_84 ?_
                refine zr_mask (n := 16) (P := 65536) hx hb (Nat.le_of_ble_eq_true rfl) p2_16 m2_16 dM_put_87 ?_
                refine zr_l2i hx hb dM_put_88 ?_
                rw [show (((v9 / 65536 ^ i : Nat) : Int) % 65536 : Int) = ((v9 / 65536 ^ i % 65536 : Nat) : Int) from (Int.natCast_emod _ _).symm]
                refine zm_st (k := 4) (i := i) (x := v9 / 65536 ^ i % 65536) hx hb hK hZ hS (by decide) (by show i < 264; omega) (Nat.mod_lt _ (by decide)) dM_put_89 (fun H locs hZ hS => ?_)
                obtain ⟨w9, hw9⟩ : ∃ q, q = mup w 4 i (v9 / 65536 ^ i % 65536) := ⟨_, rfl⟩
                rw [← hw9] at hZ
                have ho : ∀ j, j ≠ 4 → w9 j = w j := fun j hj => by rw [hw9, mup_ne _ _ _ hj]
                have hwk : w9 4 = va_up (w 4) i (v9 / 65536 ^ i % 65536) := by rw [hw9, mup_at]
                clear hw9
                obtain ⟨w, hww⟩ : ∃ q, q = w9 := ⟨_, rfl⟩
                rw [← hww] at hZ ho hwk
                clear hww
                replace hMR : MR w rg := MR_same (ho 2 (by decide)) (ho 3 (by decide)) hMR
                replace hdr : ∀ i, i < ct → w 1 i = f i := fun i hi => by rw [ho 1 (by decide)]; exact hdr i hi
                replace hpa : ∀ i, i < 2049 - st → w 14 i = g (st + i) := fun i hi => by rw [ho 14 (by decide)]; exact hpa i hi
                refine lv_iinc (v := iZ (↑i + 1)) (lv' := [(6, .int (iZ (↑i + 1))), (0, .ref (B)), (1, .int (iZ (↑nto))), (4, .long (lZ (↑v9)))]) hx hb dM_put_90 hl (k := 3) rfl (iZ_add _ _) (by decide) rfl (fun ls hl => ?_)
                refine lv_goto (tgt := 64) hx hb dM_put_93 (by decide) ?_
                rw [show (↑i + 1 : Int) = ↑(i + 1) from by omega] at hl
                exact ihL64 (i + 1) w _ _ _ (by omega) (by omega) (fun q hq => by rw [hwk]; by_cases h9 : q = i; rw [h9, va_up_self]; rw [va_up_ne _ _ h9]; exact h4a q (by omega)) (fun q h1 h2 => by rw [hwk, va_up_ne _ _ (by omega)]; exact h4b q (by omega) h2) hMR hdr hpa  hZ hS (lv_sub hl [1, 2, 3, 0] rfl)
          exact L64 _ 0 w _ _ _ (Nat.lt_succ_self _) (Nat.zero_le _) (fun q hq => absurd hq (Nat.not_lt_zero _)) (fun q _ hq => hrow q hq) hMR hdr hpa  hZ hS (lv_sub hl [2, 3, 1, 0] rfl)
        · exact absurd c_4 (by decide)
      · refine lv_iconst (v := iZ (1)) hx hb dM_put_38 (by decide) ?_
        refine lv_goto (tgt := 43) hx hb dM_put_39 (by decide) ?_
        refine W.eq (g2 := F0 m 43 ls ([.int (iZ (bZ true)), .ref B])) rfl ?_
        refine zm_put_below (x := true) hx hb ht hown hK hZ hS tw_684 dM_put_43 (fun H locs hZ hS => ?_)
        have hZ : zMD E B w (0, fa, ct, true, fb, sb9, (2049 - st)) H := hZ
        have hbe : true = decide (z < 0) := by rw [decide_eq_true (by omega)]
        refine lv_aload_n hx hb dM_put_46 rfl (lv_at hl 0 rfl) ?_
        refine zm_below hx hb ht hown hK hZ tw_684 dM_put_47 ?_
        refine zc_i (y := iZ (bZ true)) rfl ?_
        refine zr_if_eq (tgt := 58) hx hb (by decide) dM_put_50 (by decide) (fun c_6 => ?_) (fun c_6 => ?_)
        · exact absurd c_6 (by decide)
        · refine lv_lload_n hx hb dM_put_53 rfl (lv_at hl 2 rfl) ?_
          refine zr_lneg hx hb dM_put_54 ?_
          refine lv_goto (tgt := 59) hx hb dM_put_55 (by decide) ?_
          obtain ⟨v9, hv9⟩ : ∃ q : Nat, q = z.natAbs := ⟨_, rfl⟩
          have hv64 : v9 ≤ 9223372036854775808 := by unfold zl at hzl; omega
          refine zc_l (y := lZ ↑v9) (congrArg lZ (by omega)) ?_
          have hrow : ∀ i, i < 264 → w 4 i = 0 := hcl4
          refine lv_lstore (lv' := [(4, .long (lZ (↑v9))), (0, .ref (B)), (1, .int (iZ (↑nto))), (2, .long (lZ (z)))]) hx hb dM_put_59 hl (by decide) rfl (fun ls hl => ?_)
          refine lv_iconst (v := iZ (0)) hx hb dM_put_61 (by decide) ?_
          refine lv_istore (lv' := [(6, .int (iZ (0))), (4, .long (lZ (↑v9))), (0, .ref (B)), (1, .int (iZ (↑nto))), (2, .long (lZ (z)))]) hx hb dM_put_62 hl (by decide) rfl (fun ls hl => ?_)
          have L64 : ∀ (fu : Nat) (i : Nat) (w : Nat → Nat → Nat) (H : Heap) (locs : List Loc) (ls : Array Slot), 4 - i < fu → (i ≤ 4) → (∀ q, q < i → w 4 q = v9 / 65536 ^ q % 65536) → (∀ q, i ≤ q → q < 264 → w 4 q = 0) → (MR w rg) → (∀ i, i < ct → w 1 i = f i) → (∀ i, i < 2049 - st → w 14 i = g (st + i)) → zMD E B w (0, fa, ct, true, fb, sb9, (2049 - st)) H → va_S (zA B 15) s.heap H locs → lv_has ls 7 [(0, .ref (B)), (1, .int (iZ (↑nto))), (4, .long (lZ (↑v9))), (6, .int (iZ (↑i)))] → W p l e R s m args below meth c H locs 0 0 Q (F0 m 64 ls []) := by
            intro fu
            induction fu with
            | zero => intro i w H locs ls hm; exact absurd hm (Nat.not_lt_zero _)
            | succ fu ihL64 =>
              intro i w H locs ls hm hi h4a h4b hMR hdr hpa hZ hS hl
              refine lv_iload hx hb dM_put_64 (lv_at hl 3 rfl) ?_
              refine lv_iconst (v := iZ (4)) hx hb dM_put_66 (by decide) ?_
              refine zr_icmp_ge (tgt := 96) hx hb (by unfold zi; omega) (by unfold zi; omega) dM_put_67 (by decide) (fun c_7 => ?_) (fun c_7 => ?_)
              · rw [show i = 4 by omega] at h4a h4b
                have hv_4 : rv (w 4) 264 = v9 := put_dig (z := z) (by omega) h4a h4b
                refine lv_aload_n hx hb dM_put_96 rfl (lv_at hl 0 rfl) ?_
                refine lv_iload_n hx hb dM_put_97 rfl (lv_at hl 1 rfl) ?_
                refine zcV_v (P' := fun (u : (Nat → Nat → Nat) × zC) H => zMD E B u.1 u.2 H) 1 (As := [.int (iZ (↑nto))]) (rest := []) rfl ⟨hx, hb, hml, hown, ht⟩ (mM_store l E B w (0, fa, ct, true, fb, sb9, (2049 - st)) nto h10_nto rg hMR) tw_779 tw_776 tw_778 tp_12 tw_6 qM_store (by rw [hR]; decide) (zm_recv hK hZ) hZ hK hl.1 rfl rfl (Nat.le_of_ble_eq_true rfl) dM_put_98 ⟨Nat.zero_le _, Nat.zero_le _⟩ hS (fun u H locs hp hZ _ hS => ?_)
                obtain ⟨w, q9⟩ := u
                obtain ⟨ho, hbig, hfit⟩ := hp
                dsimp only at *
                rw [hv_4] at hbig hfit
                have hzz : (if true = true then -(((v9 : Nat) : Int)) else ((v9 : Nat) : Int)) = z := by have h9 := lf_neg (x := z); rw [← hbe] at h9; rw [hv9]; exact h9
                have hzX : zX (z) ↔ v9 < rP 128 := by rw [← hzz]; exact zX_if
                rcases Nat.lt_or_ge (v9) (rP 128) with hX | hX
                · obtain ⟨hq9, hMR9⟩ := hfit hX
                  rw [hq9] at hZ
                  rw [hzz] at hMR9
                  have hzx := hzX.mpr hX
                  replace hdr : ∀ i, i < ct → w 1 i = f i := fun i hi => by rw [ho 1 (by decide) (by decide)]; exact hdr i hi
                  replace hpa : ∀ i, i < 2049 - st → w 14 i = g (st + i) := fun i hi => by rw [ho 14 (by decide) (by decide)]; exact hpa i hi
                  replace hv_4 : rv (w 4) 264 = v9 := by rw [ho 4 (by decide) (by decide)]; exact hv_4
                  have hMR : MR w (va_up rg nto (z)) := hMR9
                  exact hend 101 () _ _ _ dM_put_101 trivial (by rcases SP_g hsp hk_nto with ⟨_, h, _⟩ | ⟨_, h, _⟩ | ⟨hk, hs⟩; exact h.elim; exact h.elim; subst hk; subst hs; exact ⟨hok1, w, (0, fa, ct, true, fb, sb9, (2049 - st)), hZ, ⟨hMR, rfl, hdr, rfl, hpa⟩, rfl⟩) hS
                · obtain ⟨e1, e2⟩ := Prod.mk.inj (hbig hX)
                  rw [e2] at hZ
                  rw [← e1] at hMR hdr hpa
                  have hzx : ¬ zX (z) := fun h9 => absurd (hzX.mp h9) (Nat.not_lt.mpr hX)
                  have hZ : zMD E B w (fa, fa, ct, true, fb, sb9, (2049 - st)) H := hZ
                  exact absurd (zX_long hzl) hzx
              · refine lv_aload_n hx hb dM_put_70 rfl (lv_at hl 0 rfl) ?_
                refine zm_row hx hb ht hown hK hZ tw_683 dM_put_71 ?_
                refine lv_iload hx hb dM_put_74 (lv_at hl 3 rfl) ?_
                refine lv_lload hx hb dM_put_76 (lv_at hl 2 rfl) ?_
                refine lv_bipush (v := iZ (16)) hx hb dM_put_78 (by decide) ?_
                refine lv_iload hx hb dM_put_80 (lv_at hl 3 rfl) ?_
                refine zr_imul hx hb dM_put_82 ?_
                refine zc_i (y := iZ (↑(16 * i))) (congrArg iZ (by omega)) ?_
                refine zr_lushrU (n := 16 * i) (P := ((2 ^ (16 * i) : Nat) : Int)) hx hb (by omega) rfl dM_put_83 ?_
                refine zc_l (y := lZ ((v9 / 65536 ^ i : Nat) : Int)) (congrArg lZ (by rw [show ((v9 : Nat) : Int) % 18446744073709551616 = ((v9 : Nat) : Int) by omega, ← Int.natCast_ediv, Nat.pow_mul])) ?_
                refine lv_ldc2 (v := lZ (65535)) hx hb hown (ht _ tw_775) dM_put_84 ?_
                refine zr_mask (n := 16) (P := 65536) hx hb (Nat.le_of_ble_eq_true rfl) p2_16 m2_16 dM_put_87 ?_
                refine zr_l2i hx hb dM_put_88 ?_
                rw [show (((v9 / 65536 ^ i : Nat) : Int) % 65536 : Int) = ((v9 / 65536 ^ i % 65536 : Nat) : Int) from (Int.natCast_emod _ _).symm]
                refine zm_st (k := 4) (i := i) (x := v9 / 65536 ^ i % 65536) hx hb hK hZ hS (by decide) (by show i < 264; omega) (Nat.mod_lt _ (by decide)) dM_put_89 (fun H locs hZ hS => ?_)
                obtain ⟨w9, hw9⟩ : ∃ q, q = mup w 4 i (v9 / 65536 ^ i % 65536) := ⟨_, rfl⟩
                rw [← hw9] at hZ
                have ho : ∀ j, j ≠ 4 → w9 j = w j := fun j hj => by rw [hw9, mup_ne _ _ _ hj]
                have hwk : w9 4 = va_up (w 4) i (v9 / 65536 ^ i % 65536) := by rw [hw9, mup_at]
                clear hw9
                obtain ⟨w, hww⟩ : ∃ q, q = w9 := ⟨_, rfl⟩
                rw [← hww] at hZ ho hwk
                clear hww
                replace hMR : MR w rg := MR_same (ho 2 (by decide)) (ho 3 (by decide)) hMR
                replace hdr : ∀ i, i < ct → w 1 i = f i := fun i hi => by rw [ho 1 (by decide)]; exact hdr i hi
                replace hpa : ∀ i, i < 2049 - st → w 14 i = g (st + i) := fun i hi => by rw [ho 14 (by decide)]; exact hpa i hi
                refine lv_iinc (v := iZ (↑i + 1)) (lv' := [(6, .int (iZ (↑i + 1))), (0, .ref (B)), (1, .int (iZ (↑nto))), (4, .long (lZ (↑v9)))]) hx hb dM_put_90 hl (k := 3) rfl (iZ_add _ _) (by decide) rfl (fun ls hl => ?_)
                refine lv_goto (tgt := 64) hx hb dM_put_93 (by decide) ?_
                rw [show (↑i + 1 : Int) = ↑(i + 1) from by omega] at hl
                exact ihL64 (i + 1) w _ _ _ (by omega) (by omega) (fun q hq => by rw [hwk]; by_cases h9 : q = i; rw [h9, va_up_self]; rw [va_up_ne _ _ h9]; exact h4a q (by omega)) (fun q h1 h2 => by rw [hwk, va_up_ne _ _ (by omega)]; exact h4b q (by omega) h2) hMR hdr hpa  hZ hS (lv_sub hl [1, 2, 3, 0] rfl)
          exact L64 _ 0 w _ _ _ (Nat.lt_succ_self _) (Nat.zero_le _) (fun q hq => absurd hq (Nat.not_lt_zero _)) (fun q _ hq => hrow q hq) hMR hdr hpa  hZ hS (lv_sub hl [2, 3, 1, 0] rfl)
    · exact absurd c_2 (by decide)
  · have hng : ¬ rok to := hbto.mp (bZ_nf.mp (by assumption))
    refine lv_iconst (v := iZ (1)) hx hb dM_put_8 (by decide) ?_
    refine lv_goto (tgt := 13) hx hb dM_put_9 (by decide) ?_
    refine W.eq (g2 := F0 m 13 ls ([.int (iZ ((1 : Nat) : Int)), .ref B])) rfl ?_
    refine zm_put_thrown (x := 1) hx hb ht hown hK hZ hS tw_677 dM_put_13 (fun H locs hZ hS => ?_)
    have hZ : zMD E B w0 (1, fa, ct, be, fb, sb9, (2049 - st)) H := hZ
    refine lv_aload_n hx hb dM_put_16 rfl (lv_at hl 0 rfl) ?_
    refine zm_thrown hx hb ht hown hK hZ tw_677 dM_put_17 ?_
    refine zc_i (y := iZ (((1 : Nat) : Int))) rfl ?_
    refine zr_if_le (tgt := 24) hx hb (by decide) dM_put_20 (by decide) (fun c_8 => ?_) (fun c_8 => ?_)
    · exact absurd c_8 (by decide)
    · exact hend 23 () _ _ _ dM_put_23 trivial (by obtain ⟨hk, hs⟩ := SP_1 hsp (fun h9 => hng (by first | exact h9 | exact h9.1 | exact h9.2.1 | exact h9.2.2.1 | exact h9.2.2.2.1 | exact h9.2.2.2 | exact h9.2.2 | exact h9.2)); subst hk; subst hs; exact ⟨hok1, w0, (1, fa, ct, be, fb, sb9, (2049 - st)), hZ, ⟨hMR, rfl, hdr, rfl, hpa⟩, rfl⟩) hS

theorem ab_264 {x y : Int} (hx : zX x) (hy : zX y) : x.natAbs + y.natAbs < rP 264 := by
  have h1 := rP_big hx
  have h2 := rP_big hy
  have h3 : rP 128 + rP 128 ≤ rP 264 := by
    have h4 := rP_mono (show 129 ≤ 264 by decide)
    rw [rP_s] at h4
    omega
  omega
theorem zsum_b {x y : Int} {less : Bool} : lfb (decide (x < 0)) x.natAbs + lfb (decide (y < 0) != less) y.natAbs = zsum x y less := by
  rw [lfb_x]
  unfold zsum lfb
  cases less
  · rw [if_neg (show ¬ false = true by decide)]
    by_cases h : y < 0
    · rw [decide_eq_true h, if_pos (by decide)]; omega
    · rw [decide_eq_false h, if_neg (by decide)]; omega
  · rw [if_pos (show true = true from rfl)]
    by_cases h : y < 0
    · rw [decide_eq_true h, if_neg (by decide)]; omega
    · rw [decide_eq_false h, if_pos (by decide)]; omega
set_option maxHeartbeats 4000000 in
set_option maxRecDepth 100000 in
theorem mM_add (l : Launch) (E : zE) (B : Nat) (rg : Nat → Int) (ct : Nat) (f : Nat → Nat) (st : Nat) (g : Nat → Nat) (t0 : Nat) (a : Int) (hz_a : zi a) (b : Int) (hz_b : zi b) (to : Int) (hz_to : zi to) (less : Bool) (k : Nat) (σ1 : zS) (hok1 : okS σ1) (hsp : SP (rok a ∧ rok b ∧ rok to) (False) (¬ zX (zsum (rg a.toNat) (rg b.toNat) less)) (fun τ => zX (zsum (rg a.toNat) (rg b.toNat) less) ∧ τ = (va_up rg to.toNat (zsum (rg a.toNat) (rg b.toNat) less), ct, f, st, g)) (rg, ct, f, st, g) k σ1) :
    Met l yM_add (zws yM_add cM_add 5 none) { frames := 2, cells := 0, slots := 0, locals := 90 } (zPc E (zQM E B (rg, ct, f, st, g) t0) [.ref (B), .int (iZ (a)), .int (iZ (b)), .int (iZ (to)), .int (iZ (bZ less))]) (va_Qv (fun (u : Unit) => True) (fun u t => zQM E B σ1 (tc k) t.heap ∧ zK E t) (zA B 15)) 0 0 (zA B 15) := by
  refine zof_v (P' := fun (u : Unit) H => zQM E B σ1 (tc k) H) (by decide) (Nat.le_of_ble_eq_true rfl) fun p e R s m args below meth c Q ls hR hx hb hml ht hown hK hZ hl hend => ?_
  have hS : va_S (zA B 15) s.heap s.heap [] := va_S.rf
  have hown : s.vm.findClass "WholeDeskModel" = some m.cls := hown
  have hl : lv_has ls 5 [(0, .ref (B)), (1, .int (iZ (a))), (2, .int (iZ (b))), (3, .int (iZ (to))), (4, .int (iZ (bZ less)))] := hl
  obtain ⟨hok, w0, ⟨th, fa, le, be, fb, sb9, pr⟩, hZ, ⟨hMR, hle, hdr, hpr, hpa⟩, hth⟩ := hZ
  dsimp only at *
  rw [hle, hpr] at hZ
  clear hth hle hpr le pr
  refine lv_aload_n hx hb dM_add_0 rfl (lv_at hl 0 rfl) ?_
  refine lv_iload_n hx hb dM_add_1 rfl (lv_at hl 1 rfl) ?_
  refine zcS_i (P' := fun (u : (Nat → Nat → Nat) × zC) H => zMD E B u.1 u.2 H) 1 (As := [.int (iZ (a))]) (rest := [.ref (B)]) ⟨hx, hb, hml, hown, ht⟩ (mM_no l E B w0 (th, fa, ct, be, fb, sb9, (2049 - st)) (a) hz_a) tw_762 tw_760 tw_761 tw_6 qM_no (by rw [hR]; decide) hZ hK hl.1 rfl rfl (Nat.le_of_ble_eq_true rfl) dM_add_2 ⟨Nat.zero_le _, Nat.zero_le _⟩ hS (fun r9 u H locs hp hZ _ hS => ?_)
  obtain ⟨hu9, ba, hr1, hba⟩ := hp
  subst hr1
  rw [hu9] at hZ
  dsimp only at hZ
  clear hu9
  refine zr_if_ne (tgt := 22) hx hb (by have := bZ_01 ba; omega) dM_add_5 (by decide) (fun c_1 => ?_) (fun c_1 => ?_)
  · have hng : ¬ rok a := hba.mp (bZ_nf.mp (by assumption))
    refine lv_iconst (v := iZ (1)) hx hb dM_add_22 (by decide) ?_
    refine lv_goto (tgt := 27) hx hb dM_add_23 (by decide) ?_
    refine W.eq (g2 := F0 m 27 ls ([.int (iZ ((1 : Nat) : Int)), .ref B])) rfl ?_
    refine zm_put_thrown (x := 1) hx hb ht hown hK hZ hS tw_677 dM_add_27 (fun H locs hZ hS => ?_)
    have hZ : zMD E B w0 (1, fa, ct, be, fb, sb9, (2049 - st)) H := hZ
    refine lv_aload_n hx hb dM_add_30 rfl (lv_at hl 0 rfl) ?_
    refine zm_thrown hx hb ht hown hK hZ tw_677 dM_add_31 ?_
    refine zc_i (y := iZ (((1 : Nat) : Int))) rfl ?_
    refine zr_if_le (tgt := 38) hx hb (by decide) dM_add_34 (by decide) (fun c_2 => ?_) (fun c_2 => ?_)
    · exact absurd c_2 (by decide)
    · exact hend 37 () _ _ _ dM_add_37 trivial (by obtain ⟨hk, hs⟩ := SP_1 hsp (fun h9 => hng (by first | exact h9 | exact h9.1 | exact h9.2.1 | exact h9.2.2.1 | exact h9.2.2.2.1 | exact h9.2.2.2 | exact h9.2.2 | exact h9.2)); subst hk; subst hs; exact ⟨hok1, w0, (1, fa, ct, be, fb, sb9, (2049 - st)), hZ, ⟨hMR, rfl, hdr, rfl, hpa⟩, rfl⟩) hS
  · have hk_na : rok a := Classical.byContradiction (fun h9 => absurd (hba.mpr h9) (by rw [show ba = false from bZ_f.mp (by assumption)]; decide))
    obtain ⟨na, rfl⟩ : ∃ n9 : Nat, a = (n9 : Int) := ⟨a.toNat, by have := hk_na.1; omega⟩
    have h10_na : na < 10 := by have := hk_na.2; omega
    refine lv_iload_n hx hb dM_add_8 rfl (lv_at hl 2 rfl) ?_
    refine zcS_i (P' := fun (u : (Nat → Nat → Nat) × zC) H => zMD E B u.1 u.2 H) 1 (As := [.int (iZ (b))]) (rest := [.ref (B)]) ⟨hx, hb, hml, hown, ht⟩ (mM_no l E B w0 (th, fa, ct, be, fb, sb9, (2049 - st)) (b) hz_b) tw_762 tw_760 tw_761 tw_6 qM_no (by rw [hR]; decide) hZ hK hl.1 rfl rfl (Nat.le_of_ble_eq_true rfl) dM_add_9 ⟨Nat.zero_le _, Nat.zero_le _⟩ hS (fun r9 u H locs hp hZ _ hS => ?_)
    obtain ⟨hu9, bb, hr1, hbb⟩ := hp
    subst hr1
    rw [hu9] at hZ
    dsimp only at hZ
    clear hu9
    refine zr_if_ne (tgt := 22) hx hb (by have := bZ_01 bb; omega) dM_add_12 (by decide) (fun c_3 => ?_) (fun c_3 => ?_)
    · have hng : ¬ rok b := hbb.mp (bZ_nf.mp (by assumption))
      refine lv_iconst (v := iZ (1)) hx hb dM_add_22 (by decide) ?_
      refine lv_goto (tgt := 27) hx hb dM_add_23 (by decide) ?_
      refine W.eq (g2 := F0 m 27 ls ([.int (iZ ((1 : Nat) : Int)), .ref B])) rfl ?_
      refine zm_put_thrown (x := 1) hx hb ht hown hK hZ hS tw_677 dM_add_27 (fun H locs hZ hS => ?_)
      have hZ : zMD E B w0 (1, fa, ct, be, fb, sb9, (2049 - st)) H := hZ
      refine lv_aload_n hx hb dM_add_30 rfl (lv_at hl 0 rfl) ?_
      refine zm_thrown hx hb ht hown hK hZ tw_677 dM_add_31 ?_
      refine zc_i (y := iZ (((1 : Nat) : Int))) rfl ?_
      refine zr_if_le (tgt := 38) hx hb (by decide) dM_add_34 (by decide) (fun c_4 => ?_) (fun c_4 => ?_)
      · exact absurd c_4 (by decide)
      · exact hend 37 () _ _ _ dM_add_37 trivial (by obtain ⟨hk, hs⟩ := SP_1 hsp (fun h9 => hng (by first | exact h9 | exact h9.1 | exact h9.2.1 | exact h9.2.2.1 | exact h9.2.2.2.1 | exact h9.2.2.2 | exact h9.2.2 | exact h9.2)); subst hk; subst hs; exact ⟨hok1, w0, (1, fa, ct, be, fb, sb9, (2049 - st)), hZ, ⟨hMR, rfl, hdr, rfl, hpa⟩, rfl⟩) hS
    · have hk_nb : rok b := Classical.byContradiction (fun h9 => absurd (hbb.mpr h9) (by rw [show bb = false from bZ_f.mp (by assumption)]; decide))
      obtain ⟨nb, rfl⟩ : ∃ n9 : Nat, b = (n9 : Int) := ⟨b.toNat, by have := hk_nb.1; omega⟩
      have h10_nb : nb < 10 := by have := hk_nb.2; omega
      refine lv_iload_n hx hb dM_add_15 rfl (lv_at hl 3 rfl) ?_
      refine zcS_i (P' := fun (u : (Nat → Nat → Nat) × zC) H => zMD E B u.1 u.2 H) 1 (As := [.int (iZ (to))]) (rest := [.ref (B)]) ⟨hx, hb, hml, hown, ht⟩ (mM_no l E B w0 (th, fa, ct, be, fb, sb9, (2049 - st)) (to) hz_to) tw_762 tw_760 tw_761 tw_6 qM_no (by rw [hR]; decide) hZ hK hl.1 rfl rfl (Nat.le_of_ble_eq_true rfl) dM_add_16 ⟨Nat.zero_le _, Nat.zero_le _⟩ hS (fun r9 u H locs hp hZ _ hS => ?_)
      obtain ⟨hu9, bto, hr1, hbto⟩ := hp
      subst hr1
      rw [hu9] at hZ
      dsimp only at hZ
      clear hu9
      refine zr_if_eq (tgt := 26) hx hb (by have := bZ_01 bto; omega) dM_add_19 (by decide) (fun c_5 => ?_) (fun c_5 => ?_)
      · have hk_nto : rok to := Classical.byContradiction (fun h9 => absurd (hbto.mpr h9) (by rw [show bto = false from bZ_f.mp (by assumption)]; decide))
        obtain ⟨nto, rfl⟩ : ∃ n9 : Nat, to = (n9 : Int) := ⟨to.toNat, by have := hk_nto.1; omega⟩
        have h10_nto : nto < 10 := by have := hk_nto.2; omega
        refine lv_iconst (v := iZ (0)) hx hb dM_add_26 (by decide) ?_
        refine W.eq (g2 := F0 m 27 ls ([.int (iZ ((0 : Nat) : Int)), .ref B])) rfl ?_
        refine zm_put_thrown (x := 0) hx hb ht hown hK hZ hS tw_677 dM_add_27 (fun H locs hZ hS => ?_)
        have hZ : zMD E B w0 (0, fa, ct, be, fb, sb9, (2049 - st)) H := hZ
        refine lv_aload_n hx hb dM_add_30 rfl (lv_at hl 0 rfl) ?_
        refine zm_thrown hx hb ht hown hK hZ tw_677 dM_add_31 ?_
        refine zc_i (y := iZ (((0 : Nat) : Int))) rfl ?_
        refine zr_if_le (tgt := 38) hx hb (by decide) dM_add_34 (by decide) (fun c_6 => ?_) (fun c_6 => ?_)
        · refine lv_aload_n hx hb dM_add_38 rfl (lv_at hl 0 rfl) ?_
          refine lv_iconst (v := iZ (2)) hx hb dM_add_39 (by decide) ?_
          refine W.eq (g2 := F0 m 40 ls ([.int (iZ ((2 : Nat) : Int)), .ref B])) rfl ?_
          refine zm_put_fault (x := 2) hx hb ht hown hK hZ hS tw_678 dM_add_40 (fun H locs hZ hS => ?_)
          have hZ : zMD E B w0 (0, 2, ct, be, fb, sb9, (2049 - st)) H := hZ
          refine lv_aload_n hx hb dM_add_43 rfl (lv_at hl 0 rfl) ?_
          refine lv_iload_n hx hb dM_add_44 rfl (lv_at hl 1 rfl) ?_
          refine lv_aload_n hx hb dM_add_45 rfl (lv_at hl 0 rfl) ?_
          refine zm_one hx hb ht hown hK hZ tw_689 dM_add_46 ?_
          refine zcV_v (P' := fun (u : (Nat → Nat → Nat) × zC) H => zMD E B u.1 u.2 H) 2 (As := [.int (iZ (↑na)), .ref (B + 9)]) (rest := []) rfl ⟨hx, hb, hml, hown, ht⟩ (mM_take l E B w0 (0, 2, ct, be, fb, sb9, (2049 - st)) na h10_na 9 (by decide) 264 rfl (by decide)) tw_791 tw_788 tw_790 tp_13 tw_6 qM_take (by rw [hR]; decide) (zm_recv hK hZ) hZ hK hl.1 rfl rfl (Nat.le_of_ble_eq_true rfl) dM_add_49 ⟨Nat.zero_le _, Nat.zero_le _⟩ hS (fun u H locs hp hZ _ hS => ?_)
          obtain ⟨w, q9⟩ := u
          obtain ⟨ho, hq9, hcp⟩ := hp
          dsimp only at *
          rw [hq9] at hZ
          have htk := take_val hcp (hMR na h10_na).1
          replace hMR : MR w rg := MR_same (ho 2 (by decide)) (ho 3 (by decide)) hMR
          replace hdr : ∀ i, i < ct → w 1 i = f i := fun i hi => by rw [ho 1 (by decide)]; exact hdr i hi
          replace hpa : ∀ i, i < 2049 - st → w 14 i = g (st + i) := fun i hi => by rw [ho 14 (by decide)]; exact hpa i hi
          have hv_9 : rv (w 9) 264 = (rg na).natAbs := htk
          clear htk
          refine lv_aload_n hx hb dM_add_52 rfl (lv_at hl 0 rfl) ?_
          refine lv_iload_n hx hb dM_add_53 rfl (lv_at hl 2 rfl) ?_
          refine lv_aload_n hx hb dM_add_54 rfl (lv_at hl 0 rfl) ?_
          refine zm_two hx hb ht hown hK hZ tw_690 dM_add_55 ?_
          refine zcV_v (P' := fun (u : (Nat → Nat → Nat) × zC) H => zMD E B u.1 u.2 H) 2 (As := [.int (iZ (↑nb)), .ref (B + 10)]) (rest := []) rfl ⟨hx, hb, hml, hown, ht⟩ (mM_take l E B w (0, 2, ct, be, fb, sb9, (2049 - st)) nb h10_nb 10 (by decide) 264 rfl (by decide)) tw_791 tw_788 tw_790 tp_13 tw_6 qM_take (by rw [hR]; decide) (zm_recv hK hZ) hZ hK hl.1 rfl rfl (Nat.le_of_ble_eq_true rfl) dM_add_58 ⟨Nat.zero_le _, Nat.zero_le _⟩ hS (fun u H locs hp hZ _ hS => ?_)
          obtain ⟨w, q9⟩ := u
          obtain ⟨ho, hq9, hcp⟩ := hp
          dsimp only at *
          rw [hq9] at hZ
          have htk := take_val hcp (hMR nb h10_nb).1
          replace hMR : MR w rg := MR_same (ho 2 (by decide)) (ho 3 (by decide)) hMR
          replace hdr : ∀ i, i < ct → w 1 i = f i := fun i hi => by rw [ho 1 (by decide)]; exact hdr i hi
          replace hpa : ∀ i, i < 2049 - st → w 14 i = g (st + i) := fun i hi => by rw [ho 14 (by decide)]; exact hpa i hi
          replace hv_9 : rv (w 9) 264 = (rg na).natAbs := by rw [ho 9 (by decide)]; exact hv_9
          have hv_10 : rv (w 10) 264 = (rg nb).natAbs := htk
          clear htk
          refine lv_aload_n hx hb dM_add_61 rfl (lv_at hl 0 rfl) ?_
          refine lv_aload_n hx hb dM_add_62 rfl (lv_at hl 0 rfl) ?_
          refine zm_one hx hb ht hown hK hZ tw_689 dM_add_63 ?_
          refine lv_aload_n hx hb dM_add_66 rfl (lv_at hl 0 rfl) ?_
          refine zm_minus hx hb ht hown hK hZ tw_682 dM_add_67 ?_
          refine lv_iload_n hx hb dM_add_70 rfl (lv_at hl 1 rfl) ?_
          refine zm_ldz (i := na) hx hb hK hZ (by omega) dM_add_71 ?_
          rw [show ((w 3 na : Nat) : Int) = bZ (decide (rg na < 0)) from by rw [show w 3 na = bN (decide (rg na < 0)) from (hMR na h10_na).2, bN_Z]]
          refine lv_aload_n hx hb dM_add_72 rfl (lv_at hl 0 rfl) ?_
          refine zm_two hx hb ht hown hK hZ tw_690 dM_add_73 ?_
          refine lv_aload_n hx hb dM_add_76 rfl (lv_at hl 0 rfl) ?_
          refine zm_minus hx hb ht hown hK hZ tw_682 dM_add_77 ?_
          refine lv_iload_n hx hb dM_add_80 rfl (lv_at hl 2 rfl) ?_
          refine zm_ldz (i := nb) hx hb hK hZ (by omega) dM_add_81 ?_
          rw [show ((w 3 nb : Nat) : Int) = bZ (decide (rg nb < 0)) from by rw [show w 3 nb = bN (decide (rg nb < 0)) from (hMR nb h10_nb).2, bN_Z]]
          refine lv_iload hx hb dM_add_82 (lv_at hl 4 rfl) ?_
          refine zr_icmp_eq (tgt := 91) hx hb (by have := bZ_01 (decide (rg nb < 0)); omega) (by have := bZ_01 less; omega) dM_add_84 (by decide) (fun c_7 => ?_) (fun c_7 => ?_)
          · refine lv_iconst (v := iZ (0)) hx hb dM_add_91 (by decide) ?_
            refine zc_i (y := iZ (bZ (decide (rg nb < 0) != less))) (congrArg iZ (by rw [show decide (rg nb < 0) = less from bZ_eq.mp (by assumption)]; cases less <;> rfl)) ?_
            refine zcV_v (P' := fun (u : (Nat → Nat → Nat) × zC) H => zMD E B u.1 u.2 H) 4 (As := [.ref (B + 9), .int (iZ (bZ (decide (rg na < 0)))), .ref (B + 10), .int (iZ (bZ (decide (rg nb < 0) != less)))]) (rest := []) rfl ⟨hx, hb, hml, hown, ht⟩ (mM_sum l E B w (0, 2, ct, be, fb, sb9, (2049 - st)) 9 (by decide) 10 (by decide) rfl rfl (by decide) (by decide) (decide (rg na < 0)) (decide (rg nb < 0) != less) (by rw [hv_9, hv_10]; exact ab_264 (hok.1 na h10_na) (hok.1 nb h10_nb))) tw_795 tw_792 tw_794 tp_14 tw_6 qM_sum (by rw [hR]; decide) (zm_recv hK hZ) hZ hK hl.1 rfl rfl (Nat.le_of_ble_eq_true rfl) dM_add_92 ⟨Nat.zero_le _, Nat.zero_le _⟩ hS (fun u H locs hp hZ _ hS => ?_)
            obtain ⟨w, q9⟩ := u
            obtain ⟨ho, be9, hq9, hsv⟩ := hp
            dsimp only at *
            rw [hq9] at hZ
            rw [hv_9, hv_10] at hsv
            obtain ⟨X9, hX9⟩ : ∃ q, rv (w 4) 264 = q := ⟨_, rfl⟩
            rw [hX9] at hsv
            replace hMR : MR w rg := MR_same (ho 2 (by decide)) (ho 3 (by decide)) hMR
            replace hdr : ∀ i, i < ct → w 1 i = f i := fun i hi => by rw [ho 1 (by decide)]; exact hdr i hi
            replace hpa : ∀ i, i < 2049 - st → w 14 i = g (st + i) := fun i hi => by rw [ho 14 (by decide)]; exact hpa i hi
            replace hv_9 : rv (w 9) 264 = (rg na).natAbs := by rw [ho 9 (by decide)]; exact hv_9
            replace hv_10 : rv (w 10) 264 = (rg nb).natAbs := by rw [ho 10 (by decide)]; exact hv_10
            have hv_4 : rv (w 4) 264 = X9 := hX9
            clear hX9
            have hZ : zMD E B w (0, 2, ct, be9, fb, sb9, (2049 - st)) H := hZ
            refine lv_aload_n hx hb dM_add_95 rfl (lv_at hl 0 rfl) ?_
            refine lv_iload_n hx hb dM_add_96 rfl (lv_at hl 3 rfl) ?_
            refine zcV_v (P' := fun (u : (Nat → Nat → Nat) × zC) H => zMD E B u.1 u.2 H) 1 (As := [.int (iZ (↑nto))]) (rest := []) rfl ⟨hx, hb, hml, hown, ht⟩ (mM_store l E B w (0, 2, ct, be9, fb, sb9, (2049 - st)) nto h10_nto rg hMR) tw_779 tw_776 tw_778 tp_12 tw_6 qM_store (by rw [hR]; decide) (zm_recv hK hZ) hZ hK hl.1 rfl rfl (Nat.le_of_ble_eq_true rfl) dM_add_97 ⟨Nat.zero_le _, Nat.zero_le _⟩ hS (fun u H locs hp hZ _ hS => ?_)
            obtain ⟨w, q9⟩ := u
            obtain ⟨ho, hbig, hfit⟩ := hp
            dsimp only at *
            rw [hv_4] at hbig hfit
            have hzz : (if be9 = true then -(((X9 : Nat) : Int)) else ((X9 : Nat) : Int)) = zsum (rg na) (rg nb) less := by rw [← zsum_b]; exact hsv
            have hzX : zX (zsum (rg na) (rg nb) less) ↔ X9 < rP 128 := by rw [← hzz]; exact zX_if
            rcases Nat.lt_or_ge (X9) (rP 128) with hX | hX
            · obtain ⟨hq9, hMR9⟩ := hfit hX
              rw [hq9] at hZ
              rw [hzz] at hMR9
              have hzx := hzX.mpr hX
              replace hdr : ∀ i, i < ct → w 1 i = f i := fun i hi => by rw [ho 1 (by decide) (by decide)]; exact hdr i hi
              replace hpa : ∀ i, i < 2049 - st → w 14 i = g (st + i) := fun i hi => by rw [ho 14 (by decide) (by decide)]; exact hpa i hi
              replace hv_9 : rv (w 9) 264 = (rg na).natAbs := by rw [ho 9 (by decide) (by decide)]; exact hv_9
              replace hv_10 : rv (w 10) 264 = (rg nb).natAbs := by rw [ho 10 (by decide) (by decide)]; exact hv_10
              replace hv_4 : rv (w 4) 264 = X9 := by rw [ho 4 (by decide) (by decide)]; exact hv_4
              have hMR : MR w (va_up rg nto (zsum (rg na) (rg nb) less)) := hMR9
              exact hend 100 () _ _ _ dM_add_100 trivial (by rcases SP_g hsp ⟨hk_na, hk_nb, hk_nto⟩ with ⟨_, h, _⟩ | ⟨_, h, _⟩ | ⟨hk, _, hs⟩; exact h.elim; exact absurd hzx h; subst hk; subst hs; exact ⟨hok1, w, (0, 2, ct, be9, fb, sb9, (2049 - st)), hZ, ⟨hMR, rfl, hdr, rfl, hpa⟩, rfl⟩) hS
            · obtain ⟨e1, e2⟩ := Prod.mk.inj (hbig hX)
              rw [e2] at hZ
              rw [← e1] at hMR hdr hpa
              have hzx : ¬ zX (zsum (rg na) (rg nb) less) := fun h9 => absurd (hzX.mp h9) (Nat.not_lt.mpr hX)
              have hZ : zMD E B w (2, 2, ct, be9, fb, sb9, (2049 - st)) H := hZ
              exact hend 100 () _ _ _ dM_add_100 trivial (by rcases SP_g hsp ⟨hk_na, hk_nb, hk_nto⟩ with ⟨_, h, _⟩ | ⟨hk, h, hs⟩ | ⟨_, h, _⟩; exact h.elim; subst hk; subst hs; exact ⟨hok1, w, (2, 2, ct, be9, fb, sb9, (2049 - st)), hZ, ⟨hMR, rfl, hdr, rfl, hpa⟩, rfl⟩; exact absurd h hzx) hS
          · refine lv_iconst (v := iZ (1)) hx hb dM_add_87 (by decide) ?_
            refine lv_goto (tgt := 92) hx hb dM_add_88 (by decide) ?_
            refine zc_i (y := iZ (bZ (decide (rg nb < 0) != less))) (congrArg iZ (by have h9 : decide (rg nb < 0) ≠ less := fun h => absurd (bZ_eq.mpr h) (by assumption); revert h9; cases decide (rg nb < 0) <;> cases less <;> decide)) ?_
            refine zcV_v (P' := fun (u : (Nat → Nat → Nat) × zC) H => zMD E B u.1 u.2 H) 4 (As := [.ref (B + 9), .int (iZ (bZ (decide (rg na < 0)))), .ref (B + 10), .int (iZ (bZ (decide (rg nb < 0) != less)))]) (rest := []) rfl ⟨hx, hb, hml, hown, ht⟩ (mM_sum l E B w (0, 2, ct, be, fb, sb9, (2049 - st)) 9 (by decide) 10 (by decide) rfl rfl (by decide) (by decide) (decide (rg na < 0)) (decide (rg nb < 0) != less) (by rw [hv_9, hv_10]; exact ab_264 (hok.1 na h10_na) (hok.1 nb h10_nb))) tw_795 tw_792 tw_794 tp_14 tw_6 qM_sum (by rw [hR]; decide) (zm_recv hK hZ) hZ hK hl.1 rfl rfl (Nat.le_of_ble_eq_true rfl) dM_add_92 ⟨Nat.zero_le _, Nat.zero_le _⟩ hS (fun u H locs hp hZ _ hS => ?_)
            obtain ⟨w, q9⟩ := u
            obtain ⟨ho, be9, hq9, hsv⟩ := hp
            dsimp only at *
            rw [hq9] at hZ
            rw [hv_9, hv_10] at hsv
            obtain ⟨X9, hX9⟩ : ∃ q, rv (w 4) 264 = q := ⟨_, rfl⟩
            rw [hX9] at hsv
            replace hMR : MR w rg := MR_same (ho 2 (by decide)) (ho 3 (by decide)) hMR
            replace hdr : ∀ i, i < ct → w 1 i = f i := fun i hi => by rw [ho 1 (by decide)]; exact hdr i hi
            replace hpa : ∀ i, i < 2049 - st → w 14 i = g (st + i) := fun i hi => by rw [ho 14 (by decide)]; exact hpa i hi
            replace hv_9 : rv (w 9) 264 = (rg na).natAbs := by rw [ho 9 (by decide)]; exact hv_9
            replace hv_10 : rv (w 10) 264 = (rg nb).natAbs := by rw [ho 10 (by decide)]; exact hv_10
            have hv_4 : rv (w 4) 264 = X9 := hX9
            clear hX9
            have hZ : zMD E B w (0, 2, ct, be9, fb, sb9, (2049 - st)) H := hZ
            refine lv_aload_n hx hb dM_add_95 rfl (lv_at hl 0 rfl) ?_
            refine lv_iload_n hx hb dM_add_96 rfl (lv_at hl 3 rfl) ?_
            refine zcV_v (P' := fun (u : (Nat → Nat → Nat) × zC) H => zMD E B u.1 u.2 H) 1 (As := [.int (iZ (↑nto))]) (rest := []) rfl ⟨hx, hb, hml, hown, ht⟩ (mM_store l E B w (0, 2, ct, be9, fb, sb9, (2049 - st)) nto h10_nto rg hMR) tw_779 tw_776 tw_778 tp_12 tw_6 qM_store (by rw [hR]; decide) (zm_recv hK hZ) hZ hK hl.1 rfl rfl (Nat.le_of_ble_eq_true rfl) dM_add_97 ⟨Nat.zero_le _, Nat.zero_le _⟩ hS (fun u H locs hp hZ _ hS => ?_)
            obtain ⟨w, q9⟩ := u
            obtain ⟨ho, hbig, hfit⟩ := hp
            dsimp only at *
            rw [hv_4] at hbig hfit
            have hzz : (if be9 = true then -(((X9 : Nat) : Int)) else ((X9 : Nat) : Int)) = zsum (rg na) (rg nb) less := by rw [← zsum_b]; exact hsv
            have hzX : zX (zsum (rg na) (rg nb) less) ↔ X9 < rP 128 := by rw [← hzz]; exact zX_if
            rcases Nat.lt_or_ge (X9) (rP 128) with hX | hX
            · obtain ⟨hq9, hMR9⟩ := hfit hX
              rw [hq9] at hZ
              rw [hzz] at hMR9
              have hzx := hzX.mpr hX
              replace hdr : ∀ i, i < ct → w 1 i = f i := fun i hi => by rw [ho 1 (by decide) (by decide)]; exact hdr i hi
              replace hpa : ∀ i, i < 2049 - st → w 14 i = g (st + i) := fun i hi => by rw [ho 14 (by decide) (by decide)]; exact hpa i hi
              replace hv_9 : rv (w 9) 264 = (rg na).natAbs := by rw [ho 9 (by decide) (by decide)]; exact hv_9
              replace hv_10 : rv (w 10) 264 = (rg nb).natAbs := by rw [ho 10 (by decide) (by decide)]; exact hv_10
              replace hv_4 : rv (w 4) 264 = X9 := by rw [ho 4 (by decide) (by decide)]; exact hv_4
              have hMR : MR w (va_up rg nto (zsum (rg na) (rg nb) less)) := hMR9
              exact hend 100 () _ _ _ dM_add_100 trivial (by rcases SP_g hsp ⟨hk_na, hk_nb, hk_nto⟩ with ⟨_, h, _⟩ | ⟨_, h, _⟩ | ⟨hk, _, hs⟩; exact h.elim; exact absurd hzx h; subst hk; subst hs; exact ⟨hok1, w, (0, 2, ct, be9, fb, sb9, (2049 - st)), hZ, ⟨hMR, rfl, hdr, rfl, hpa⟩, rfl⟩) hS
            · obtain ⟨e1, e2⟩ := Prod.mk.inj (hbig hX)
              rw [e2] at hZ
              rw [← e1] at hMR hdr hpa
              have hzx : ¬ zX (zsum (rg na) (rg nb) less) := fun h9 => absurd (hzX.mp h9) (Nat.not_lt.mpr hX)
              have hZ : zMD E B w (2, 2, ct, be9, fb, sb9, (2049 - st)) H := hZ
              exact hend 100 () _ _ _ dM_add_100 trivial (by rcases SP_g hsp ⟨hk_na, hk_nb, hk_nto⟩ with ⟨_, h, _⟩ | ⟨hk, h, hs⟩ | ⟨_, h, _⟩; exact h.elim; subst hk; subst hs; exact ⟨hok1, w, (2, 2, ct, be9, fb, sb9, (2049 - st)), hZ, ⟨hMR, rfl, hdr, rfl, hpa⟩, rfl⟩; exact absurd h hzx) hS
        · exact absurd c_6 (by decide)
      · have hng : ¬ rok to := hbto.mp (bZ_nf.mp (by assumption))
        refine lv_iconst (v := iZ (1)) hx hb dM_add_22 (by decide) ?_
        refine lv_goto (tgt := 27) hx hb dM_add_23 (by decide) ?_
        refine W.eq (g2 := F0 m 27 ls ([.int (iZ ((1 : Nat) : Int)), .ref B])) rfl ?_
        refine zm_put_thrown (x := 1) hx hb ht hown hK hZ hS tw_677 dM_add_27 (fun H locs hZ hS => ?_)
        have hZ : zMD E B w0 (1, fa, ct, be, fb, sb9, (2049 - st)) H := hZ
        refine lv_aload_n hx hb dM_add_30 rfl (lv_at hl 0 rfl) ?_
        refine zm_thrown hx hb ht hown hK hZ tw_677 dM_add_31 ?_
        refine zc_i (y := iZ (((1 : Nat) : Int))) rfl ?_
        refine zr_if_le (tgt := 38) hx hb (by decide) dM_add_34 (by decide) (fun c_8 => ?_) (fun c_8 => ?_)
        · exact absurd c_8 (by decide)
        · exact hend 37 () _ _ _ dM_add_37 trivial (by obtain ⟨hk, hs⟩ := SP_1 hsp (fun h9 => hng (by first | exact h9 | exact h9.1 | exact h9.2.1 | exact h9.2.2.1 | exact h9.2.2.2.1 | exact h9.2.2.2 | exact h9.2.2 | exact h9.2)); subst hk; subst hs; exact ⟨hok1, w0, (1, fa, ct, be, fb, sb9, (2049 - st)), hZ, ⟨hMR, rfl, hdr, rfl, hpa⟩, rfl⟩) hS

set_option maxHeartbeats 4000000 in
set_option maxRecDepth 100000 in
theorem mM_multiply (l : Launch) (E : zE) (B : Nat) (rg : Nat → Int) (ct : Nat) (f : Nat → Nat) (st : Nat) (g : Nat → Nat) (t0 : Nat) (a : Int) (hz_a : zi a) (b : Int) (hz_b : zi b) (to : Int) (hz_to : zi to) (k : Nat) (σ1 : zS) (hok1 : okS σ1) (hsp : SP (rok a ∧ rok b ∧ rok to) (False) (¬ zX (rg a.toNat * rg b.toNat)) (fun τ => zX (rg a.toNat * rg b.toNat) ∧ τ = (va_up rg to.toNat (rg a.toNat * rg b.toNat), ct, f, st, g)) (rg, ct, f, st, g) k σ1) :
    Met l yM_multiply (zws yM_multiply cM_multiply 4 none) { frames := 2, cells := 0, slots := 0, locals := 90 } (zPc E (zQM E B (rg, ct, f, st, g) t0) [.ref (B), .int (iZ (a)), .int (iZ (b)), .int (iZ (to))]) (va_Qv (fun (u : Unit) => True) (fun u t => zQM E B σ1 (tc k) t.heap ∧ zK E t) (zA B 15)) 0 0 (zA B 15) := by
  refine zof_v (P' := fun (u : Unit) H => zQM E B σ1 (tc k) H) (by decide) (Nat.le_of_ble_eq_true rfl) fun p e R s m args below meth c Q ls hR hx hb hml ht hown hK hZ hl hend => ?_
  have hS : va_S (zA B 15) s.heap s.heap [] := va_S.rf
  have hown : s.vm.findClass "WholeDeskModel" = some m.cls := hown
  have hl : lv_has ls 4 [(0, .ref (B)), (1, .int (iZ (a))), (2, .int (iZ (b))), (3, .int (iZ (to)))] := hl
  obtain ⟨hok, w0, ⟨th, fa, le, be, fb, sb9, pr⟩, hZ, ⟨hMR, hle, hdr, hpr, hpa⟩, hth⟩ := hZ
  dsimp only at *
  rw [hle, hpr] at hZ
  clear hth hle hpr le pr
  refine lv_aload_n hx hb dM_multiply_0 rfl (lv_at hl 0 rfl) ?_
  refine lv_iload_n hx hb dM_multiply_1 rfl (lv_at hl 1 rfl) ?_
  refine zcS_i (P' := fun (u : (Nat → Nat → Nat) × zC) H => zMD E B u.1 u.2 H) 1 (As := [.int (iZ (a))]) (rest := [.ref (B)]) ⟨hx, hb, hml, hown, ht⟩ (mM_no l E B w0 (th, fa, ct, be, fb, sb9, (2049 - st)) (a) hz_a) tw_762 tw_760 tw_761 tw_6 qM_no (by rw [hR]; decide) hZ hK hl.1 rfl rfl (Nat.le_of_ble_eq_true rfl) dM_multiply_2 ⟨Nat.zero_le _, Nat.zero_le _⟩ hS (fun r9 u H locs hp hZ _ hS => ?_)
  obtain ⟨hu9, ba, hr1, hba⟩ := hp
  subst hr1
  rw [hu9] at hZ
  dsimp only at hZ
  clear hu9
  refine zr_if_ne (tgt := 22) hx hb (by have := bZ_01 ba; omega) dM_multiply_5 (by decide) (fun c_1 => ?_) (fun c_1 => ?_)
  · have hng : ¬ rok a := hba.mp (bZ_nf.mp (by assumption))
    refine lv_iconst (v := iZ (1)) hx hb dM_multiply_22 (by decide) ?_
    refine lv_goto (tgt := 27) hx hb dM_multiply_23 (by decide) ?_
    refine W.eq (g2 := F0 m 27 ls ([.int (iZ ((1 : Nat) : Int)), .ref B])) rfl ?_
    refine zm_put_thrown (x := 1) hx hb ht hown hK hZ hS tw_677 dM_multiply_27 (fun H locs hZ hS => ?_)
    have hZ : zMD E B w0 (1, fa, ct, be, fb, sb9, (2049 - st)) H := hZ
    refine lv_aload_n hx hb dM_multiply_30 rfl (lv_at hl 0 rfl) ?_
    refine zm_thrown hx hb ht hown hK hZ tw_677 dM_multiply_31 ?_
    refine zc_i (y := iZ (((1 : Nat) : Int))) rfl ?_
    refine zr_if_le (tgt := 38) hx hb (by decide) dM_multiply_34 (by decide) (fun c_2 => ?_) (fun c_2 => ?_)
    · exact absurd c_2 (by decide)
    · exact hend 37 () _ _ _ dM_multiply_37 trivial (by obtain ⟨hk, hs⟩ := SP_1 hsp (fun h9 => hng (by first | exact h9 | exact h9.1 | exact h9.2.1 | exact h9.2.2.1 | exact h9.2.2.2.1 | exact h9.2.2.2 | exact h9.2.2 | exact h9.2)); subst hk; subst hs; exact ⟨hok1, w0, (1, fa, ct, be, fb, sb9, (2049 - st)), hZ, ⟨hMR, rfl, hdr, rfl, hpa⟩, rfl⟩) hS
  · have hk_na : rok a := Classical.byContradiction (fun h9 => absurd (hba.mpr h9) (by rw [show ba = false from bZ_f.mp (by assumption)]; decide))
    obtain ⟨na, rfl⟩ : ∃ n9 : Nat, a = (n9 : Int) := ⟨a.toNat, by have := hk_na.1; omega⟩
    have h10_na : na < 10 := by have := hk_na.2; omega
    refine lv_iload_n hx hb dM_multiply_8 rfl (lv_at hl 2 rfl) ?_
    refine zcS_i (P' := fun (u : (Nat → Nat → Nat) × zC) H => zMD E B u.1 u.2 H) 1 (As := [.int (iZ (b))]) (rest := [.ref (B)]) ⟨hx, hb, hml, hown, ht⟩ (mM_no l E B w0 (th, fa, ct, be, fb, sb9, (2049 - st)) (b) hz_b) tw_762 tw_760 tw_761 tw_6 qM_no (by rw [hR]; decide) hZ hK hl.1 rfl rfl (Nat.le_of_ble_eq_true rfl) dM_multiply_9 ⟨Nat.zero_le _, Nat.zero_le _⟩ hS (fun r9 u H locs hp hZ _ hS => ?_)
    obtain ⟨hu9, bb, hr1, hbb⟩ := hp
    subst hr1
    rw [hu9] at hZ
    dsimp only at hZ
    clear hu9
    refine zr_if_ne (tgt := 22) hx hb (by have := bZ_01 bb; omega) dM_multiply_12 (by decide) (fun c_3 => ?_) (fun c_3 => ?_)
    · have hng : ¬ rok b := hbb.mp (bZ_nf.mp (by assumption))
      refine lv_iconst (v := iZ (1)) hx hb dM_multiply_22 (by decide) ?_
      refine lv_goto (tgt := 27) hx hb dM_multiply_23 (by decide) ?_
      refine W.eq (g2 := F0 m 27 ls ([.int (iZ ((1 : Nat) : Int)), .ref B])) rfl ?_
      refine zm_put_thrown (x := 1) hx hb ht hown hK hZ hS tw_677 dM_multiply_27 (fun H locs hZ hS => ?_)
      have hZ : zMD E B w0 (1, fa, ct, be, fb, sb9, (2049 - st)) H := hZ
      refine lv_aload_n hx hb dM_multiply_30 rfl (lv_at hl 0 rfl) ?_
      refine zm_thrown hx hb ht hown hK hZ tw_677 dM_multiply_31 ?_
      refine zc_i (y := iZ (((1 : Nat) : Int))) rfl ?_
      refine zr_if_le (tgt := 38) hx hb (by decide) dM_multiply_34 (by decide) (fun c_4 => ?_) (fun c_4 => ?_)
      · exact absurd c_4 (by decide)
      · exact hend 37 () _ _ _ dM_multiply_37 trivial (by obtain ⟨hk, hs⟩ := SP_1 hsp (fun h9 => hng (by first | exact h9 | exact h9.1 | exact h9.2.1 | exact h9.2.2.1 | exact h9.2.2.2.1 | exact h9.2.2.2 | exact h9.2.2 | exact h9.2)); subst hk; subst hs; exact ⟨hok1, w0, (1, fa, ct, be, fb, sb9, (2049 - st)), hZ, ⟨hMR, rfl, hdr, rfl, hpa⟩, rfl⟩) hS
    · have hk_nb : rok b := Classical.byContradiction (fun h9 => absurd (hbb.mpr h9) (by rw [show bb = false from bZ_f.mp (by assumption)]; decide))
      obtain ⟨nb, rfl⟩ : ∃ n9 : Nat, b = (n9 : Int) := ⟨b.toNat, by have := hk_nb.1; omega⟩
      have h10_nb : nb < 10 := by have := hk_nb.2; omega
      refine lv_iload_n hx hb dM_multiply_15 rfl (lv_at hl 3 rfl) ?_
      refine zcS_i (P' := fun (u : (Nat → Nat → Nat) × zC) H => zMD E B u.1 u.2 H) 1 (As := [.int (iZ (to))]) (rest := [.ref (B)]) ⟨hx, hb, hml, hown, ht⟩ (mM_no l E B w0 (th, fa, ct, be, fb, sb9, (2049 - st)) (to) hz_to) tw_762 tw_760 tw_761 tw_6 qM_no (by rw [hR]; decide) hZ hK hl.1 rfl rfl (Nat.le_of_ble_eq_true rfl) dM_multiply_16 ⟨Nat.zero_le _, Nat.zero_le _⟩ hS (fun r9 u H locs hp hZ _ hS => ?_)
      obtain ⟨hu9, bto, hr1, hbto⟩ := hp
      subst hr1
      rw [hu9] at hZ
      dsimp only at hZ
      clear hu9
      refine zr_if_eq (tgt := 26) hx hb (by have := bZ_01 bto; omega) dM_multiply_19 (by decide) (fun c_5 => ?_) (fun c_5 => ?_)
      · have hk_nto : rok to := Classical.byContradiction (fun h9 => absurd (hbto.mpr h9) (by rw [show bto = false from bZ_f.mp (by assumption)]; decide))
        obtain ⟨nto, rfl⟩ : ∃ n9 : Nat, to = (n9 : Int) := ⟨to.toNat, by have := hk_nto.1; omega⟩
        have h10_nto : nto < 10 := by have := hk_nto.2; omega
        refine lv_iconst (v := iZ (0)) hx hb dM_multiply_26 (by decide) ?_
        refine W.eq (g2 := F0 m 27 ls ([.int (iZ ((0 : Nat) : Int)), .ref B])) rfl ?_
        refine zm_put_thrown (x := 0) hx hb ht hown hK hZ hS tw_677 dM_multiply_27 (fun H locs hZ hS => ?_)
        have hZ : zMD E B w0 (0, fa, ct, be, fb, sb9, (2049 - st)) H := hZ
        refine lv_aload_n hx hb dM_multiply_30 rfl (lv_at hl 0 rfl) ?_
        refine zm_thrown hx hb ht hown hK hZ tw_677 dM_multiply_31 ?_
        refine zc_i (y := iZ (((0 : Nat) : Int))) rfl ?_
        refine zr_if_le (tgt := 38) hx hb (by decide) dM_multiply_34 (by decide) (fun c_6 => ?_) (fun c_6 => ?_)
        · refine lv_aload_n hx hb dM_multiply_38 rfl (lv_at hl 0 rfl) ?_
          refine lv_iconst (v := iZ (2)) hx hb dM_multiply_39 (by decide) ?_
          refine W.eq (g2 := F0 m 40 ls ([.int (iZ ((2 : Nat) : Int)), .ref B])) rfl ?_
          refine zm_put_fault (x := 2) hx hb ht hown hK hZ hS tw_678 dM_multiply_40 (fun H locs hZ hS => ?_)
          have hZ : zMD E B w0 (0, 2, ct, be, fb, sb9, (2049 - st)) H := hZ
          refine lv_aload_n hx hb dM_multiply_43 rfl (lv_at hl 0 rfl) ?_
          refine lv_iload_n hx hb dM_multiply_44 rfl (lv_at hl 1 rfl) ?_
          refine lv_aload_n hx hb dM_multiply_45 rfl (lv_at hl 0 rfl) ?_
          refine zm_one hx hb ht hown hK hZ tw_689 dM_multiply_46 ?_
          refine zcV_v (P' := fun (u : (Nat → Nat → Nat) × zC) H => zMD E B u.1 u.2 H) 2 (As := [.int (iZ (↑na)), .ref (B + 9)]) (rest := []) rfl ⟨hx, hb, hml, hown, ht⟩ (mM_take l E B w0 (0, 2, ct, be, fb, sb9, (2049 - st)) na h10_na 9 (by decide) 264 rfl (by decide)) tw_791 tw_788 tw_790 tp_13 tw_6 qM_take (by rw [hR]; decide) (zm_recv hK hZ) hZ hK hl.1 rfl rfl (Nat.le_of_ble_eq_true rfl) dM_multiply_49 ⟨Nat.zero_le _, Nat.zero_le _⟩ hS (fun u H locs hp hZ _ hS => ?_)
          obtain ⟨w, q9⟩ := u
          obtain ⟨ho, hq9, hcp⟩ := hp
          dsimp only at *
          rw [hq9] at hZ
          have htk := take_val hcp (hMR na h10_na).1
          replace hMR : MR w rg := MR_same (ho 2 (by decide)) (ho 3 (by decide)) hMR
          replace hdr : ∀ i, i < ct → w 1 i = f i := fun i hi => by rw [ho 1 (by decide)]; exact hdr i hi
          replace hpa : ∀ i, i < 2049 - st → w 14 i = g (st + i) := fun i hi => by rw [ho 14 (by decide)]; exact hpa i hi
          have hv_9 : rv (w 9) 264 = (rg na).natAbs := htk
          clear htk
          refine lv_aload_n hx hb dM_multiply_52 rfl (lv_at hl 0 rfl) ?_
          refine lv_iload_n hx hb dM_multiply_53 rfl (lv_at hl 2 rfl) ?_
          refine lv_aload_n hx hb dM_multiply_54 rfl (lv_at hl 0 rfl) ?_
          refine zm_two hx hb ht hown hK hZ tw_690 dM_multiply_55 ?_
          refine zcV_v (P' := fun (u : (Nat → Nat → Nat) × zC) H => zMD E B u.1 u.2 H) 2 (As := [.int (iZ (↑nb)), .ref (B + 10)]) (rest := []) rfl ⟨hx, hb, hml, hown, ht⟩ (mM_take l E B w (0, 2, ct, be, fb, sb9, (2049 - st)) nb h10_nb 10 (by decide) 264 rfl (by decide)) tw_791 tw_788 tw_790 tp_13 tw_6 qM_take (by rw [hR]; decide) (zm_recv hK hZ) hZ hK hl.1 rfl rfl (Nat.le_of_ble_eq_true rfl) dM_multiply_58 ⟨Nat.zero_le _, Nat.zero_le _⟩ hS (fun u H locs hp hZ _ hS => ?_)
          obtain ⟨w, q9⟩ := u
          obtain ⟨ho, hq9, hcp⟩ := hp
          dsimp only at *
          rw [hq9] at hZ
          have htk := take_val hcp (hMR nb h10_nb).1
          replace hMR : MR w rg := MR_same (ho 2 (by decide)) (ho 3 (by decide)) hMR
          replace hdr : ∀ i, i < ct → w 1 i = f i := fun i hi => by rw [ho 1 (by decide)]; exact hdr i hi
          replace hpa : ∀ i, i < 2049 - st → w 14 i = g (st + i) := fun i hi => by rw [ho 14 (by decide)]; exact hpa i hi
          replace hv_9 : rv (w 9) 264 = (rg na).natAbs := by rw [ho 9 (by decide)]; exact hv_9
          have hv_10 : rv (w 10) 264 = (rg nb).natAbs := htk
          clear htk
          refine lv_aload_n hx hb dM_multiply_61 rfl (lv_at hl 0 rfl) ?_
          refine lv_aload_n hx hb dM_multiply_62 rfl (lv_at hl 0 rfl) ?_
          refine zm_one hx hb ht hown hK hZ tw_689 dM_multiply_63 ?_
          refine lv_aload_n hx hb dM_multiply_66 rfl (lv_at hl 0 rfl) ?_
          refine zm_two hx hb ht hown hK hZ tw_690 dM_multiply_67 ?_
          refine lv_aload_n hx hb dM_multiply_70 rfl (lv_at hl 0 rfl) ?_
          refine zm_row hx hb ht hown hK hZ tw_683 dM_multiply_71 ?_
          refine zcV_v (P' := fun (u : (Nat → Nat → Nat) × zC) H => zMD E B u.1 u.2 H) 3 (As := [.ref (B + 9), .ref (B + 10), .ref (B + 4)]) (rest := []) rfl ⟨hx, hb, hml, hown, ht⟩ (mM_multiplyRows l E B w (0, 2, ct, be, fb, sb9, (2049 - st)) 9 (by decide) 10 (by decide) 4 (by decide) rfl rfl rfl (by decide) (by decide) (by decide)) tw_812 tw_809 tw_811 tp_15 tw_6 qM_multiplyRows (by rw [hR]; decide) (zm_recv hK hZ) hZ hK hl.1 rfl rfl (Nat.le_of_ble_eq_true rfl) dM_multiply_74 ⟨Nat.zero_le _, Nat.zero_le _⟩ hS (fun u H locs hp hZ _ hS => ?_)
          obtain ⟨w, q9⟩ := u
          obtain ⟨ho, hq9, hmv⟩ := hp
          dsimp only at *
          rw [hq9] at hZ
          rw [hv_9, hv_10] at hmv
          replace hMR : MR w rg := MR_same (ho 2 (by decide) (by decide)) (ho 3 (by decide) (by decide)) hMR
          replace hdr : ∀ i, i < ct → w 1 i = f i := fun i hi => by rw [ho 1 (by decide) (by decide)]; exact hdr i hi
          replace hpa : ∀ i, i < 2049 - st → w 14 i = g (st + i) := fun i hi => by rw [ho 14 (by decide) (by decide)]; exact hpa i hi
          replace hv_9 : rv (w 9) 264 = (rg na).natAbs := by rw [ho 9 (by decide) (by decide)]; exact hv_9
          replace hv_10 : rv (w 10) 264 = (rg nb).natAbs := by rw [ho 10 (by decide) (by decide)]; exact hv_10
          have hv_4 : rv (w 4) 264 = (rg na).natAbs * (rg nb).natAbs := by rw [hmv]; exact Nat.mod_eq_of_lt (rP_mul128 (rP_big (hok.1 na h10_na)) (rP_big (hok.1 nb h10_nb)))
          refine lv_aload_n hx hb dM_multiply_77 rfl (lv_at hl 0 rfl) ?_
          refine lv_aload_n hx hb dM_multiply_78 rfl (lv_at hl 0 rfl) ?_
          refine zm_minus hx hb ht hown hK hZ tw_682 dM_multiply_79 ?_
          refine lv_iload_n hx hb dM_multiply_82 rfl (lv_at hl 1 rfl) ?_
          refine zm_ldz (i := na) hx hb hK hZ (by omega) dM_multiply_83 ?_
          rw [show ((w 3 na : Nat) : Int) = bZ (decide (rg na < 0)) from by rw [show w 3 na = bN (decide (rg na < 0)) from (hMR na h10_na).2, bN_Z]]
          refine lv_aload_n hx hb dM_multiply_84 rfl (lv_at hl 0 rfl) ?_
          refine zm_minus hx hb ht hown hK hZ tw_682 dM_multiply_85 ?_
          refine lv_iload_n hx hb dM_multiply_88 rfl (lv_at hl 2 rfl) ?_
          refine zm_ldz (i := nb) hx hb hK hZ (by omega) dM_multiply_89 ?_
          rw [show ((w 3 nb : Nat) : Int) = bZ (decide (rg nb < 0)) from by rw [show w 3 nb = bN (decide (rg nb < 0)) from (hMR nb h10_nb).2, bN_Z]]
          refine zr_icmp_eq (tgt := 97) hx hb (by have := bZ_01 (decide (rg na < 0)); omega) (by have := bZ_01 (decide (rg nb < 0)); omega) dM_multiply_90 (by decide) (fun c_7 => ?_) (fun c_7 => ?_)
          · refine lv_iconst (v := iZ (0)) hx hb dM_multiply_97 (by decide) ?_
            refine W.eq (g2 := F0 m 98 ls ([.int (iZ (bZ false)), .ref B])) rfl ?_
            refine zm_put_below (x := false) hx hb ht hown hK hZ hS tw_684 dM_multiply_98 (fun H locs hZ hS => ?_)
            have hZ : zMD E B w (0, 2, ct, false, fb, sb9, (2049 - st)) H := hZ
            have hbe : false = (decide (rg na < 0) != decide (rg nb < 0)) := by rw [show decide (rg na < 0) = decide (rg nb < 0) from bZ_eq.mp (by assumption)]; cases decide (rg nb < 0) <;> rfl
            refine lv_aload_n hx hb dM_multiply_101 rfl (lv_at hl 0 rfl) ?_
            refine lv_iload_n hx hb dM_multiply_102 rfl (lv_at hl 3 rfl) ?_
            refine zcV_v (P' := fun (u : (Nat → Nat → Nat) × zC) H => zMD E B u.1 u.2 H) 1 (As := [.int (iZ (↑nto))]) (rest := []) rfl ⟨hx, hb, hml, hown, ht⟩ (mM_store l E B w (0, 2, ct, false, fb, sb9, (2049 - st)) nto h10_nto rg hMR) tw_779 tw_776 tw_778 tp_12 tw_6 qM_store (by rw [hR]; decide) (zm_recv hK hZ) hZ hK hl.1 rfl rfl (Nat.le_of_ble_eq_true rfl) dM_multiply_103 ⟨Nat.zero_le _, Nat.zero_le _⟩ hS (fun u H locs hp hZ _ hS => ?_)
            obtain ⟨w, q9⟩ := u
            obtain ⟨ho, hbig, hfit⟩ := hp
            dsimp only at *
            rw [hv_4] at hbig hfit
            have hzz : (if false = true then -((((rg na).natAbs * (rg nb).natAbs : Nat) : Int)) else (((rg na).natAbs * (rg nb).natAbs : Nat) : Int)) = rg na * rg nb := by have h9 := mul_sgn (rg na) (rg nb); rw [← hbe] at h9; exact h9
            have hzX : zX (rg na * rg nb) ↔ (rg na).natAbs * (rg nb).natAbs < rP 128 := by rw [← hzz]; exact zX_if
            rcases Nat.lt_or_ge ((rg na).natAbs * (rg nb).natAbs) (rP 128) with hX | hX
            · obtain ⟨hq9, hMR9⟩ := hfit hX
              rw [hq9] at hZ
              rw [hzz] at hMR9
              have hzx := hzX.mpr hX
              replace hdr : ∀ i, i < ct → w 1 i = f i := fun i hi => by rw [ho 1 (by decide) (by decide)]; exact hdr i hi
              replace hpa : ∀ i, i < 2049 - st → w 14 i = g (st + i) := fun i hi => by rw [ho 14 (by decide) (by decide)]; exact hpa i hi
              replace hv_9 : rv (w 9) 264 = (rg na).natAbs := by rw [ho 9 (by decide) (by decide)]; exact hv_9
              replace hv_10 : rv (w 10) 264 = (rg nb).natAbs := by rw [ho 10 (by decide) (by decide)]; exact hv_10
              replace hv_4 : rv (w 4) 264 = (rg na).natAbs * (rg nb).natAbs := by rw [ho 4 (by decide) (by decide)]; exact hv_4
              have hMR : MR w (va_up rg nto (rg na * rg nb)) := hMR9
              exact hend 106 () _ _ _ dM_multiply_106 trivial (by rcases SP_g hsp ⟨hk_na, hk_nb, hk_nto⟩ with ⟨_, h, _⟩ | ⟨_, h, _⟩ | ⟨hk, _, hs⟩; exact h.elim; exact absurd hzx h; subst hk; subst hs; exact ⟨hok1, w, (0, 2, ct, false, fb, sb9, (2049 - st)), hZ, ⟨hMR, rfl, hdr, rfl, hpa⟩, rfl⟩) hS
            · obtain ⟨e1, e2⟩ := Prod.mk.inj (hbig hX)
              rw [e2] at hZ
              rw [← e1] at hMR hdr hpa
              have hzx : ¬ zX (rg na * rg nb) := fun h9 => absurd (hzX.mp h9) (Nat.not_lt.mpr hX)
              have hZ : zMD E B w (2, 2, ct, false, fb, sb9, (2049 - st)) H := hZ
              exact hend 106 () _ _ _ dM_multiply_106 trivial (by rcases SP_g hsp ⟨hk_na, hk_nb, hk_nto⟩ with ⟨_, h, _⟩ | ⟨hk, h, hs⟩ | ⟨_, h, _⟩; exact h.elim; subst hk; subst hs; exact ⟨hok1, w, (2, 2, ct, false, fb, sb9, (2049 - st)), hZ, ⟨hMR, rfl, hdr, rfl, hpa⟩, rfl⟩; exact absurd h hzx) hS
          · refine lv_iconst (v := iZ (1)) hx hb dM_multiply_93 (by decide) ?_
            refine lv_goto (tgt := 98) hx hb dM_multiply_94 (by decide) ?_
            refine W.eq (g2 := F0 m 98 ls ([.int (iZ (bZ true)), .ref B])) rfl ?_
            refine zm_put_below (x := true) hx hb ht hown hK hZ hS tw_684 dM_multiply_98 (fun H locs hZ hS => ?_)
            have hZ : zMD E B w (0, 2, ct, true, fb, sb9, (2049 - st)) H := hZ
            have hbe : true = (decide (rg na < 0) != decide (rg nb < 0)) := by have h9 : decide (rg na < 0) ≠ decide (rg nb < 0) := fun h => absurd (bZ_eq.mpr h) (by assumption); revert h9; cases decide (rg na < 0) <;> cases decide (rg nb < 0) <;> decide
            refine lv_aload_n hx hb dM_multiply_101 rfl (lv_at hl 0 rfl) ?_
            refine lv_iload_n hx hb dM_multiply_102 rfl (lv_at hl 3 rfl) ?_
            refine zcV_v (P' := fun (u : (Nat → Nat → Nat) × zC) H => zMD E B u.1 u.2 H) 1 (As := [.int (iZ (↑nto))]) (rest := []) rfl ⟨hx, hb, hml, hown, ht⟩ (mM_store l E B w (0, 2, ct, true, fb, sb9, (2049 - st)) nto h10_nto rg hMR) tw_779 tw_776 tw_778 tp_12 tw_6 qM_store (by rw [hR]; decide) (zm_recv hK hZ) hZ hK hl.1 rfl rfl (Nat.le_of_ble_eq_true rfl) dM_multiply_103 ⟨Nat.zero_le _, Nat.zero_le _⟩ hS (fun u H locs hp hZ _ hS => ?_)
            obtain ⟨w, q9⟩ := u
            obtain ⟨ho, hbig, hfit⟩ := hp
            dsimp only at *
            rw [hv_4] at hbig hfit
            have hzz : (if true = true then -((((rg na).natAbs * (rg nb).natAbs : Nat) : Int)) else (((rg na).natAbs * (rg nb).natAbs : Nat) : Int)) = rg na * rg nb := by have h9 := mul_sgn (rg na) (rg nb); rw [← hbe] at h9; exact h9
            have hzX : zX (rg na * rg nb) ↔ (rg na).natAbs * (rg nb).natAbs < rP 128 := by rw [← hzz]; exact zX_if
            rcases Nat.lt_or_ge ((rg na).natAbs * (rg nb).natAbs) (rP 128) with hX | hX
            · obtain ⟨hq9, hMR9⟩ := hfit hX
              rw [hq9] at hZ
              rw [hzz] at hMR9
              have hzx := hzX.mpr hX
              replace hdr : ∀ i, i < ct → w 1 i = f i := fun i hi => by rw [ho 1 (by decide) (by decide)]; exact hdr i hi
              replace hpa : ∀ i, i < 2049 - st → w 14 i = g (st + i) := fun i hi => by rw [ho 14 (by decide) (by decide)]; exact hpa i hi
              replace hv_9 : rv (w 9) 264 = (rg na).natAbs := by rw [ho 9 (by decide) (by decide)]; exact hv_9
              replace hv_10 : rv (w 10) 264 = (rg nb).natAbs := by rw [ho 10 (by decide) (by decide)]; exact hv_10
              replace hv_4 : rv (w 4) 264 = (rg na).natAbs * (rg nb).natAbs := by rw [ho 4 (by decide) (by decide)]; exact hv_4
              have hMR : MR w (va_up rg nto (rg na * rg nb)) := hMR9
              exact hend 106 () _ _ _ dM_multiply_106 trivial (by rcases SP_g hsp ⟨hk_na, hk_nb, hk_nto⟩ with ⟨_, h, _⟩ | ⟨_, h, _⟩ | ⟨hk, _, hs⟩; exact h.elim; exact absurd hzx h; subst hk; subst hs; exact ⟨hok1, w, (0, 2, ct, true, fb, sb9, (2049 - st)), hZ, ⟨hMR, rfl, hdr, rfl, hpa⟩, rfl⟩) hS
            · obtain ⟨e1, e2⟩ := Prod.mk.inj (hbig hX)
              rw [e2] at hZ
              rw [← e1] at hMR hdr hpa
              have hzx : ¬ zX (rg na * rg nb) := fun h9 => absurd (hzX.mp h9) (Nat.not_lt.mpr hX)
              have hZ : zMD E B w (2, 2, ct, true, fb, sb9, (2049 - st)) H := hZ
              exact hend 106 () _ _ _ dM_multiply_106 trivial (by rcases SP_g hsp ⟨hk_na, hk_nb, hk_nto⟩ with ⟨_, h, _⟩ | ⟨hk, h, hs⟩ | ⟨_, h, _⟩; exact h.elim; subst hk; subst hs; exact ⟨hok1, w, (2, 2, ct, true, fb, sb9, (2049 - st)), hZ, ⟨hMR, rfl, hdr, rfl, hpa⟩, rfl⟩; exact absurd h hzx) hS
        · exact absurd c_6 (by decide)
      · have hng : ¬ rok to := hbto.mp (bZ_nf.mp (by assumption))
        refine lv_iconst (v := iZ (1)) hx hb dM_multiply_22 (by decide) ?_
        refine lv_goto (tgt := 27) hx hb dM_multiply_23 (by decide) ?_
        refine W.eq (g2 := F0 m 27 ls ([.int (iZ ((1 : Nat) : Int)), .ref B])) rfl ?_
        refine zm_put_thrown (x := 1) hx hb ht hown hK hZ hS tw_677 dM_multiply_27 (fun H locs hZ hS => ?_)
        have hZ : zMD E B w0 (1, fa, ct, be, fb, sb9, (2049 - st)) H := hZ
        refine lv_aload_n hx hb dM_multiply_30 rfl (lv_at hl 0 rfl) ?_
        refine zm_thrown hx hb ht hown hK hZ tw_677 dM_multiply_31 ?_
        refine zc_i (y := iZ (((1 : Nat) : Int))) rfl ?_
        refine zr_if_le (tgt := 38) hx hb (by decide) dM_multiply_34 (by decide) (fun c_8 => ?_) (fun c_8 => ?_)
        · exact absurd c_8 (by decide)
        · exact hend 37 () _ _ _ dM_multiply_37 trivial (by obtain ⟨hk, hs⟩ := SP_1 hsp (fun h9 => hng (by first | exact h9 | exact h9.1 | exact h9.2.1 | exact h9.2.2.1 | exact h9.2.2.2.1 | exact h9.2.2.2 | exact h9.2.2 | exact h9.2)); subst hk; subst hs; exact ⟨hok1, w0, (1, fa, ct, be, fb, sb9, (2049 - st)), hZ, ⟨hMR, rfl, hdr, rfl, hpa⟩, rfl⟩) hS
