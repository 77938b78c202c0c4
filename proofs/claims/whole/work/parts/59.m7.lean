theorem tdiv_sgn (x y : Int) : (if (decide (x < 0) != decide (y < 0)) = true then -((x.natAbs / y.natAbs : Nat) : Int) else ((x.natAbs / y.natAbs : Nat) : Int)) = x.tdiv y := by
  by_cases hx : x < 0
  · obtain ⟨a, rfl⟩ : ∃ a : Nat, x = -(a : Int) := ⟨x.natAbs, by omega⟩
    by_cases hy : y < 0
    · obtain ⟨b, rfl⟩ : ∃ b : Nat, y = -(b : Int) := ⟨y.natAbs, by omega⟩
      rw [decide_eq_true hx, decide_eq_true hy, if_neg (by decide), Int.natAbs_neg, Int.natAbs_neg, Int.neg_tdiv_neg]; rfl
    · obtain ⟨b, rfl⟩ : ∃ b : Nat, y = (b : Int) := ⟨y.natAbs, by omega⟩
      rw [decide_eq_true hx, decide_eq_false hy, if_pos (by decide), Int.natAbs_neg, Int.neg_tdiv]; rfl
  · obtain ⟨a, rfl⟩ : ∃ a : Nat, x = (a : Int) := ⟨x.natAbs, by omega⟩
    by_cases hy : y < 0
    · obtain ⟨b, rfl⟩ : ∃ b : Nat, y = -(b : Int) := ⟨y.natAbs, by omega⟩
      rw [decide_eq_false hx, decide_eq_true hy, if_pos (by decide), Int.natAbs_neg, Int.tdiv_neg]; rfl
    · obtain ⟨b, rfl⟩ : ∃ b : Nat, y = (b : Int) := ⟨y.natAbs, by omega⟩
      rw [decide_eq_false hx, decide_eq_false hy, if_neg (by decide)]; rfl
theorem tmod_sgn (x y : Int) : (if decide (x < 0) = true then -((x.natAbs % y.natAbs : Nat) : Int) else ((x.natAbs % y.natAbs : Nat) : Int)) = x.tmod y := by
  rw [← Int.natAbs_tmod]
  by_cases hx : x < 0
  · rw [if_pos (decide_eq_true hx)]
    have h9 : x.tmod y ≤ 0 := by
      obtain ⟨a, rfl⟩ : ∃ a : Nat, x = -(a : Int) := ⟨x.natAbs, by omega⟩
      rw [Int.neg_tmod]
      have := Int.tmod_nonneg y (Int.natCast_nonneg a)
      omega
    omega
  · rw [if_neg (by rw [decide_eq_false hx]; decide)]
    have := Int.tmod_nonneg y (show 0 ≤ x by omega)
    omega
theorem emod_sgn {x : Int} {m : Nat} (hm : 0 < m) : x % (m : Int) = if x < 0 ∧ x.natAbs % m ≠ 0 then (m : Int) - ((x.natAbs % m : Nat) : Int) else ((x.natAbs % m : Nat) : Int) := by
  by_cases hx : x < 0
  · obtain ⟨a, rfl⟩ : ∃ a : Nat, x = -(a : Int) := ⟨x.natAbs, by omega⟩
    rw [Int.natAbs_neg, Int.natAbs_natCast]
    have h1 := Nat.div_add_mod a m
    have h2 := Nat.mod_lt a hm
    generalize a % m = r at *
    generalize a / m = q at *
    by_cases hr : r = 0
    · rw [if_neg (by omega), hr, ← h1, hr, Nat.add_zero, Int.natCast_mul, ← Int.mul_neg]
      exact Int.mul_emod_right _ _
    · rw [if_pos ⟨hx, hr⟩, ← h1, Int.natCast_add, Int.natCast_mul, show -((m : Int) * (q : Int) + (r : Int)) = ((m : Int) - r) + (m : Int) * (-(q : Int) - 1) by rw [Int.mul_sub, Int.mul_neg, Int.mul_one]; omega, Int.add_mul_emod_self_left]
      exact Int.emod_eq_of_lt (by omega) (by omega)
  · obtain ⟨a, rfl⟩ : ∃ a : Nat, x = (a : Int) := ⟨x.natAbs, by omega⟩
    rw [if_neg (fun h => hx h.1), Int.natAbs_natCast]
    rfl
set_option maxHeartbeats 4000000 in
set_option maxRecDepth 100000 in
theorem mM_divide (l : Launch) (E : zE) (B : Nat) (rg : Nat → Int) (ct : Nat) (f : Nat → Nat) (st : Nat) (g : Nat → Nat) (t0 : Nat) (a : Int) (hz_a : zi a) (b : Int) (hz_b : zi b) (q : Int) (hz_q : zi q) (t : Int) (hz_t : zi t) (k : Nat) (σ1 : zS) (hok1 : okS σ1) (hsp : SP (rok a ∧ rok b ∧ rok q ∧ rok t) (False) (rg b.toNat = 0) (fun τ => rg b.toNat ≠ 0 ∧ τ = (va_up (va_up rg q.toNat ((rg a.toNat).tdiv (rg b.toNat))) t.toNat ((rg a.toNat).tmod (rg b.toNat)), ct, f, st, g)) (rg, ct, f, st, g) k σ1) :
    Met l yM_divide (zws yM_divide cM_divide 7 none) { frames := 2, cells := 0, slots := 0, locals := 110 } (zPc E (zQM E B (rg, ct, f, st, g) t0) [.ref (B), .int (iZ (a)), .int (iZ (b)), .int (iZ (q)), .int (iZ (t))]) (va_Qv (fun (u : Unit) => True) (fun u t => zQM E B σ1 (tc k) t.heap ∧ zK E t) (zA B 15)) 0 0 (zA B 15) := by
  refine zof_v (P' := fun (u : Unit) H => zQM E B σ1 (tc k) H) (by decide) (Nat.le_of_ble_eq_true rfl) fun p e R s m args below meth c Q ls hR hx hb hml ht hown hK hZ hl hend => ?_
  have hS : va_S (zA B 15) s.heap s.heap [] := va_S.rf
  have hown : s.vm.findClass "WholeDeskModel" = some m.cls := hown
  have hl : lv_has ls 7 [(0, .ref (B)), (1, .int (iZ (a))), (2, .int (iZ (b))), (3, .int (iZ (q))), (4, .int (iZ (t)))] := hl
  obtain ⟨hok, w0, ⟨th, fa, le, be, fb, sb9, pr⟩, hZ, ⟨hMR, hle, hdr, hpr, hpa⟩, hth⟩ := hZ
  dsimp only at *
  rw [hle, hpr] at hZ
  clear hth hle hpr le pr
  refine lv_aload_n hx hb dM_divide_0 rfl (lv_at hl 0 rfl) ?_
  refine lv_iload_n hx hb dM_divide_1 rfl (lv_at hl 1 rfl) ?_
  refine zcS_i (P' := fun (u : (Nat → Nat → Nat) × zC) H => zMD E B u.1 u.2 H) 1 (As := [.int (iZ (a))]) (rest := [.ref (B)]) ⟨hx, hb, hml, hown, ht⟩ (mM_no l E B w0 (th, fa, ct, be, fb, sb9, (2049 - st)) (a) hz_a) tw_762 tw_760 tw_761 tw_6 qM_no (by rw [hR]; decide) hZ hK hl.1 rfl rfl (Nat.le_of_ble_eq_true rfl) dM_divide_2 ⟨Nat.zero_le _, Nat.zero_le _⟩ hS (fun r9 u H locs hp hZ _ hS => ?_)
  obtain ⟨hu9, ba, hr1, hba⟩ := hp
  subst hr1
  rw [hu9] at hZ
  dsimp only at hZ
  clear hu9
  refine zr_if_ne (tgt := 30) hx hb (by have := bZ_01 ba; omega) dM_divide_5 (by decide) (fun c_1 => ?_) (fun c_1 => ?_)
  · have hng : ¬ rok a := hba.mp (bZ_nf.mp (by assumption))
    refine lv_iconst (v := iZ (1)) hx hb dM_divide_30 (by decide) ?_
    refine lv_goto (tgt := 47) hx hb dM_divide_31 (by decide) ?_
    refine W.eq (g2 := F0 m 47 ls ([.int (iZ ((1 : Nat) : Int)), .ref B])) rfl ?_
    refine zm_put_thrown (x := 1) hx hb ht hown hK hZ hS tw_677 dM_divide_47 (fun H locs hZ hS => ?_)
    have hZ : zMD E B w0 (1, fa, ct, be, fb, sb9, (2049 - st)) H := hZ
    refine lv_aload_n hx hb dM_divide_50 rfl (lv_at hl 0 rfl) ?_
    refine zm_thrown hx hb ht hown hK hZ tw_677 dM_divide_51 ?_
    refine zc_i (y := iZ (((1 : Nat) : Int))) rfl ?_
    refine zr_if_le (tgt := 58) hx hb (by decide) dM_divide_54 (by decide) (fun c_2 => ?_) (fun c_2 => ?_)
    · exact absurd c_2 (by decide)
    · exact hend 57 () _ _ _ dM_divide_57 trivial (by obtain ⟨hk, hs⟩ := SP_1 hsp (fun h9 => hng (by first | exact h9 | exact h9.1 | exact h9.2.1 | exact h9.2.2.1 | exact h9.2.2.2.1 | exact h9.2.2.2 | exact h9.2.2 | exact h9.2)); subst hk; subst hs; exact ⟨hok1, w0, (1, fa, ct, be, fb, sb9, (2049 - st)), hZ, ⟨hMR, rfl, hdr, rfl, hpa⟩, rfl⟩) hS
  · have hk_na : rok a := Classical.byContradiction (fun h9 => absurd (hba.mpr h9) (by rw [show ba = false from bZ_f.mp (by assumption)]; decide))
    obtain ⟨na, rfl⟩ : ∃ n9 : Nat, a = (n9 : Int) := ⟨a.toNat, by have := hk_na.1; omega⟩
    have h10_na : na < 10 := by have := hk_na.2; omega
    refine lv_iload_n hx hb dM_divide_8 rfl (lv_at hl 2 rfl) ?_
    refine zcS_i (P' := fun (u : (Nat → Nat → Nat) × zC) H => zMD E B u.1 u.2 H) 1 (As := [.int (iZ (b))]) (rest := [.ref (B)]) ⟨hx, hb, hml, hown, ht⟩ (mM_no l E B w0 (th, fa, ct, be, fb, sb9, (2049 - st)) (b) hz_b) tw_762 tw_760 tw_761 tw_6 qM_no (by rw [hR]; decide) hZ hK hl.1 rfl rfl (Nat.le_of_ble_eq_true rfl) dM_divide_9 ⟨Nat.zero_le _, Nat.zero_le _⟩ hS (fun r9 u H locs hp hZ _ hS => ?_)
    obtain ⟨hu9, bb, hr1, hbb⟩ := hp
    subst hr1
    rw [hu9] at hZ
    dsimp only at hZ
    clear hu9
    refine zr_if_ne (tgt := 30) hx hb (by have := bZ_01 bb; omega) dM_divide_12 (by decide) (fun c_3 => ?_) (fun c_3 => ?_)
    · have hng : ¬ rok b := hbb.mp (bZ_nf.mp (by assumption))
      refine lv_iconst (v := iZ (1)) hx hb dM_divide_30 (by decide) ?_
      refine lv_goto (tgt := 47) hx hb dM_divide_31 (by decide) ?_
      refine W.eq (g2 := F0 m 47 ls ([.int (iZ ((1 : Nat) : Int)), .ref B])) rfl ?_
      refine zm_put_thrown (x := 1) hx hb ht hown hK hZ hS tw_677 dM_divide_47 (fun H locs hZ hS => ?_)
      have hZ : zMD E B w0 (1, fa, ct, be, fb, sb9, (2049 - st)) H := hZ
      refine lv_aload_n hx hb dM_divide_50 rfl (lv_at hl 0 rfl) ?_
      refine zm_thrown hx hb ht hown hK hZ tw_677 dM_divide_51 ?_
      refine zc_i (y := iZ (((1 : Nat) : Int))) rfl ?_
      refine zr_if_le (tgt := 58) hx hb (by decide) dM_divide_54 (by decide) (fun c_4 => ?_) (fun c_4 => ?_)
      · exact absurd c_4 (by decide)
      · exact hend 57 () _ _ _ dM_divide_57 trivial (by obtain ⟨hk, hs⟩ := SP_1 hsp (fun h9 => hng (by first | exact h9 | exact h9.1 | exact h9.2.1 | exact h9.2.2.1 | exact h9.2.2.2.1 | exact h9.2.2.2 | exact h9.2.2 | exact h9.2)); subst hk; subst hs; exact ⟨hok1, w0, (1, fa, ct, be, fb, sb9, (2049 - st)), hZ, ⟨hMR, rfl, hdr, rfl, hpa⟩, rfl⟩) hS
    · have hk_nb : rok b := Classical.byContradiction (fun h9 => absurd (hbb.mpr h9) (by rw [show bb = false from bZ_f.mp (by assumption)]; decide))
      obtain ⟨nb, rfl⟩ : ∃ n9 : Nat, b = (n9 : Int) := ⟨b.toNat, by have := hk_nb.1; omega⟩
      have h10_nb : nb < 10 := by have := hk_nb.2; omega
      refine lv_iload_n hx hb dM_divide_15 rfl (lv_at hl 3 rfl) ?_
      refine zcS_i (P' := fun (u : (Nat → Nat → Nat) × zC) H => zMD E B u.1 u.2 H) 1 (As := [.int (iZ (q))]) (rest := [.ref (B)]) ⟨hx, hb, hml, hown, ht⟩ (mM_no l E B w0 (th, fa, ct, be, fb, sb9, (2049 - st)) (q) hz_q) tw_762 tw_760 tw_761 tw_6 qM_no (by rw [hR]; decide) hZ hK hl.1 rfl rfl (Nat.le_of_ble_eq_true rfl) dM_divide_16 ⟨Nat.zero_le _, Nat.zero_le _⟩ hS (fun r9 u H locs hp hZ _ hS => ?_)
      obtain ⟨hu9, bq, hr1, hbq⟩ := hp
      subst hr1
      rw [hu9] at hZ
      dsimp only at hZ
      clear hu9
      refine zr_if_ne (tgt := 30) hx hb (by have := bZ_01 bq; omega) dM_divide_19 (by decide) (fun c_5 => ?_) (fun c_5 => ?_)
      · have hng : ¬ rok q := hbq.mp (bZ_nf.mp (by assumption))
        refine lv_iconst (v := iZ (1)) hx hb dM_divide_30 (by decide) ?_
        refine lv_goto (tgt := 47) hx hb dM_divide_31 (by decide) ?_
        refine W.eq (g2 := F0 m 47 ls ([.int (iZ ((1 : Nat) : Int)), .ref B])) rfl ?_
        refine zm_put_thrown (x := 1) hx hb ht hown hK hZ hS tw_677 dM_divide_47 (fun H locs hZ hS => ?_)
        have hZ : zMD E B w0 (1, fa, ct, be, fb, sb9, (2049 - st)) H := hZ
        refine lv_aload_n hx hb dM_divide_50 rfl (lv_at hl 0 rfl) ?_
        refine zm_thrown hx hb ht hown hK hZ tw_677 dM_divide_51 ?_
        refine zc_i (y := iZ (((1 : Nat) : Int))) rfl ?_
        refine zr_if_le (tgt := 58) hx hb (by decide) dM_divide_54 (by decide) (fun c_6 => ?_) (fun c_6 => ?_)
        · exact absurd c_6 (by decide)
        · exact hend 57 () _ _ _ dM_divide_57 trivial (by obtain ⟨hk, hs⟩ := SP_1 hsp (fun h9 => hng (by first | exact h9 | exact h9.1 | exact h9.2.1 | exact h9.2.2.1 | exact h9.2.2.2.1 | exact h9.2.2.2 | exact h9.2.2 | exact h9.2)); subst hk; subst hs; exact ⟨hok1, w0, (1, fa, ct, be, fb, sb9, (2049 - st)), hZ, ⟨hMR, rfl, hdr, rfl, hpa⟩, rfl⟩) hS
      · have hk_nq : rok q := Classical.byContradiction (fun h9 => absurd (hbq.mpr h9) (by rw [show bq = false from bZ_f.mp (by assumption)]; decide))
        obtain ⟨nq, rfl⟩ : ∃ n9 : Nat, q = (n9 : Int) := ⟨q.toNat, by have := hk_nq.1; omega⟩
        have h10_nq : nq < 10 := by have := hk_nq.2; omega
        refine lv_iload hx hb dM_divide_22 (lv_at hl 4 rfl) ?_
        refine zcS_i (P' := fun (u : (Nat → Nat → Nat) × zC) H => zMD E B u.1 u.2 H) 1 (As := [.int (iZ (t))]) (rest := [.ref (B)]) ⟨hx, hb, hml, hown, ht⟩ (mM_no l E B w0 (th, fa, ct, be, fb, sb9, (2049 - st)) (t) hz_t) tw_762 tw_760 tw_761 tw_6 qM_no (by rw [hR]; decide) hZ hK hl.1 rfl rfl (Nat.le_of_ble_eq_true rfl) dM_divide_24 ⟨Nat.zero_le _, Nat.zero_le _⟩ hS (fun r9 u H locs hp hZ _ hS => ?_)
        obtain ⟨hu9, bt, hr1, hbt⟩ := hp
        subst hr1
        rw [hu9] at hZ
        dsimp only at hZ
        clear hu9
        refine zr_if_eq (tgt := 34) hx hb (by have := bZ_01 bt; omega) dM_divide_27 (by decide) (fun c_7 => ?_) (fun c_7 => ?_)
        · have hk_nt : rok t := Classical.byContradiction (fun h9 => absurd (hbt.mpr h9) (by rw [show bt = false from bZ_f.mp (by assumption)]; decide))
          obtain ⟨nt, rfl⟩ : ∃ n9 : Nat, t = (n9 : Int) := ⟨t.toNat, by have := hk_nt.1; omega⟩
          have h10_nt : nt < 10 := by have := hk_nt.2; omega
          refine lv_aload_n hx hb dM_divide_34 rfl (lv_at hl 0 rfl) ?_
          refine lv_iload_n hx hb dM_divide_35 rfl (lv_at hl 2 rfl) ?_
          refine zcV_i (P' := fun (u : (Nat → Nat → Nat) × zC) H => zMD E B u.1 u.2 H) 1 (As := [.int (iZ (↑nb))]) (rest := [.ref (B)]) rfl ⟨hx, hb, hml, hown, ht⟩ (mM_isZero l E B w0 (th, fa, ct, be, fb, sb9, (2049 - st)) nb h10_nb) tw_820 tw_817 tw_819 tp_16 tw_6 qM_isZero (by rw [hR]; decide) (zm_recv hK hZ) hZ hK hl.1 rfl rfl (Nat.le_of_ble_eq_true rfl) dM_divide_36 ⟨Nat.zero_le _, Nat.zero_le _⟩ hS (fun r9 u H locs hp hZ _ hS => ?_)
          obtain ⟨hu9, bz, hr1, hbz⟩ := hp
          subst hr1
          rw [hu9] at hZ
          dsimp only at hZ
          clear hu9
          rw [take_0 (hMR nb h10_nb).1] at hbz
          refine zr_if_eq (tgt := 46) hx hb (by have := bZ_01 bz; omega) dM_divide_39 (by decide) (fun c_8 => ?_) (fun c_8 => ?_)
          · have hb0 : rg nb ≠ 0 := fun h9 => absurd (hbz.mpr h9) (by rw [show bz = false from bZ_f.mp (by assumption)]; decide)
            refine lv_iconst (v := iZ (0)) hx hb dM_divide_46 (by decide) ?_
            refine W.eq (g2 := F0 m 47 ls ([.int (iZ ((0 : Nat) : Int)), .ref B])) rfl ?_
            refine zm_put_thrown (x := 0) hx hb ht hown hK hZ hS tw_677 dM_divide_47 (fun H locs hZ hS => ?_)
            have hZ : zMD E B w0 (0, fa, ct, be, fb, sb9, (2049 - st)) H := hZ
            refine lv_aload_n hx hb dM_divide_50 rfl (lv_at hl 0 rfl) ?_
            refine zm_thrown hx hb ht hown hK hZ tw_677 dM_divide_51 ?_
            refine zc_i (y := iZ (((0 : Nat) : Int))) rfl ?_
            refine zr_if_le (tgt := 58) hx hb (by decide) dM_divide_54 (by decide) (fun c_9 => ?_) (fun c_9 => ?_)
            · refine lv_aload_n hx hb dM_divide_58 rfl (lv_at hl 0 rfl) ?_
              refine lv_iload_n hx hb dM_divide_59 rfl (lv_at hl 1 rfl) ?_
              refine lv_aload_n hx hb dM_divide_60 rfl (lv_at hl 0 rfl) ?_
              refine zm_one hx hb ht hown hK hZ tw_689 dM_divide_61 ?_
              refine zcV_v (P' := fun (u : (Nat → Nat → Nat) × zC) H => zMD E B u.1 u.2 H) 2 (As := [.int (iZ (↑na)), .ref (B + 9)]) (rest := []) rfl ⟨hx, hb, hml, hown, ht⟩ (mM_take l E B w0 (0, fa, ct, be, fb, sb9, (2049 - st)) na h10_na 9 (by decide) 264 rfl (by decide)) tw_791 tw_788 tw_790 tp_13 tw_6 qM_take (by rw [hR]; decide) (zm_recv hK hZ) hZ hK hl.1 rfl rfl (Nat.le_of_ble_eq_true rfl) dM_divide_64 ⟨Nat.zero_le _, Nat.zero_le _⟩ hS (fun u H locs hp hZ _ hS => ?_)
              obtain ⟨w, q9⟩ := u
              obtain ⟨ho, hq9, hcp⟩ := hp
              dsimp only at *
              rw [hq9] at hZ
              have htk := take_val hcp (hMR na h10_na).1
              replace hMR : MR w rg := MR_same (ho 2 (by decide)) (ho 3 (by decide)) hMR
              replace hdr : ∀ i, i < ct → w 1 i = f i := fun i hi => by rw [ho 1 (by decide)]; exact hdr i hi
              replace hpa : ∀ i, i < 2049 - st → w 14 i = g (st + i) := fun i hi => by rw [ho 14 (by decide)]; exact hpa i hi
              have hv_9 : rv (w 9) 264 = (rg na).natAbs := htk
              clear htk
              refine lv_aload_n hx hb dM_divide_67 rfl (lv_at hl 0 rfl) ?_
              refine lv_iload_n hx hb dM_divide_68 rfl (lv_at hl 2 rfl) ?_
              refine lv_aload_n hx hb dM_divide_69 rfl (lv_at hl 0 rfl) ?_
              refine zm_two hx hb ht hown hK hZ tw_690 dM_divide_70 ?_
              refine zcV_v (P' := fun (u : (Nat → Nat → Nat) × zC) H => zMD E B u.1 u.2 H) 2 (As := [.int (iZ (↑nb)), .ref (B + 10)]) (rest := []) rfl ⟨hx, hb, hml, hown, ht⟩ (mM_take l E B w (0, fa, ct, be, fb, sb9, (2049 - st)) nb h10_nb 10 (by decide) 264 rfl (by decide)) tw_791 tw_788 tw_790 tp_13 tw_6 qM_take (by rw [hR]; decide) (zm_recv hK hZ) hZ hK hl.1 rfl rfl (Nat.le_of_ble_eq_true rfl) dM_divide_73 ⟨Nat.zero_le _, Nat.zero_le _⟩ hS (fun u H locs hp hZ _ hS => ?_)
              obtain ⟨w, q9⟩ := u
              obtain ⟨ho, hq9, hcp⟩ := hp
              dsimp only at *
              rw [hq9] at hZ
              have htk := take_val hcp (hMR nb h10_nb).1
              replace hMR : MR w rg := MR_same (ho 2 (by decide)) (ho 3 (by decide)) hMR
              replace hdr : ∀ i, i < ct → w 1 i = f i := fun i hi => by rw [ho 1 (by decide)]; exact hdr i hi
              replace hpa : ∀ i, i < 2049 - st → w 14 i = g (st + i) := fun i hi => by rw [ho 14 (by decide)]; exact hpa i hi
              replace hv_9 : rv (w 9) 264 = (rg na).natAbs := by rw [ho 9 (by decide)]; exact hv_9
              have hv_10 : rv (w 10) 264 = (rg nb).natAbs := htk
              clear htk
              refine lv_aload_n hx hb dM_divide_76 rfl (lv_at hl 0 rfl) ?_
              refine zm_minus hx hb ht hown hK hZ tw_682 dM_divide_77 ?_
              refine lv_iload_n hx hb dM_divide_80 rfl (lv_at hl 1 rfl) ?_
              refine zm_ldz (i := na) hx hb hK hZ (by omega) dM_divide_81 ?_
              rw [show ((w 3 na : Nat) : Int) = bZ (decide (rg na < 0)) from by rw [show w 3 na = bN (decide (rg na < 0)) from (hMR na h10_na).2, bN_Z]]
              refine lv_istore (lv' := [(5, .int (iZ (bZ (decide (rg na < 0))))), (0, .ref (B)), (1, .int (iZ (↑na))), (2, .int (iZ (↑nb))), (3, .int (iZ (↑nq))), (4, .int (iZ (↑nt)))]) hx hb dM_divide_82 hl (by decide) rfl (fun ls hl => ?_)
              refine lv_aload_n hx hb dM_divide_84 rfl (lv_at hl 1 rfl) ?_
              refine zm_minus hx hb ht hown hK hZ tw_682 dM_divide_85 ?_
              refine lv_iload_n hx hb dM_divide_88 rfl (lv_at hl 2 rfl) ?_
              refine zm_ldz (i := na) hx hb hK hZ (by omega) dM_divide_89 ?_
              rw [show ((w 3 na : Nat) : Int) = bZ (decide (rg na < 0)) from by rw [show w 3 na = bN (decide (rg na < 0)) from (hMR na h10_na).2, bN_Z]]
              refine lv_aload_n hx hb dM_divide_90 rfl (lv_at hl 1 rfl) ?_
              refine zm_minus hx hb ht hown hK hZ tw_682 dM_divide_91 ?_
              refine lv_iload_n hx hb dM_divide_94 rfl (lv_at hl 3 rfl) ?_
              refine zm_ldz (i := nb) hx hb hK hZ (by omega) dM_divide_95 ?_
              rw [show ((w 3 nb : Nat) : Int) = bZ (decide (rg nb < 0)) from by rw [show w 3 nb = bN (decide (rg nb < 0)) from (hMR nb h10_nb).2, bN_Z]]
              refine zr_icmp_eq (tgt := 103) hx hb (by have := bZ_01 (decide (rg na < 0)); omega) (by have := bZ_01 (decide (rg nb < 0)); omega) dM_divide_96 (by decide) (fun c_10 => ?_) (fun c_10 => ?_)
              · refine lv_iconst (v := iZ (0)) hx hb dM_divide_103 (by decide) ?_
                refine zc_i (y := iZ (bZ (decide (rg na < 0) != decide (rg nb < 0)))) (congrArg iZ (by rw [show decide (rg na < 0) = decide (rg nb < 0) from bZ_eq.mp (by assumption)]; cases decide (rg nb < 0) <;> rfl)) ?_
                refine lv_istore (lv' := [(6, .int (iZ (bZ (decide (rg na < 0) != decide (rg nb < 0))))), (5, .int (iZ (bZ (decide (rg na < 0))))), (0, .ref (B)), (1, .int (iZ (↑na))), (2, .int (iZ (↑nb))), (3, .int (iZ (↑nq))), (4, .int (iZ (↑nt)))]) hx hb dM_divide_104 hl (by decide) rfl (fun ls hl => ?_)
                refine lv_aload_n hx hb dM_divide_106 rfl (lv_at hl 2 rfl) ?_
                refine lv_aload_n hx hb dM_divide_107 rfl (lv_at hl 2 rfl) ?_
                refine zm_one hx hb ht hown hK hZ tw_689 dM_divide_108 ?_
                refine lv_aload_n hx hb dM_divide_111 rfl (lv_at hl 2 rfl) ?_
                refine zm_two hx hb ht hown hK hZ tw_690 dM_divide_112 ?_
                refine zcV_v (P' := fun (u : (Nat → Nat → Nat) × zC) H => zMD E B u.1 u.2 H) 2 (As := [.ref (B + 9), .ref (B + 10)]) (rest := []) rfl ⟨hx, hb, hml, hown, ht⟩ (mM_divideRows l E B w (0, fa, ct, be, fb, sb9, (2049 - st)) 9 (by decide) 10 (by decide) rfl rfl (by decide) (by decide) (by rw [hv_10]; omega) (by rw [hv_10]; exact Nat.lt_of_lt_of_le (rP_big (hok.1 nb h10_nb)) (rP_mono (by decide)))) tw_824 tw_821 tw_823 tp_17 tw_6 qM_divideRows (by rw [hR]; decide) (zm_recv hK hZ) hZ hK hl.1 rfl rfl (Nat.le_of_ble_eq_true rfl) dM_divide_115 ⟨Nat.zero_le _, Nat.zero_le _⟩ hS (fun u H locs hp hZ _ hS => ?_)
                obtain ⟨w, q9⟩ := u
                obtain ⟨ho, hq9, hdq, hdr9⟩ := hp
                dsimp only at *
                rw [hq9] at hZ
                rw [hv_9, hv_10] at hdq hdr9
                replace hMR : MR w rg := MR_same (ho 2 (by decide) (by decide)) (ho 3 (by decide) (by decide)) hMR
                replace hdr : ∀ i, i < ct → w 1 i = f i := fun i hi => by rw [ho 1 (by decide) (by decide)]; exact hdr i hi
                replace hpa : ∀ i, i < 2049 - st → w 14 i = g (st + i) := fun i hi => by rw [ho 14 (by decide) (by decide)]; exact hpa i hi
                replace hv_9 : rv (w 9) 264 = (rg na).natAbs := by rw [ho 9 (by decide) (by decide)]; exact hv_9
                replace hv_10 : rv (w 10) 264 = (rg nb).natAbs := by rw [ho 10 (by decide) (by decide)]; exact hv_10
                have hv_8 : rv (w 8) 264 = ((rg na).natAbs) / ((rg nb).natAbs) := hdq
                clear hdq
                have hv_7 : rv (w 7) 264 = ((rg na).natAbs) % ((rg nb).natAbs) := hdr9
                clear hdr9
                refine lv_aload_n hx hb dM_divide_118 rfl (lv_at hl 2 rfl) ?_
                refine zm_quotient hx hb ht hown hK hZ tw_688 dM_divide_119 ?_
                refine lv_aload_n hx hb dM_divide_122 rfl (lv_at hl 2 rfl) ?_
                refine zm_row hx hb ht hown hK hZ tw_683 dM_divide_123 ?_
                refine zcS_v (P' := fun (u : (Nat → Nat → Nat) × zC) H => zMD E B u.1 u.2 H) 2 (As := [.ref (B + 8), .ref (B + 4)]) (rest := []) ⟨hx, hb, hml, hown, ht⟩ (mM_copy l E B w (0, fa, ct, be, fb, sb9, (2049 - st)) 8 (by decide) 4 (by decide) 264 rfl (by decide) 264 rfl (by decide) (by decide)) tw_798 tw_796 tw_797 tw_6 qM_copy (by rw [hR]; decide) hZ hK hl.1 rfl rfl (Nat.le_of_ble_eq_true rfl) dM_divide_126 ⟨Nat.zero_le _, Nat.zero_le _⟩ hS (fun u H locs hp hZ _ hS => ?_)
                obtain ⟨w, q9⟩ := u
                obtain ⟨ho, hq9, hcp⟩ := hp
                dsimp only at *
                rw [hq9] at hZ
                have hcv : rv (w 4) 264 = ((rg na).natAbs) / ((rg nb).natAbs) := by rw [rv_congr (fun i hi => (hcp i hi).trans (if_pos hi))]; exact hv_8
                replace hMR : MR w rg := MR_same (ho 2 (by decide)) (ho 3 (by decide)) hMR
                replace hdr : ∀ i, i < ct → w 1 i = f i := fun i hi => by rw [ho 1 (by decide)]; exact hdr i hi
                replace hpa : ∀ i, i < 2049 - st → w 14 i = g (st + i) := fun i hi => by rw [ho 14 (by decide)]; exact hpa i hi
                replace hv_9 : rv (w 9) 264 = (rg na).natAbs := by rw [ho 9 (by decide)]; exact hv_9
                replace hv_10 : rv (w 10) 264 = (rg nb).natAbs := by rw [ho 10 (by decide)]; exact hv_10
                replace hv_8 : rv (w 8) 264 = ((rg na).natAbs) / ((rg nb).natAbs) := by rw [ho 8 (by decide)]; exact hv_8
                replace hv_7 : rv (w 7) 264 = ((rg na).natAbs) % ((rg nb).natAbs) := by rw [ho 7 (by decide)]; exact hv_7
                have hv_4 : rv (w 4) 264 = ((rg na).natAbs) / ((rg nb).natAbs) := hcv
                clear hcv
                refine lv_aload_n hx hb dM_divide_129 rfl (lv_at hl 2 rfl) ?_
                refine lv_iload hx hb dM_divide_130 (lv_at hl 0 rfl) ?_
                refine zm_put_below (x := (decide (rg na < 0) != decide (rg nb < 0))) hx hb ht hown hK hZ hS tw_684 dM_divide_132 (fun H locs hZ hS => ?_)
                have hZ : zMD E B w (0, fa, ct, (decide (rg na < 0) != decide (rg nb < 0)), fb, sb9, (2049 - st)) H := hZ
                refine lv_aload_n hx hb dM_divide_135 rfl (lv_at hl 2 rfl) ?_
                refine lv_iload_n hx hb dM_divide_136 rfl (lv_at hl 5 rfl) ?_
                refine zcV_v (P' := fun (u : (Nat → Nat → Nat) × zC) H => zMD E B u.1 u.2 H) 1 (As := [.int (iZ (↑nq))]) (rest := []) rfl ⟨hx, hb, hml, hown, ht⟩ (mM_store l E B w (0, fa, ct, (decide (rg na < 0) != decide (rg nb < 0)), fb, sb9, (2049 - st)) nq h10_nq rg hMR) tw_779 tw_776 tw_778 tp_12 tw_6 qM_store (by rw [hR]; decide) (zm_recv hK hZ) hZ hK hl.1 rfl rfl (Nat.le_of_ble_eq_true rfl) dM_divide_137 ⟨Nat.zero_le _, Nat.zero_le _⟩ hS (fun u H locs hp hZ _ hS => ?_)
                obtain ⟨w, q9⟩ := u
                obtain ⟨ho, hbig, hfit⟩ := hp
                dsimp only at *
                rw [hv_4] at hbig hfit
                have hzz : (if (decide (rg na < 0) != decide (rg nb < 0)) = true then -(((((rg na).natAbs) / ((rg nb).natAbs) : Nat) : Int)) else ((((rg na).natAbs) / ((rg nb).natAbs) : Nat) : Int)) = (rg na).tdiv (rg nb) := tdiv_sgn _ _
                have hzX : zX ((rg na).tdiv (rg nb)) ↔ ((rg na).natAbs) / ((rg nb).natAbs) < rP 128 := by rw [← hzz]; exact zX_if
                rcases Nat.lt_or_ge (((rg na).natAbs) / ((rg nb).natAbs)) (rP 128) with hX | hX
                · obtain ⟨hq9, hMR9⟩ := hfit hX
                  rw [hq9] at hZ
                  rw [hzz] at hMR9
                  have hzx := hzX.mpr hX
                  replace hdr : ∀ i, i < ct → w 1 i = f i := fun i hi => by rw [ho 1 (by decide) (by decide)]; exact hdr i hi
                  replace hpa : ∀ i, i < 2049 - st → w 14 i = g (st + i) := fun i hi => by rw [ho 14 (by decide) (by decide)]; exact hpa i hi
                  replace hv_9 : rv (w 9) 264 = (rg na).natAbs := by rw [ho 9 (by decide) (by decide)]; exact hv_9
                  replace hv_10 : rv (w 10) 264 = (rg nb).natAbs := by rw [ho 10 (by decide) (by decide)]; exact hv_10
                  replace hv_8 : rv (w 8) 264 = ((rg na).natAbs) / ((rg nb).natAbs) := by rw [ho 8 (by decide) (by decide)]; exact hv_8
                  replace hv_7 : rv (w 7) 264 = ((rg na).natAbs) % ((rg nb).natAbs) := by rw [ho 7 (by decide) (by decide)]; exact hv_7
                  replace hv_4 : rv (w 4) 264 = ((rg na).natAbs) / ((rg nb).natAbs) := by rw [ho 4 (by decide) (by decide)]; exact hv_4
                  have hMR : MR w (va_up rg nq ((rg na).tdiv (rg nb))) := hMR9
                  refine lv_aload_n hx hb dM_divide_140 rfl (lv_at hl 2 rfl) ?_
                  refine zm_rest hx hb ht hown hK hZ tw_687 dM_divide_141 ?_
                  refine lv_aload_n hx hb dM_divide_144 rfl (lv_at hl 2 rfl) ?_
                  refine zm_row hx hb ht hown hK hZ tw_683 dM_divide_145 ?_
                  refine zcS_v (P' := fun (u : (Nat → Nat → Nat) × zC) H => zMD E B u.1 u.2 H) 2 (As := [.ref (B + 7), .ref (B + 4)]) (rest := []) ⟨hx, hb, hml, hown, ht⟩ (mM_copy l E B w (0, fa, ct, (decide (rg na < 0) != decide (rg nb < 0)), fb, sb9, (2049 - st)) 7 (by decide) 4 (by decide) 264 rfl (by decide) 264 rfl (by decide) (by decide)) tw_798 tw_796 tw_797 tw_6 qM_copy (by rw [hR]; decide) hZ hK hl.1 rfl rfl (Nat.le_of_ble_eq_true rfl) dM_divide_148 ⟨Nat.zero_le _, Nat.zero_le _⟩ hS (fun u H locs hp hZ _ hS => ?_)
                  obtain ⟨w, q9⟩ := u
                  obtain ⟨ho, hq9, hcp⟩ := hp
                  dsimp only at *
                  rw [hq9] at hZ
                  have hcv : rv (w 4) 264 = ((rg na).natAbs) % ((rg nb).natAbs) := by rw [rv_congr (fun i hi => (hcp i hi).trans (if_pos hi))]; exact hv_7
                  replace hMR : MR w (va_up rg nq ((rg na).tdiv (rg nb))) := MR_same (ho 2 (by decide)) (ho 3 (by decide)) hMR
                  replace hdr : ∀ i, i < ct → w 1 i = f i := fun i hi => by rw [ho 1 (by decide)]; exact hdr i hi
                  replace hpa : ∀ i, i < 2049 - st → w 14 i = g (st + i) := fun i hi => by rw [ho 14 (by decide)]; exact hpa i hi
                  replace hv_9 : rv (w 9) 264 = (rg na).natAbs := by rw [ho 9 (by decide)]; exact hv_9
                  replace hv_10 : rv (w 10) 264 = (rg nb).natAbs := by rw [ho 10 (by decide)]; exact hv_10
                  replace hv_8 : rv (w 8) 264 = ((rg na).natAbs) / ((rg nb).natAbs) := by rw [ho 8 (by decide)]; exact hv_8
                  replace hv_7 : rv (w 7) 264 = ((rg na).natAbs) % ((rg nb).natAbs) := by rw [ho 7 (by decide)]; exact hv_7
                  clear hv_4
                  have hv_4 : rv (w 4) 264 = ((rg na).natAbs) % ((rg nb).natAbs) := hcv
                  clear hcv
                  refine lv_aload_n hx hb dM_divide_151 rfl (lv_at hl 2 rfl) ?_
                  refine lv_iload hx hb dM_divide_152 (lv_at hl 1 rfl) ?_
                  refine zm_put_below (x := (decide (rg na < 0))) hx hb ht hown hK hZ hS tw_684 dM_divide_154 (fun H locs hZ hS => ?_)
                  have hZ : zMD E B w (0, fa, ct, (decide (rg na < 0)), fb, sb9, (2049 - st)) H := hZ
                  refine lv_aload_n hx hb dM_divide_157 rfl (lv_at hl 2 rfl) ?_
                  refine lv_iload hx hb dM_divide_158 (lv_at hl 6 rfl) ?_
                  refine zcV_v (P' := fun (u : (Nat → Nat → Nat) × zC) H => zMD E B u.1 u.2 H) 1 (As := [.int (iZ (↑nt))]) (rest := []) rfl ⟨hx, hb, hml, hown, ht⟩ (mM_store l E B w (0, fa, ct, (decide (rg na < 0)), fb, sb9, (2049 - st)) nt h10_nt (va_up rg nq ((rg na).tdiv (rg nb))) hMR) tw_779 tw_776 tw_778 tp_12 tw_6 qM_store (by rw [hR]; decide) (zm_recv hK hZ) hZ hK hl.1 rfl rfl (Nat.le_of_ble_eq_true rfl) dM_divide_160 ⟨Nat.zero_le _, Nat.zero_le _⟩ hS (fun u H locs hp hZ _ hS => ?_)
                  obtain ⟨w, q9⟩ := u
                  obtain ⟨ho, hbig, hfit⟩ := hp
                  dsimp only at *
                  rw [hv_4] at hbig hfit
                  have hzz : (if (decide (rg na < 0)) = true then -(((((rg na).natAbs) % ((rg nb).natAbs) : Nat) : Int)) else ((((rg na).natAbs) % ((rg nb).natAbs) : Nat) : Int)) = (rg na).tmod (rg nb) := tmod_sgn _ _
                  have hzX : zX ((rg na).tmod (rg nb)) ↔ ((rg na).natAbs) % ((rg nb).natAbs) < rP 128 := by rw [← hzz]; exact zX_if
                  rcases Nat.lt_or_ge (((rg na).natAbs) % ((rg nb).natAbs)) (rP 128) with hX | hX
                  · obtain ⟨hq9, hMR9⟩ := hfit hX
                    rw [hq9] at hZ
                    rw [hzz] at hMR9
                    have hzx := hzX.mpr hX
                    replace hdr : ∀ i, i < ct → w 1 i = f i := fun i hi => by rw [ho 1 (by decide) (by decide)]; exact hdr i hi
                    replace hpa : ∀ i, i < 2049 - st → w 14 i = g (st + i) := fun i hi => by rw [ho 14 (by decide) (by decide)]; exact hpa i hi
                    replace hv_9 : rv (w 9) 264 = (rg na).natAbs := by rw [ho 9 (by decide) (by decide)]; exact hv_9
                    replace hv_10 : rv (w 10) 264 = (rg nb).natAbs := by rw [ho 10 (by decide) (by decide)]; exact hv_10
                    replace hv_8 : rv (w 8) 264 = ((rg na).natAbs) / ((rg nb).natAbs) := by rw [ho 8 (by decide) (by decide)]; exact hv_8
                    replace hv_7 : rv (w 7) 264 = ((rg na).natAbs) % ((rg nb).natAbs) := by rw [ho 7 (by decide) (by decide)]; exact hv_7
                    replace hv_4 : rv (w 4) 264 = ((rg na).natAbs) % ((rg nb).natAbs) := by rw [ho 4 (by decide) (by decide)]; exact hv_4
                    have hMR : MR w (va_up (va_up rg nq ((rg na).tdiv (rg nb))) nt ((rg na).tmod (rg nb))) := hMR9
                    exact hend 163 () _ _ _ dM_divide_163 trivial (by rcases SP_g hsp ⟨hk_na, hk_nb, hk_nq, hk_nt⟩ with ⟨_, h, _⟩ | ⟨_, h, _⟩ | ⟨hk, _, hs⟩; exact h.elim; exact absurd h hb0; subst hk; subst hs; exact ⟨hok1, w, (0, fa, ct, (decide (rg na < 0)), fb, sb9, (2049 - st)), hZ, ⟨hMR, rfl, hdr, rfl, hpa⟩, rfl⟩) hS
                  · obtain ⟨e1, e2⟩ := Prod.mk.inj (hbig hX)
                    rw [e2] at hZ
                    rw [← e1] at hMR hdr hpa
                    have hzx : ¬ zX ((rg na).tmod (rg nb)) := fun h9 => absurd (hzX.mp h9) (Nat.not_lt.mpr hX)
                    have hZ : zMD E B w (fa, fa, ct, (decide (rg na < 0)), fb, sb9, (2049 - st)) H := hZ
                    exact absurd (zX_tmodS (hok.1 na h10_na)) hzx
                · obtain ⟨e1, e2⟩ := Prod.mk.inj (hbig hX)
                  rw [e2] at hZ
                  rw [← e1] at hMR hdr hpa
                  have hzx : ¬ zX ((rg na).tdiv (rg nb)) := fun h9 => absurd (hzX.mp h9) (Nat.not_lt.mpr hX)
                  have hZ : zMD E B w (fa, fa, ct, (decide (rg na < 0) != decide (rg nb < 0)), fb, sb9, (2049 - st)) H := hZ
                  exact absurd (zX_tdiv (hok.1 na h10_na)) hzx
              · refine lv_iconst (v := iZ (1)) hx hb dM_divide_99 (by decide) ?_
                refine lv_goto (tgt := 104) hx hb dM_divide_100 (by decide) ?_
                refine zc_i (y := iZ (bZ (decide (rg na < 0) != decide (rg nb < 0)))) (congrArg iZ (by have h9 : decide (rg na < 0) ≠ decide (rg nb < 0) := fun h => absurd (bZ_eq.mpr h) (by assumption); revert h9; cases decide (rg na < 0) <;> cases decide (rg nb < 0) <;> decide)) ?_
                refine lv_istore (lv' := [(6, .int (iZ (bZ (decide (rg na < 0) != decide (rg nb < 0))))), (5, .int (iZ (bZ (decide (rg na < 0))))), (0, .ref (B)), (1, .int (iZ (↑na))), (2, .int (iZ (↑nb))), (3, .int (iZ (↑nq))), (4, .int (iZ (↑nt)))]) hx hb dM_divide_104 hl (by decide) rfl (fun ls hl => ?_)
                refine lv_aload_n hx hb dM_divide_106 rfl (lv_at hl 2 rfl) ?_
                refine lv_aload_n hx hb dM_divide_107 rfl (lv_at hl 2 rfl) ?_
                refine zm_one hx hb ht hown hK hZ tw_689 dM_divide_108 ?_
                refine lv_aload_n hx hb dM_divide_111 rfl (lv_at hl 2 rfl) ?_
                refine zm_two hx hb ht hown hK hZ tw_690 dM_divide_112 ?_
                refine zcV_v (P' := fun (u : (Nat → Nat → Nat) × zC) H => zMD E B u.1 u.2 H) 2 (As := [.ref (B + 9), .ref (B + 10)]) (rest := []) rfl ⟨hx, hb, hml, hown, ht⟩ (mM_divideRows l E B w (0, fa, ct, be, fb, sb9, (2049 - st)) 9 (by decide) 10 (by decide) rfl rfl (by decide) (by decide) (by rw [hv_10]; omega) (by rw [hv_10]; exact Nat.lt_of_lt_of_le (rP_big (hok.1 nb h10_nb)) (rP_mono (by decide)))) tw_824 tw_821 tw_823 tp_17 tw_6 qM_divideRows (by rw [hR]; decide) (zm_recv hK hZ) hZ hK hl.1 rfl rfl (Nat.le_of_ble_eq_true rfl) dM_divide_115 ⟨Nat.zero_le _, Nat.zero_le _⟩ hS (fun u H locs hp hZ _ hS => ?_)
                obtain ⟨w, q9⟩ := u
                obtain ⟨ho, hq9, hdq, hdr9⟩ := hp
                dsimp only at *
                rw [hq9] at hZ
                rw [hv_9, hv_10] at hdq hdr9
                replace hMR : MR w rg := MR_same (ho 2 (by decide) (by decide)) (ho 3 (by decide) (by decide)) hMR
                replace hdr : ∀ i, i < ct → w 1 i = f i := fun i hi => by rw [ho 1 (by decide) (by decide)]; exact hdr i hi
                replace hpa : ∀ i, i < 2049 - st → w 14 i = g (st + i) := fun i hi => by rw [ho 14 (by decide) (by decide)]; exact hpa i hi
                replace hv_9 : rv (w 9) 264 = (rg na).natAbs := by rw [ho 9 (by decide) (by decide)]; exact hv_9
                replace hv_10 : rv (w 10) 264 = (rg nb).natAbs := by rw [ho 10 (by decide) (by decide)]; exact hv_10
                have hv_8 : rv (w 8) 264 = ((rg na).natAbs) / ((rg nb).natAbs) := hdq
                clear hdq
                have hv_7 : rv (w 7) 264 = ((rg na).natAbs) % ((rg nb).natAbs) := hdr9
                clear hdr9
                refine lv_aload_n hx hb dM_divide_118 rfl (lv_at hl 2 rfl) ?_
                refine zm_quotient hx hb ht hown hK hZ tw_688 dM_divide_119 ?_
                refine lv_aload_n hx hb dM_divide_122 rfl (lv_at hl 2 rfl) ?_
                refine zm_row hx hb ht hown hK hZ tw_683 dM_divide_123 ?_
                refine zcS_v (P' := fun (u : (Nat → Nat → Nat) × zC) H => zMD E B u.1 u.2 H) 2 (As := [.ref (B + 8), .ref (B + 4)]) (rest := []) ⟨hx, hb, hml, hown, ht⟩ (mM_copy l E B w (0, fa, ct, be, fb, sb9, (2049 - st)) 8 (by decide) 4 (by decide) 264 rfl (by decide) 264 rfl (by decide) (by decide)) tw_798 tw_796 tw_797 tw_6 qM_copy (by rw [hR]; decide) hZ hK hl.1 rfl rfl (Nat.le_of_ble_eq_true rfl) dM_divide_126 ⟨Nat.zero_le _, Nat.zero_le _⟩ hS (fun u H locs hp hZ _ hS => ?_)
                obtain ⟨w, q9⟩ := u
                obtain ⟨ho, hq9, hcp⟩ := hp
                dsimp only at *
                rw [hq9] at hZ
                have hcv : rv (w 4) 264 = ((rg na).natAbs) / ((rg nb).natAbs) := by rw [rv_congr (fun i hi => (hcp i hi).trans (if_pos hi))]; exact hv_8
                replace hMR : MR w rg := MR_same (ho 2 (by decide)) (ho 3 (by decide)) hMR
                replace hdr : ∀ i, i < ct → w 1 i = f i := fun i hi => by rw [ho 1 (by decide)]; exact hdr i hi
                replace hpa : ∀ i, i < 2049 - st → w 14 i = g (st + i) := fun i hi => by rw [ho 14 (by decide)]; exact hpa i hi
                replace hv_9 : rv (w 9) 264 = (rg na).natAbs := by rw [ho 9 (by decide)]; exact hv_9
                replace hv_10 : rv (w 10) 264 = (rg nb).natAbs := by rw [ho 10 (by decide)]; exact hv_10
                replace hv_8 : rv (w 8) 264 = ((rg na).natAbs) / ((rg nb).natAbs) := by rw [ho 8 (by decide)]; exact hv_8
                replace hv_7 : rv (w 7) 264 = ((rg na).natAbs) % ((rg nb).natAbs) := by rw [ho 7 (by decide)]; exact hv_7
                have hv_4 : rv (w 4) 264 = ((rg na).natAbs) / ((rg nb).natAbs) := hcv
                clear hcv
                refine lv_aload_n hx hb dM_divide_129 rfl (lv_at hl 2 rfl) ?_
                refine lv_iload hx hb dM_divide_130 (lv_at hl 0 rfl) ?_
                refine zm_put_below (x := (decide (rg na < 0) != decide (rg nb < 0))) hx hb ht hown hK hZ hS tw_684 dM_divide_132 (fun H locs hZ hS => ?_)
                have hZ : zMD E B w (0, fa, ct, (decide (rg na < 0) != decide (rg nb < 0)), fb, sb9, (2049 - st)) H := hZ
                refine lv_aload_n hx hb dM_divide_135 rfl (lv_at hl 2 rfl) ?_
                refine lv_iload_n hx hb dM_divide_136 rfl (lv_at hl 5 rfl) ?_
                refine zcV_v (P' := fun (u : (Nat → Nat → Nat) × zC) H => zMD E B u.1 u.2 H) 1 (As := [.int (iZ (↑nq))]) (rest := []) rfl ⟨hx, hb, hml, hown, ht⟩ (mM_store l E B w (0, fa, ct, (decide (rg na < 0) != decide (rg nb < 0)), fb, sb9, (2049 - st)) nq h10_nq rg hMR) tw_779 tw_776 tw_778 tp_12 tw_6 qM_store (by rw [hR]; decide) (zm_recv hK hZ) hZ hK hl.1 rfl rfl (Nat.le_of_ble_eq_true rfl) dM_divide_137 ⟨Nat.zero_le _, Nat.zero_le _⟩ hS (fun u H locs hp hZ _ hS => ?_)
                obtain ⟨w, q9⟩ := u
                obtain ⟨ho, hbig, hfit⟩ := hp
                dsimp only at *
                rw [hv_4] at hbig hfit
                have hzz : (if (decide (rg na < 0) != decide (rg nb < 0)) = true then -(((((rg na).natAbs) / ((rg nb).natAbs) : Nat) : Int)) else ((((rg na).natAbs) / ((rg nb).natAbs) : Nat) : Int)) = (rg na).tdiv (rg nb) := tdiv_sgn _ _
                have hzX : zX ((rg na).tdiv (rg nb)) ↔ ((rg na).natAbs) / ((rg nb).natAbs) < rP 128 := by rw [← hzz]; exact zX_if
                rcases Nat.lt_or_ge (((rg na).natAbs) / ((rg nb).natAbs)) (rP 128) with hX | hX
                · obtain ⟨hq9, hMR9⟩ := hfit hX
                  rw [hq9] at hZ
                  rw [hzz] at hMR9
                  have hzx := hzX.mpr hX
                  replace hdr : ∀ i, i < ct → w 1 i = f i := fun i hi => by rw [ho 1 (by decide) (by decide)]; exact hdr i hi
                  replace hpa : ∀ i, i < 2049 - st → w 14 i = g (st + i) := fun i hi => by rw [ho 14 (by decide) (by decide)]; exact hpa i hi
                  replace hv_9 : rv (w 9) 264 = (rg na).natAbs := by rw [ho 9 (by decide) (by decide)]; exact hv_9
                  replace hv_10 : rv (w 10) 264 = (rg nb).natAbs := by rw [ho 10 (by decide) (by decide)]; exact hv_10
                  replace hv_8 : rv (w 8) 264 = ((rg na).natAbs) / ((rg nb).natAbs) := by rw [ho 8 (by decide) (by decide)]; exact hv_8
                  replace hv_7 : rv (w 7) 264 = ((rg na).natAbs) % ((rg nb).natAbs) := by rw [ho 7 (by decide) (by decide)]; exact hv_7
                  replace hv_4 : rv (w 4) 264 = ((rg na).natAbs) / ((rg nb).natAbs) := by rw [ho 4 (by decide) (by decide)]; exact hv_4
                  have hMR : MR w (va_up rg nq ((rg na).tdiv (rg nb))) := hMR9
                  refine lv_aload_n hx hb dM_divide_140 rfl (lv_at hl 2 rfl) ?_
                  refine zm_rest hx hb ht hown hK hZ tw_687 dM_divide_141 ?_
                  refine lv_aload_n hx hb dM_divide_144 rfl (lv_at hl 2 rfl) ?_
                  refine zm_row hx hb ht hown hK hZ tw_683 dM_divide_145 ?_
                  refine zcS_v (P' := fun (u : (Nat → Nat → Nat) × zC) H => zMD E B u.1 u.2 H) 2 (As := [.ref (B + 7), .ref (B + 4)]) (rest := []) ⟨hx, hb, hml, hown, ht⟩ (mM_copy l E B w (0, fa, ct, (decide (rg na < 0) != decide (rg nb < 0)), fb, sb9, (2049 - st)) 7 (by decide) 4 (by decide) 264 rfl (by decide) 264 rfl (by decide) (by decide)) tw_798 tw_796 tw_797 tw_6 qM_copy (by rw [hR]; decide) hZ hK hl.1 rfl rfl (Nat.le_of_ble_eq_true rfl) dM_divide_148 ⟨Nat.zero_le _, Nat.zero_le _⟩ hS (fun u H locs hp hZ _ hS => ?_)
                  obtain ⟨w, q9⟩ := u
                  obtain ⟨ho, hq9, hcp⟩ := hp
                  dsimp only at *
                  rw [hq9] at hZ
                  have hcv : rv (w 4) 264 = ((rg na).natAbs) % ((rg nb).natAbs) := by rw [rv_congr (fun i hi => (hcp i hi).trans (if_pos hi))]; exact hv_7
                  replace hMR : MR w (va_up rg nq ((rg na).tdiv (rg nb))) := MR_same (ho 2 (by decide)) (ho 3 (by decide)) hMR
                  replace hdr : ∀ i, i < ct → w 1 i = f i := fun i hi => by rw [ho 1 (by decide)]; exact hdr i hi
                  replace hpa : ∀ i, i < 2049 - st → w 14 i = g (st + i) := fun i hi => by rw [ho 14 (by decide)]; exact hpa i hi
                  replace hv_9 : rv (w 9) 264 = (rg na).natAbs := by rw [ho 9 (by decide)]; exact hv_9
                  replace hv_10 : rv (w 10) 264 = (rg nb).natAbs := by rw [ho 10 (by decide)]; exact hv_10
                  replace hv_8 : rv (w 8) 264 = ((rg na).natAbs) / ((rg nb).natAbs) := by rw [ho 8 (by decide)]; exact hv_8
                  replace hv_7 : rv (w 7) 264 = ((rg na).natAbs) % ((rg nb).natAbs) := by rw [ho 7 (by decide)]; exact hv_7
                  clear hv_4
                  have hv_4 : rv (w 4) 264 = ((rg na).natAbs) % ((rg nb).natAbs) := hcv
                  clear hcv
                  refine lv_aload_n hx hb dM_divide_151 rfl (lv_at hl 2 rfl) ?_
                  refine lv_iload hx hb dM_divide_152 (lv_at hl 1 rfl) ?_
                  refine zm_put_below (x := (decide (rg na < 0))) hx hb ht hown hK hZ hS tw_684 dM_divide_154 (fun H locs hZ hS => ?_)
                  have hZ : zMD E B w (0, fa, ct, (decide (rg na < 0)), fb, sb9, (2049 - st)) H := hZ
                  refine lv_aload_n hx hb dM_divide_157 rfl (lv_at hl 2 rfl) ?_
                  refine lv_iload hx hb dM_divide_158 (lv_at hl 6 rfl) ?_
                  refine zcV_v (P' := fun (u : (Nat → Nat → Nat) × zC) H => zMD E B u.1 u.2 H) 1 (As := [.int (iZ (↑nt))]) (rest := []) rfl ⟨hx, hb, hml, hown, ht⟩ (mM_store l E B w (0, fa, ct, (decide (rg na < 0)), fb, sb9, (2049 - st)) nt h10_nt (va_up rg nq ((rg na).tdiv (rg nb))) hMR) tw_779 tw_776 tw_778 tp_12 tw_6 qM_store (by rw [hR]; decide) (zm_recv hK hZ) hZ hK hl.1 rfl rfl (Nat.le_of_ble_eq_true rfl) dM_divide_160 ⟨Nat.zero_le _, Nat.zero_le _⟩ hS (fun u H locs hp hZ _ hS => ?_)
                  obtain ⟨w, q9⟩ := u
                  obtain ⟨ho, hbig, hfit⟩ := hp
                  dsimp only at *
                  rw [hv_4] at hbig hfit
                  have hzz : (if (decide (rg na < 0)) = true then -(((((rg na).natAbs) % ((rg nb).natAbs) : Nat) : Int)) else ((((rg na).natAbs) % ((rg nb).natAbs) : Nat) : Int)) = (rg na).tmod (rg nb) := tmod_sgn _ _
                  have hzX : zX ((rg na).tmod (rg nb)) ↔ ((rg na).natAbs) % ((rg nb).natAbs) < rP 128 := by rw [← hzz]; exact zX_if
                  rcases Nat.lt_or_ge (((rg na).natAbs) % ((rg nb).natAbs)) (rP 128) with hX | hX
                  · obtain ⟨hq9, hMR9⟩ := hfit hX
                    rw [hq9] at hZ
                    rw [hzz] at hMR9
                    have hzx := hzX.mpr hX
                    replace hdr : ∀ i, i < ct → w 1 i = f i := fun i hi => by rw [ho 1 (by decide) (by decide)]; exact hdr i hi
                    replace hpa : ∀ i, i < 2049 - st → w 14 i = g (st + i) := fun i hi => by rw [ho 14 (by decide) (by decide)]; exact hpa i hi
                    replace hv_9 : rv (w 9) 264 = (rg na).natAbs := by rw [ho 9 (by decide) (by decide)]; exact hv_9
                    replace hv_10 : rv (w 10) 264 = (rg nb).natAbs := by rw [ho 10 (by decide) (by decide)]; exact hv_10
                    replace hv_8 : rv (w 8) 264 = ((rg na).natAbs) / ((rg nb).natAbs) := by rw [ho 8 (by decide) (by decide)]; exact hv_8
                    replace hv_7 : rv (w 7) 264 = ((rg na).natAbs) % ((rg nb).natAbs) := by rw [ho 7 (by decide) (by decide)]; exact hv_7
                    replace hv_4 : rv (w 4) 264 = ((rg na).natAbs) % ((rg nb).natAbs) := by rw [ho 4 (by decide) (by decide)]; exact hv_4
                    have hMR : MR w (va_up (va_up rg nq ((rg na).tdiv (rg nb))) nt ((rg na).tmod (rg nb))) := hMR9
                    exact hend 163 () _ _ _ dM_divide_163 trivial (by rcases SP_g hsp ⟨hk_na, hk_nb, hk_nq, hk_nt⟩ with ⟨_, h, _⟩ | ⟨_, h, _⟩ | ⟨hk, _, hs⟩; exact h.elim; exact absurd h hb0; subst hk; subst hs; exact ⟨hok1, w, (0, fa, ct, (decide (rg na < 0)), fb, sb9, (2049 - st)), hZ, ⟨hMR, rfl, hdr, rfl, hpa⟩, rfl⟩) hS
                  · obtain ⟨e1, e2⟩ := Prod.mk.inj (hbig hX)
                    rw [e2] at hZ
                    rw [← e1] at hMR hdr hpa
                    have hzx : ¬ zX ((rg na).tmod (rg nb)) := fun h9 => absurd (hzX.mp h9) (Nat.not_lt.mpr hX)
                    have hZ : zMD E B w (fa, fa, ct, (decide (rg na < 0)), fb, sb9, (2049 - st)) H := hZ
                    exact absurd (zX_tmodS (hok.1 na h10_na)) hzx
                · obtain ⟨e1, e2⟩ := Prod.mk.inj (hbig hX)
                  rw [e2] at hZ
                  rw [← e1] at hMR hdr hpa
                  have hzx : ¬ zX ((rg na).tdiv (rg nb)) := fun h9 => absurd (hzX.mp h9) (Nat.not_lt.mpr hX)
                  have hZ : zMD E B w (fa, fa, ct, (decide (rg na < 0) != decide (rg nb < 0)), fb, sb9, (2049 - st)) H := hZ
                  exact absurd (zX_tdiv (hok.1 na h10_na)) hzx
            · exact absurd c_9 (by decide)
          · have hb0 : rg nb = 0 := hbz.mp (bZ_nf.mp (by assumption))
            refine lv_iconst (v := iZ (2)) hx hb dM_divide_42 (by decide) ?_
            refine lv_goto (tgt := 47) hx hb dM_divide_43 (by decide) ?_
            refine W.eq (g2 := F0 m 47 ls ([.int (iZ ((2 : Nat) : Int)), .ref B])) rfl ?_
            refine zm_put_thrown (x := 2) hx hb ht hown hK hZ hS tw_677 dM_divide_47 (fun H locs hZ hS => ?_)
            have hZ : zMD E B w0 (2, fa, ct, be, fb, sb9, (2049 - st)) H := hZ
            refine lv_aload_n hx hb dM_divide_50 rfl (lv_at hl 0 rfl) ?_
            refine zm_thrown hx hb ht hown hK hZ tw_677 dM_divide_51 ?_
            refine zc_i (y := iZ (((2 : Nat) : Int))) rfl ?_
            refine zr_if_le (tgt := 58) hx hb (by decide) dM_divide_54 (by decide) (fun c_11 => ?_) (fun c_11 => ?_)
            · exact absurd c_11 (by decide)
            · exact hend 57 () _ _ _ dM_divide_57 trivial (by rcases SP_g hsp ⟨hk_na, hk_nb, hk_nq, hk_nt⟩ with ⟨_, h, _⟩ | ⟨hk, h, hs⟩ | ⟨_, h, _⟩; exact h.elim; subst hk; subst hs; exact ⟨hok1, w0, (2, fa, ct, be, fb, sb9, (2049 - st)), hZ, ⟨hMR, rfl, hdr, rfl, hpa⟩, rfl⟩; exact absurd hb0 h) hS
        · have hng : ¬ rok t := hbt.mp (bZ_nf.mp (by assumption))
          refine lv_iconst (v := iZ (1)) hx hb dM_divide_30 (by decide) ?_
          refine lv_goto (tgt := 47) hx hb dM_divide_31 (by decide) ?_
          refine W.eq (g2 := F0 m 47 ls ([.int (iZ ((1 : Nat) : Int)), .ref B])) rfl ?_
          refine zm_put_thrown (x := 1) hx hb ht hown hK hZ hS tw_677 dM_divide_47 (fun H locs hZ hS => ?_)
          have hZ : zMD E B w0 (1, fa, ct, be, fb, sb9, (2049 - st)) H := hZ
          refine lv_aload_n hx hb dM_divide_50 rfl (lv_at hl 0 rfl) ?_
          refine zm_thrown hx hb ht hown hK hZ tw_677 dM_divide_51 ?_
          refine zc_i (y := iZ (((1 : Nat) : Int))) rfl ?_
          refine zr_if_le (tgt := 58) hx hb (by decide) dM_divide_54 (by decide) (fun c_12 => ?_) (fun c_12 => ?_)
          · exact absurd c_12 (by decide)
          · exact hend 57 () _ _ _ dM_divide_57 trivial (by obtain ⟨hk, hs⟩ := SP_1 hsp (fun h9 => hng (by first | exact h9 | exact h9.1 | exact h9.2.1 | exact h9.2.2.1 | exact h9.2.2.2.1 | exact h9.2.2.2 | exact h9.2.2 | exact h9.2)); subst hk; subst hs; exact ⟨hok1, w0, (1, fa, ct, be, fb, sb9, (2049 - st)), hZ, ⟨hMR, rfl, hdr, rfl, hpa⟩, rfl⟩) hS

set_option maxHeartbeats 4000000 in
set_option maxRecDepth 100000 in
theorem mM_isAbove0 (l : Launch) (E : zE) (B : Nat) (w0 : Nat → Nat → Nat) (q0 : zC) (rg : Nat → Int) (ct : Nat) (f : Nat → Nat) (st : Nat) (g : Nat → Nat) (hMR : MR w0 rg) (hdr : ∀ i, i < ct → w0 1 i = f i) (hpa : ∀ i, i < 2049 - st → w0 14 i = g (st + i)) (a : Nat) (h10_a : a < 10)  :
    Met l yM_isAbove0 (zws yM_isAbove0 cM_isAbove0 2 (some .boolean)) { frames := 1, cells := 0, slots := 0, locals := 30 } (zPc E (zMD E B w0 q0) [.ref (B), .int (iZ (↑a))]) (va_Qi (fun (r : Int32) (u : (Nat → Nat → Nat) × zC) => (∀ j, j ≠ 0 → u.1 j = w0 j) ∧ u = (w0, q0) ∧ ∃ b : Bool, r = iZ (bZ b) ∧ (b = true ↔ 0 < rg a)) (fun u t => zMD E B u.1 u.2 t.heap ∧ zK E t) (zA B 15)) 0 0 (zA B 15) := by
  obtain ⟨th, fa, le, be, fb, sb9, pr⟩ := q0
  refine zof_z (P' := fun (u : (Nat → Nat → Nat) × zC) H => zMD E B u.1 u.2 H) (by decide) (Nat.le_of_ble_eq_true rfl) fun p e R s m args below meth c Q ls hR hx hb hml ht hown hK hZ hl hend => ?_
  have hS : va_S (zA B 15) s.heap s.heap [] := va_S.rf
  have hown : s.vm.findClass "WholeDeskModel" = some m.cls := hown
  have hl : lv_has ls 2 [(0, .ref (B)), (1, .int (iZ (↑a)))] := hl
  have frx : ∀ jx, jx ≠ 0 → w0 jx = w0 jx := fun jx _ => rfl
  refine lv_aload_n hx hb dM_isAbove0_0 rfl (lv_at hl 0 rfl) ?_
  refine zm_minus hx hb ht hown hK hZ tw_682 dM_isAbove0_1 ?_
  refine lv_iload_n hx hb dM_isAbove0_4 rfl (lv_at hl 1 rfl) ?_
  refine zm_ldz (i := a) hx hb hK hZ (by omega) dM_isAbove0_5 ?_
  rw [show ((w0 3 a : Nat) : Int) = bZ (decide (rg a < 0)) from by rw [show w0 3 a = bN (decide (rg a < 0)) from (hMR a h10_a).2, bN_Z]]
  refine zr_if_ne (tgt := 21) hx hb (by have := bZ_01 (decide (rg a < 0)); omega) dM_isAbove0_6 (by decide) (fun c_1 => ?_) (fun c_1 => ?_)
  · refine lv_iconst (v := iZ (0)) hx hb dM_isAbove0_21 (by decide) ?_
    exact hend 22 (false) (w0, (th, fa, le, be, fb, sb9, pr)) _ _ _ dM_isAbove0_22 (⟨fun j _ => rfl, rfl, false, rfl, fun h9 => absurd h9 (by decide), fun h9 => by have h8 : rg a < 0 := of_decide_eq_true (bZ_nf.mp (by assumption)); omega⟩) hZ hS
  · have hn : ¬ rg a < 0 := of_decide_eq_false (bZ_f.mp (by assumption))
    refine lv_aload_n hx hb dM_isAbove0_9 rfl (lv_at hl 0 rfl) ?_
    refine lv_iload_n hx hb dM_isAbove0_10 rfl (lv_at hl 1 rfl) ?_
    refine zcV_i (P' := fun (u : (Nat → Nat → Nat) × zC) H => zMD E B u.1 u.2 H) 1 (As := [.int (iZ (↑a))]) (rest := []) rfl ⟨hx, hb, hml, hown, ht⟩ (mM_isZero l E B w0 (th, fa, le, be, fb, sb9, pr) a h10_a) tw_820 tw_817 tw_819 tp_16 tw_6 qM_isZero (by rw [hR]; decide) (zm_recv hK hZ) hZ hK hl.1 rfl rfl (Nat.le_of_ble_eq_true rfl) dM_isAbove0_11 ⟨Nat.zero_le _, Nat.zero_le _⟩ hS (fun r9 u H locs hp hZ _ hS => ?_)
    obtain ⟨hu9, bz, hr1, hbz⟩ := hp
    subst hr1
    rw [hu9] at hZ
    dsimp only at hZ
    clear hu9
    rw [take_0 (hMR a h10_a).1] at hbz
    refine zr_if_ne (tgt := 21) hx hb (by have := bZ_01 bz; omega) dM_isAbove0_14 (by decide) (fun c_2 => ?_) (fun c_2 => ?_)
    · refine lv_iconst (v := iZ (0)) hx hb dM_isAbove0_21 (by decide) ?_
      exact hend 22 (false) (w0, (th, fa, le, be, fb, sb9, pr)) _ _ _ dM_isAbove0_22 (⟨fun j _ => rfl, rfl, false, rfl, fun h9 => absurd h9 (by decide), fun h9 => by have h8 := hbz.mp (bZ_nf.mp (by assumption)); omega⟩) hZ hS
    · refine lv_iconst (v := iZ (1)) hx hb dM_isAbove0_17 (by decide) ?_
      refine lv_goto (tgt := 22) hx hb dM_isAbove0_18 (by decide) ?_
      exact hend 22 (true) (w0, (th, fa, le, be, fb, sb9, pr)) _ _ _ dM_isAbove0_22 (⟨fun j _ => rfl, rfl, true, rfl, fun _ => by have h9 : rg a ≠ 0 := fun h => absurd (hbz.mpr h) (by rw [show bz = false from bZ_f.mp (by assumption)]; decide); omega, fun _ => rfl⟩) hZ hS

set_option maxHeartbeats 4000000 in
set_option maxRecDepth 100000 in
theorem mM_reduce (l : Launch) (E : zE) (B : Nat) (w0 : Nat → Nat → Nat) (q0 : zC) (rg : Nat → Int) (ct : Nat) (f : Nat → Nat) (st : Nat) (g : Nat → Nat) (hMR : MR w0 rg) (hdr : ∀ i, i < ct → w0 1 i = f i) (hpa : ∀ i, i < 2049 - st → w0 14 i = g (st + i)) (a : Nat) (h10_a : a < 10) (md : Nat) (hmd : 0 < md) (hmd1 : md < rP 128) (hv_13 : rv (w0 13) 264 = md) :
    Met l yM_reduce (zws yM_reduce cM_reduce 3 none) { frames := 2, cells := 0, slots := 0, locals := 110 } (zPc E (zMD E B w0 q0) [.ref (B), .int (iZ (↑a)), .ref (B + 9)]) (va_Qv (fun u : (Nat → Nat → Nat) × zC => (∀ j, j ≠ 4 → j ≠ 7 → j ≠ 8 → j ≠ 9 → u.1 j = w0 j) ∧ u.2 = q0 ∧ ((rv (u.1 9) 264 : Nat) : Int) = rg a % ((md : Nat) : Int)) (fun u t => zMD E B u.1 u.2 t.heap ∧ zK E t) (zA B 15)) 0 0 (zA B 15) := by
  obtain ⟨th, fa, le, be, fb, sb9, pr⟩ := q0
  refine zof_v (P' := fun (u : (Nat → Nat → Nat) × zC) H => zMD E B u.1 u.2 H) (by decide) (Nat.le_of_ble_eq_true rfl) fun p e R s m args below meth c Q ls hR hx hb hml ht hown hK hZ hl hend => ?_
  have hS : va_S (zA B 15) s.heap s.heap [] := va_S.rf
  have hown : s.vm.findClass "WholeDeskModel" = some m.cls := hown
  have hl : lv_has ls 3 [(0, .ref (B)), (1, .int (iZ (↑a))), (2, .ref (B + 9))] := hl
  have frx : ∀ jx, jx ≠ 4 → jx ≠ 7 → jx ≠ 8 → jx ≠ 9 → w0 jx = w0 jx := fun jx _ _ _ _ => rfl
  have hes := emod_sgn (x := rg a) hmd
  refine lv_aload_n hx hb dM_reduce_0 rfl (lv_at hl 0 rfl) ?_
  refine lv_iload_n hx hb dM_reduce_1 rfl (lv_at hl 1 rfl) ?_
  refine lv_aload_n hx hb dM_reduce_2 rfl (lv_at hl 2 rfl) ?_
  refine zcV_v (P' := fun (u : (Nat → Nat → Nat) × zC) H => zMD E B u.1 u.2 H) 2 (As := [.int (iZ (↑a)), .ref (B + 9)]) (rest := []) rfl ⟨hx, hb, hml, hown, ht⟩ (mM_take l E B w0 (th, fa, le, be, fb, sb9, pr) a h10_a 9 (by decide) 264 rfl (by decide)) tw_791 tw_788 tw_790 tp_13 tw_6 qM_take (by rw [hR]; decide) (zm_recv hK hZ) hZ hK hl.1 rfl rfl (Nat.le_of_ble_eq_true rfl) dM_reduce_3 ⟨Nat.zero_le _, Nat.zero_le _⟩ hS (fun u H locs hp hZ _ hS => ?_)
  obtain ⟨w, q9⟩ := u
  obtain ⟨ho, hq9, hcp⟩ := hp
  dsimp only at *
  rw [hq9] at hZ
  have htk := take_val hcp (hMR a h10_a).1
  replace hMR : MR w rg := MR_same (ho 2 (by decide)) (ho 3 (by decide)) hMR
  replace hdr : ∀ i, i < ct → w 1 i = f i := fun i hi => by rw [ho 1 (by decide)]; exact hdr i hi
  replace hpa : ∀ i, i < 2049 - st → w 14 i = g (st + i) := fun i hi => by rw [ho 14 (by decide)]; exact hpa i hi
  replace hv_13 : rv (w 13) 264 = md := by rw [ho 13 (by decide)]; exact hv_13
  have frx : ∀ jx, jx ≠ 4 → jx ≠ 7 → jx ≠ 8 → jx ≠ 9 → w jx = w0 jx := fun jx h0 h1 h2 h3 => (ho jx h3).trans (frx jx h0 h1 h2 h3)
  have hv_9 : rv (w 9) 264 = (rg a).natAbs := htk
  clear htk
  refine lv_aload_n hx hb dM_reduce_6 rfl (lv_at hl 0 rfl) ?_
  refine lv_aload_n hx hb dM_reduce_7 rfl (lv_at hl 2 rfl) ?_
  refine lv_aload_n hx hb dM_reduce_8 rfl (lv_at hl 0 rfl) ?_
  refine zm_modulus hx hb ht hown hK hZ tw_695 dM_reduce_9 ?_
  refine zcV_v (P' := fun (u : (Nat → Nat → Nat) × zC) H => zMD E B u.1 u.2 H) 2 (As := [.ref (B + 9), .ref (B + 13)]) (rest := []) rfl ⟨hx, hb, hml, hown, ht⟩ (mM_divideRows l E B w (th, fa, le, be, fb, sb9, pr) 9 (by decide) 13 (by decide) rfl rfl (by decide) (by decide) (by rw [hv_13]; omega) (by rw [hv_13]; exact Nat.lt_of_lt_of_le hmd1 (rP_mono (by decide)))) tw_824 tw_821 tw_823 tp_17 tw_6 qM_divideRows (by rw [hR]; decide) (zm_recv hK hZ) hZ hK hl.1 rfl rfl (Nat.le_of_ble_eq_true rfl) dM_reduce_12 ⟨Nat.zero_le _, Nat.zero_le _⟩ hS (fun u H locs hp hZ _ hS => ?_)
  obtain ⟨w, q9⟩ := u
  obtain ⟨ho, hq9, hdq, hdr9⟩ := hp
  dsimp only at *
  rw [hq9] at hZ
  rw [hv_9, hv_13] at hdq hdr9
  replace hMR : MR w rg := MR_same (ho 2 (by decide) (by decide)) (ho 3 (by decide) (by decide)) hMR
  replace hdr : ∀ i, i < ct → w 1 i = f i := fun i hi => by rw [ho 1 (by decide) (by decide)]; exact hdr i hi
  replace hpa : ∀ i, i < 2049 - st → w 14 i = g (st + i) := fun i hi => by rw [ho 14 (by decide) (by decide)]; exact hpa i hi
  replace hv_13 : rv (w 13) 264 = md := by rw [ho 13 (by decide) (by decide)]; exact hv_13
  replace hv_9 : rv (w 9) 264 = (rg a).natAbs := by rw [ho 9 (by decide) (by decide)]; exact hv_9
  have frx : ∀ jx, jx ≠ 4 → jx ≠ 7 → jx ≠ 8 → jx ≠ 9 → w jx = w0 jx := fun jx h0 h1 h2 h3 => (ho jx h1 h2).trans (frx jx h0 h1 h2 h3)
  have hv_8 : rv (w 8) 264 = ((rg a).natAbs) / (md) := hdq
  clear hdq
  have hv_7 : rv (w 7) 264 = ((rg a).natAbs) % (md) := hdr9
  clear hdr9
  refine lv_aload_n hx hb dM_reduce_15 rfl (lv_at hl 0 rfl) ?_
  refine zm_rest hx hb ht hown hK hZ tw_687 dM_reduce_16 ?_
  refine lv_aload_n hx hb dM_reduce_19 rfl (lv_at hl 2 rfl) ?_
  refine zcS_v (P' := fun (u : (Nat → Nat → Nat) × zC) H => zMD E B u.1 u.2 H) 2 (As := [.ref (B + 7), .ref (B + 9)]) (rest := []) ⟨hx, hb, hml, hown, ht⟩ (mM_copy l E B w (th, fa, le, be, fb, sb9, pr) 7 (by decide) 9 (by decide) 264 rfl (by decide) 264 rfl (by decide) (by decide)) tw_798 tw_796 tw_797 tw_6 qM_copy (by rw [hR]; decide) hZ hK hl.1 rfl rfl (Nat.le_of_ble_eq_true rfl) dM_reduce_20 ⟨Nat.zero_le _, Nat.zero_le _⟩ hS (fun u H locs hp hZ _ hS => ?_)
  obtain ⟨w, q9⟩ := u
  obtain ⟨ho, hq9, hcp⟩ := hp
  dsimp only at *
  rw [hq9] at hZ
  have hcv : rv (w 9) 264 = ((rg a).natAbs) % (md) := by rw [rv_congr (fun i hi => (hcp i hi).trans (if_pos hi))]; exact hv_7
  replace hMR : MR w rg := MR_same (ho 2 (by decide)) (ho 3 (by decide)) hMR
  replace hdr : ∀ i, i < ct → w 1 i = f i := fun i hi => by rw [ho 1 (by decide)]; exact hdr i hi
  replace hpa : ∀ i, i < 2049 - st → w 14 i = g (st + i) := fun i hi => by rw [ho 14 (by decide)]; exact hpa i hi
  replace hv_13 : rv (w 13) 264 = md := by rw [ho 13 (by decide)]; exact hv_13
  clear hv_9
  replace hv_8 : rv (w 8) 264 = ((rg a).natAbs) / (md) := by rw [ho 8 (by decide)]; exact hv_8
  replace hv_7 : rv (w 7) 264 = ((rg a).natAbs) % (md) := by rw [ho 7 (by decide)]; exact hv_7
  have frx : ∀ jx, jx ≠ 4 → jx ≠ 7 → jx ≠ 8 → jx ≠ 9 → w jx = w0 jx := fun jx h0 h1 h2 h3 => (ho jx h3).trans (frx jx h0 h1 h2 h3)
  have hv_9 : rv (w 9) 264 = ((rg a).natAbs) % (md) := hcv
  clear hcv
  obtain ⟨x9, hx9⟩ : ∃ q, q = (rg a).natAbs % md := ⟨_, rfl⟩
  have hxm : x9 < md := by rw [hx9]; exact Nat.mod_lt _ hmd
  rw [← hx9] at hv_9 hes
  refine lv_aload_n hx hb dM_reduce_23 rfl (lv_at hl 0 rfl) ?_
  refine zm_minus hx hb ht hown hK hZ tw_682 dM_reduce_24 ?_
  refine lv_iload_n hx hb dM_reduce_27 rfl (lv_at hl 1 rfl) ?_
  refine zm_ldz (i := a) hx hb hK hZ (by omega) dM_reduce_28 ?_
  rw [show ((w 3 a : Nat) : Int) = bZ (decide (rg a < 0)) from by rw [show w 3 a = bN (decide (rg a < 0)) from (hMR a h10_a).2, bN_Z]]
  refine zr_if_eq (tgt := 72) hx hb (by have := bZ_01 (decide (rg a < 0)); omega) dM_reduce_29 (by decide) (fun c_1 => ?_) (fun c_1 => ?_)
  · exact hend 72 (w, (th, fa, le, be, fb, sb9, pr)) _ _ _ dM_reduce_72 (⟨frx, rfl, by rw [hv_9, hes, if_neg (fun h9 => absurd h9.1 (of_decide_eq_false (bZ_f.mp (by assumption))))]⟩) hZ hS
  · have hneg : rg a < 0 := of_decide_eq_true (bZ_nf.mp (by assumption))
    refine lv_aload_n hx hb dM_reduce_32 rfl (lv_at hl 2 rfl) ?_
    refine zcS_i (P' := fun (u : (Nat → Nat → Nat) × zC) H => zMD E B u.1 u.2 H) 1 (As := [.ref (B + 9)]) (rest := []) ⟨hx, hb, hml, hown, ht⟩ (mM_size l E B w (th, fa, le, be, fb, sb9, pr) 9 (by decide) 264 rfl (by decide)) tw_774 tw_772 tw_773 tw_6 qM_size (by rw [hR]; decide) hZ hK hl.1 rfl rfl (Nat.le_of_ble_eq_true rfl) dM_reduce_33 ⟨Nat.zero_le _, Nat.zero_le _⟩ hS (fun r9 u H locs hp hZ _ hS => ?_)
    obtain ⟨hu9, n, hr1, hn1, hn2, hn3⟩ := hp
    subst hr1
    rw [hu9] at hZ
    dsimp only at hZ
    clear hu9
    have hnz : ∀ q, n ≤ q ↔ x9 < rP q := fun q => by rw [← hv_9]; exact size_le (hZ.2 9) hn1 hn2 hn3 q
    refine zr_if_le (tgt := 72) hx hb (by unfold zi; omega) dM_reduce_36 (by decide) (fun c_2 => ?_) (fun c_2 => ?_)
    · exact hend 72 (w, (th, fa, le, be, fb, sb9, pr)) _ _ _ dM_reduce_72 (⟨frx, rfl, by rw [hv_9, hes, if_neg (fun h9 => h9.2 (by have h8 := (hnz 0).mp (by omega); have h7 : rP 0 = 1 := rfl; omega))]⟩) hZ hS
    · have hx0 : x9 ≠ 0 := by intro h9; have h8 := (hnz 0).mpr (by rw [h9]; exact rP_pos 0); omega
      refine lv_aload_n hx hb dM_reduce_39 rfl (lv_at hl 0 rfl) ?_
      refine zm_modulus hx hb ht hown hK hZ tw_695 dM_reduce_40 ?_
      refine lv_aload_n hx hb dM_reduce_43 rfl (lv_at hl 0 rfl) ?_
      refine zm_row hx hb ht hown hK hZ tw_683 dM_reduce_44 ?_
      refine zcS_v (P' := fun (u : (Nat → Nat → Nat) × zC) H => zMD E B u.1 u.2 H) 2 (As := [.ref (B + 13), .ref (B + 4)]) (rest := []) ⟨hx, hb, hml, hown, ht⟩ (mM_copy l E B w (th, fa, le, be, fb, sb9, pr) 13 (by decide) 4 (by decide) 264 rfl (by decide) 264 rfl (by decide) (by decide)) tw_798 tw_796 tw_797 tw_6 qM_copy (by rw [hR]; decide) hZ hK hl.1 rfl rfl (Nat.le_of_ble_eq_true rfl) dM_reduce_47 ⟨Nat.zero_le _, Nat.zero_le _⟩ hS (fun u H locs hp hZ _ hS => ?_)
      obtain ⟨w, q9⟩ := u
      obtain ⟨ho, hq9, hcp⟩ := hp
      dsimp only at *
      rw [hq9] at hZ
      have hcv : rv (w 4) 264 = md := by rw [rv_congr (fun i hi => (hcp i hi).trans (if_pos hi))]; exact hv_13
      replace hMR : MR w rg := MR_same (ho 2 (by decide)) (ho 3 (by decide)) hMR
      replace hdr : ∀ i, i < ct → w 1 i = f i := fun i hi => by rw [ho 1 (by decide)]; exact hdr i hi
      replace hpa : ∀ i, i < 2049 - st → w 14 i = g (st + i) := fun i hi => by rw [ho 14 (by decide)]; exact hpa i hi
      replace hv_13 : rv (w 13) 264 = md := by rw [ho 13 (by decide)]; exact hv_13
      replace hv_9 : rv (w 9) 264 = x9 := by rw [ho 9 (by decide)]; exact hv_9
      have frx : ∀ jx, jx ≠ 4 → jx ≠ 7 → jx ≠ 8 → jx ≠ 9 → w jx = w0 jx := fun jx h0 h1 h2 h3 => (ho jx h0).trans (frx jx h0 h1 h2 h3)
      have hv_4 : rv (w 4) 264 = md := hcv
      clear hcv
      refine lv_aload_n hx hb dM_reduce_50 rfl (lv_at hl 0 rfl) ?_
      refine zm_row hx hb ht hown hK hZ tw_683 dM_reduce_51 ?_
      refine lv_aload_n hx hb dM_reduce_54 rfl (lv_at hl 2 rfl) ?_
      refine lv_aload_n hx hb dM_reduce_55 rfl (lv_at hl 2 rfl) ?_
      refine zcS_i (P' := fun (u : (Nat → Nat → Nat) × zC) H => zMD E B u.1 u.2 H) 1 (As := [.ref (B + 9)]) (rest := [.ref (B + 9), .ref (B + 4)]) ⟨hx, hb, hml, hown, ht⟩ (mM_size l E B w (th, fa, le, be, fb, sb9, pr) 9 (by decide) 264 rfl (by decide)) tw_774 tw_772 tw_773 tw_6 qM_size (by rw [hR]; decide) hZ hK hl.1 rfl rfl (Nat.le_of_ble_eq_true rfl) dM_reduce_56 ⟨Nat.zero_le _, Nat.zero_le _⟩ hS (fun r9 u H locs hp hZ _ hS => ?_)
      obtain ⟨hu9, n2, hr1, hn21, hn22, hn23⟩ := hp
      subst hr1
      rw [hu9] at hZ
      dsimp only at hZ
      clear hu9
      have hn2z : ∀ q, n2 ≤ q ↔ x9 < rP q := fun q => by rw [← hv_9]; exact size_le (hZ.2 9) hn21 hn22 hn23 q
      refine lv_lconst (v := lZ (1)) hx hb dM_reduce_59 (by decide) ?_
      refine lv_iconst (v := iZ (1)) hx hb dM_reduce_60 (by decide) ?_
      refine W.eq (g2 := F0 m 61 ls (.int (iZ (bZ true)) :: .long (lZ ((1 : Nat) : Int)) :: .int (iZ ((n2 : Nat) : Int)) :: .ref (B + 9) :: .ref (B + 4) :: [])) rfl ?_
      refine zcS_v (P' := fun (u : (Nat → Nat → Nat) × zC) H => zMD E B u.1 u.2 H) 5 (As := [.ref (B + 4), .ref (B + 9), .int (iZ ((n2 : Nat) : Int)), .long (lZ ((1 : Nat) : Int)), .int (iZ (bZ true))]) (rest := []) ⟨hx, hb, hml, hown, ht⟩ (mM_join l E B w (th, fa, le, be, fb, sb9, pr) 4 (by decide) 9 (by decide) rfl rfl (by decide) n2 (by omega) 1 (by decide) true (hn22) (by rw [hv_4, hv_9]; rw [if_pos rfl]; omega) (by rw [hv_4, hv_9]; rw [if_pos rfl]; have h9 := rP_mono (show 128 ≤ 264 by decide); omega)) tw_801 tw_799 tw_800 tw_6 qM_join (by rw [hR]; decide) hZ hK hl.1 rfl rfl (Nat.le_of_ble_eq_true rfl) dM_reduce_61 ⟨Nat.zero_le _, Nat.zero_le _⟩ hS (fun u H locs hp hZ _ hS => ?_)
      obtain ⟨w, q9⟩ := u
      obtain ⟨ho, hq9, hjn⟩ := hp
      dsimp only at ho hq9 hZ hjn
      rw [hq9] at hZ
      rw [if_pos rfl, hv_4, hv_9] at hjn
      have hjv : rv (w 4) 264 = md - x9 := by omega
      replace hMR : MR w rg := MR_same (ho 2 (by decide)) (ho 3 (by decide)) hMR
      replace hdr : ∀ i, i < ct → w 1 i = f i := fun i hi => by rw [ho 1 (by decide)]; exact hdr i hi
      replace hpa : ∀ i, i < 2049 - st → w 14 i = g (st + i) := fun i hi => by rw [ho 14 (by decide)]; exact hpa i hi
      replace hv_13 : rv (w 13) 264 = md := by rw [ho 13 (by decide)]; exact hv_13
      replace hv_9 : rv (w 9) 264 = x9 := by rw [ho 9 (by decide)]; exact hv_9
      clear hv_4
      have frx : ∀ jx, jx ≠ 4 → jx ≠ 7 → jx ≠ 8 → jx ≠ 9 → w jx = w0 jx := fun jx h0 h1 h2 h3 => (ho jx h0).trans (frx jx h0 h1 h2 h3)
      have hv_4 : rv (w 4) 264 = md - x9 := hjv
      clear hjv
      refine lv_aload_n hx hb dM_reduce_64 rfl (lv_at hl 0 rfl) ?_
      refine zm_row hx hb ht hown hK hZ tw_683 dM_reduce_65 ?_
      refine lv_aload_n hx hb dM_reduce_68 rfl (lv_at hl 2 rfl) ?_
      refine zcS_v (P' := fun (u : (Nat → Nat → Nat) × zC) H => zMD E B u.1 u.2 H) 2 (As := [.ref (B + 4), .ref (B + 9)]) (rest := []) ⟨hx, hb, hml, hown, ht⟩ (mM_copy l E B w (th, fa, le, be, fb, sb9, pr) 4 (by decide) 9 (by decide) 264 rfl (by decide) 264 rfl (by decide) (by decide)) tw_798 tw_796 tw_797 tw_6 qM_copy (by rw [hR]; decide) hZ hK hl.1 rfl rfl (Nat.le_of_ble_eq_true rfl) dM_reduce_69 ⟨Nat.zero_le _, Nat.zero_le _⟩ hS (fun u H locs hp hZ _ hS => ?_)
      obtain ⟨w, q9⟩ := u
      obtain ⟨ho, hq9, hcp⟩ := hp
      dsimp only at *
      rw [hq9] at hZ
      have hcv : rv (w 9) 264 = md - x9 := by rw [rv_congr (fun i hi => (hcp i hi).trans (if_pos hi))]; exact hv_4
      replace hMR : MR w rg := MR_same (ho 2 (by decide)) (ho 3 (by decide)) hMR
      replace hdr : ∀ i, i < ct → w 1 i = f i := fun i hi => by rw [ho 1 (by decide)]; exact hdr i hi
      replace hpa : ∀ i, i < 2049 - st → w 14 i = g (st + i) := fun i hi => by rw [ho 14 (by decide)]; exact hpa i hi
      replace hv_13 : rv (w 13) 264 = md := by rw [ho 13 (by decide)]; exact hv_13
      clear hv_9
      replace hv_4 : rv (w 4) 264 = md - x9 := by rw [ho 4 (by decide)]; exact hv_4
      have frx : ∀ jx, jx ≠ 4 → jx ≠ 7 → jx ≠ 8 → jx ≠ 9 → w jx = w0 jx := fun jx h0 h1 h2 h3 => (ho jx h3).trans (frx jx h0 h1 h2 h3)
      have hv_9 : rv (w 9) 264 = md - x9 := hcv
      clear hcv
      exact hend 72 (w, (th, fa, le, be, fb, sb9, pr)) _ _ _ dM_reduce_72 (⟨frx, rfl, by rw [hv_9, hes, if_pos ⟨hneg, hx0⟩]; omega⟩) hZ hS

set_option maxHeartbeats 4000000 in
set_option maxRecDepth 100000 in
theorem mM_modulo (l : Launch) (E : zE) (B : Nat) (rg : Nat → Int) (ct : Nat) (f : Nat → Nat) (st : Nat) (g : Nat → Nat) (t0 : Nat) (a : Int) (hz_a : zi a) (mm : Int) (hz_mm : zi mm) (to : Int) (hz_to : zi to) (k : Nat) (σ1 : zS) (hok1 : okS σ1) (hsp : SP (rok a ∧ rok mm ∧ rok to) (False) (¬ 0 < rg mm.toNat) (fun τ => 0 < rg mm.toNat ∧ τ = (va_up rg to.toNat (rg a.toNat % rg mm.toNat), ct, f, st, g)) (rg, ct, f, st, g) k σ1) :
    Met l yM_modulo (zws yM_modulo cM_modulo 4 none) { frames := 3, cells := 0, slots := 0, locals := 150 } (zPc E (zQM E B (rg, ct, f, st, g) t0) [.ref (B), .int (iZ (a)), .int (iZ (mm)), .int (iZ (to))]) (va_Qv (fun (u : Unit) => True) (fun u t => zQM E B σ1 (tc k) t.heap ∧ zK E t) (zA B 15)) 0 0 (zA B 15) := by
  refine zof_v (P' := fun (u : Unit) H => zQM E B σ1 (tc k) H) (by decide) (Nat.le_of_ble_eq_true rfl) fun p e R s m args below meth c Q ls hR hx hb hml ht hown hK hZ hl hend => ?_
  have hS : va_S (zA B 15) s.heap s.heap [] := va_S.rf
  have hown : s.vm.findClass "WholeDeskModel" = some m.cls := hown
  have hl : lv_has ls 4 [(0, .ref (B)), (1, .int (iZ (a))), (2, .int (iZ (mm))), (3, .int (iZ (to)))] := hl
  obtain ⟨hok, w0, ⟨th, fa, le, be, fb, sb9, pr⟩, hZ, ⟨hMR, hle, hdr, hpr, hpa⟩, hth⟩ := hZ
  dsimp only at *
  rw [hle, hpr] at hZ
  clear hth hle hpr le pr
  refine lv_aload_n hx hb dM_modulo_0 rfl (lv_at hl 0 rfl) ?_
  refine lv_iload_n hx hb dM_modulo_1 rfl (lv_at hl 1 rfl) ?_
  refine zcS_i (P' := fun (u : (Nat → Nat → Nat) × zC) H => zMD E B u.1 u.2 H) 1 (As := [.int (iZ (a))]) (rest := [.ref (B)]) ⟨hx, hb, hml, hown, ht⟩ (mM_no l E B w0 (th, fa, ct, be, fb, sb9, (2049 - st)) (a) hz_a) tw_762 tw_760 tw_761 tw_6 qM_no (by rw [hR]; decide) hZ hK hl.1 rfl rfl (Nat.le_of_ble_eq_true rfl) dM_modulo_2 ⟨Nat.zero_le _, Nat.zero_le _⟩ hS (fun r9 u H locs hp hZ _ hS => ?_)
  obtain ⟨hu9, ba, hr1, hba⟩ := hp
  subst hr1
  rw [hu9] at hZ
  dsimp only at hZ
  clear hu9
  refine zr_if_ne (tgt := 22) hx hb (by have := bZ_01 ba; omega) dM_modulo_5 (by decide) (fun c_1 => ?_) (fun c_1 => ?_)
  · have hng : ¬ rok a := hba.mp (bZ_nf.mp (by assumption))
    refine lv_iconst (v := iZ (1)) hx hb dM_modulo_22 (by decide) ?_
    refine lv_goto (tgt := 39) hx hb dM_modulo_23 (by decide) ?_
    refine W.eq (g2 := F0 m 39 ls ([.int (iZ ((1 : Nat) : Int)), .ref B])) rfl ?_
    refine zm_put_thrown (x := 1) hx hb ht hown hK hZ hS tw_677 dM_modulo_39 (fun H locs hZ hS => ?_)
    have hZ : zMD E B w0 (1, fa, ct, be, fb, sb9, (2049 - st)) H := hZ
    refine lv_aload_n hx hb dM_modulo_42 rfl (lv_at hl 0 rfl) ?_
    refine zm_thrown hx hb ht hown hK hZ tw_677 dM_modulo_43 ?_
    refine zc_i (y := iZ (((1 : Nat) : Int))) rfl ?_
    refine zr_if_le (tgt := 50) hx hb (by decide) dM_modulo_46 (by decide) (fun c_2 => ?_) (fun c_2 => ?_)
    · exact absurd c_2 (by decide)
    · exact hend 49 () _ _ _ dM_modulo_49 trivial (by obtain ⟨hk, hs⟩ := SP_1 hsp (fun h9 => hng (by first | exact h9 | exact h9.1 | exact h9.2.1 | exact h9.2.2.1 | exact h9.2.2.2.1 | exact h9.2.2.2 | exact h9.2.2 | exact h9.2)); subst hk; subst hs; exact ⟨hok1, w0, (1, fa, ct, be, fb, sb9, (2049 - st)), hZ, ⟨hMR, rfl, hdr, rfl, hpa⟩, rfl⟩) hS
  · have hk_na : rok a := Classical.byContradiction (fun h9 => absurd (hba.mpr h9) (by rw [show ba = false from bZ_f.mp (by assumption)]; decide))
    obtain ⟨na, rfl⟩ : ∃ n9 : Nat, a = (n9 : Int) := ⟨a.toNat, by have := hk_na.1; omega⟩
    have h10_na : na < 10 := by have := hk_na.2; omega
    refine lv_iload_n hx hb dM_modulo_8 rfl (lv_at hl 2 rfl) ?_
    refine zcS_i (P' := fun (u : (Nat → Nat → Nat) × zC) H => zMD E B u.1 u.2 H) 1 (As := [.int (iZ (mm))]) (rest := [.ref (B)]) ⟨hx, hb, hml, hown, ht⟩ (mM_no l E B w0 (th, fa, ct, be, fb, sb9, (2049 - st)) (mm) hz_mm) tw_762 tw_760 tw_761 tw_6 qM_no (by rw [hR]; decide) hZ hK hl.1 rfl rfl (Nat.le_of_ble_eq_true rfl) dM_modulo_9 ⟨Nat.zero_le _, Nat.zero_le _⟩ hS (fun r9 u H locs hp hZ _ hS => ?_)
    obtain ⟨hu9, bmm, hr1, hbmm⟩ := hp
    subst hr1
    rw [hu9] at hZ
    dsimp only at hZ
    clear hu9
    refine zr_if_ne (tgt := 22) hx hb (by have := bZ_01 bmm; omega) dM_modulo_12 (by decide) (fun c_3 => ?_) (fun c_3 => ?_)
    · have hng : ¬ rok mm := hbmm.mp (bZ_nf.mp (by assumption))
      refine lv_iconst (v := iZ (1)) hx hb dM_modulo_22 (by decide) ?_
      refine lv_goto (tgt := 39) hx hb dM_modulo_23 (by decide) ?_
      refine W.eq (g2 := F0 m 39 ls ([.int (iZ ((1 : Nat) : Int)), .ref B])) rfl ?_
      refine zm_put_thrown (x := 1) hx hb ht hown hK hZ hS tw_677 dM_modulo_39 (fun H locs hZ hS => ?_)
      have hZ : zMD E B w0 (1, fa, ct, be, fb, sb9, (2049 - st)) H := hZ
      refine lv_aload_n hx hb dM_modulo_42 rfl (lv_at hl 0 rfl) ?_
      refine zm_thrown hx hb ht hown hK hZ tw_677 dM_modulo_43 ?_
      refine zc_i (y := iZ (((1 : Nat) : Int))) rfl ?_
      refine zr_if_le (tgt := 50) hx hb (by decide) dM_modulo_46 (by decide) (fun c_4 => ?_) (fun c_4 => ?_)
      · exact absurd c_4 (by decide)
      · exact hend 49 () _ _ _ dM_modulo_49 trivial (by obtain ⟨hk, hs⟩ := SP_1 hsp (fun h9 => hng (by first | exact h9 | exact h9.1 | exact h9.2.1 | exact h9.2.2.1 | exact h9.2.2.2.1 | exact h9.2.2.2 | exact h9.2.2 | exact h9.2)); subst hk; subst hs; exact ⟨hok1, w0, (1, fa, ct, be, fb, sb9, (2049 - st)), hZ, ⟨hMR, rfl, hdr, rfl, hpa⟩, rfl⟩) hS
    · have hk_nmm : rok mm := Classical.byContradiction (fun h9 => absurd (hbmm.mpr h9) (by rw [show bmm = false from bZ_f.mp (by assumption)]; decide))
      obtain ⟨nmm, rfl⟩ : ∃ n9 : Nat, mm = (n9 : Int) := ⟨mm.toNat, by have := hk_nmm.1; omega⟩
      have h10_nmm : nmm < 10 := by have := hk_nmm.2; omega
      refine lv_iload_n hx hb dM_modulo_15 rfl (lv_at hl 3 rfl) ?_
      refine zcS_i (P' := fun (u : (Nat → Nat → Nat) × zC) H => zMD E B u.1 u.2 H) 1 (As := [.int (iZ (to))]) (rest := [.ref (B)]) ⟨hx, hb, hml, hown, ht⟩ (mM_no l E B w0 (th, fa, ct, be, fb, sb9, (2049 - st)) (to) hz_to) tw_762 tw_760 tw_761 tw_6 qM_no (by rw [hR]; decide) hZ hK hl.1 rfl rfl (Nat.le_of_ble_eq_true rfl) dM_modulo_16 ⟨Nat.zero_le _, Nat.zero_le _⟩ hS (fun r9 u H locs hp hZ _ hS => ?_)
      obtain ⟨hu9, bto, hr1, hbto⟩ := hp
      subst hr1
      rw [hu9] at hZ
      dsimp only at hZ
      clear hu9
      refine zr_if_eq (tgt := 26) hx hb (by have := bZ_01 bto; omega) dM_modulo_19 (by decide) (fun c_5 => ?_) (fun c_5 => ?_)
      · have hk_nto : rok to := Classical.byContradiction (fun h9 => absurd (hbto.mpr h9) (by rw [show bto = false from bZ_f.mp (by assumption)]; decide))
        obtain ⟨nto, rfl⟩ : ∃ n9 : Nat, to = (n9 : Int) := ⟨to.toNat, by have := hk_nto.1; omega⟩
        have h10_nto : nto < 10 := by have := hk_nto.2; omega
        refine lv_aload_n hx hb dM_modulo_26 rfl (lv_at hl 0 rfl) ?_
        refine lv_iload_n hx hb dM_modulo_27 rfl (lv_at hl 2 rfl) ?_
        refine zcV_i (P' := fun (u : (Nat → Nat → Nat) × zC) H => zMD E B u.1 u.2 H) 1 (As := [.int (iZ (↑nmm))]) (rest := [.ref (B)]) rfl ⟨hx, hb, hml, hown, ht⟩ (mM_isAbove0 l E B w0 (th, fa, ct, be, fb, sb9, (2049 - st)) rg ct f st g hMR hdr hpa nmm h10_nmm) tw_832 tw_829 tw_831 tp_18 tw_6 qM_isAbove0 (by rw [hR]; decide) (zm_recv hK hZ) hZ hK hl.1 rfl rfl (Nat.le_of_ble_eq_true rfl) dM_modulo_28 ⟨Nat.zero_le _, Nat.zero_le _⟩ hS (fun r9 u H locs hp hZ _ hS => ?_)
        obtain ⟨_, hu9, bp, hr1, hbp⟩ := hp
        subst hr1
        rw [hu9] at hZ
        dsimp only at hZ
        clear hu9
        refine zr_if_ne (tgt := 38) hx hb (by have := bZ_01 bp; omega) dM_modulo_31 (by decide) (fun c_6 => ?_) (fun c_6 => ?_)
        · have hm0 : 0 < rg nmm := hbp.mp (bZ_nf.mp (by assumption))
          have hm128 := rP_big (hok.1 nmm h10_nmm)
          refine lv_iconst (v := iZ (0)) hx hb dM_modulo_38 (by decide) ?_
          refine W.eq (g2 := F0 m 39 ls ([.int (iZ ((0 : Nat) : Int)), .ref B])) rfl ?_
          refine zm_put_thrown (x := 0) hx hb ht hown hK hZ hS tw_677 dM_modulo_39 (fun H locs hZ hS => ?_)
          have hZ : zMD E B w0 (0, fa, ct, be, fb, sb9, (2049 - st)) H := hZ
          refine lv_aload_n hx hb dM_modulo_42 rfl (lv_at hl 0 rfl) ?_
          refine zm_thrown hx hb ht hown hK hZ tw_677 dM_modulo_43 ?_
          refine zc_i (y := iZ (((0 : Nat) : Int))) rfl ?_
          refine zr_if_le (tgt := 50) hx hb (by decide) dM_modulo_46 (by decide) (fun c_7 => ?_) (fun c_7 => ?_)
          · refine lv_aload_n hx hb dM_modulo_50 rfl (lv_at hl 0 rfl) ?_
            refine lv_iload_n hx hb dM_modulo_51 rfl (lv_at hl 2 rfl) ?_
            refine lv_aload_n hx hb dM_modulo_52 rfl (lv_at hl 0 rfl) ?_
            refine zm_modulus hx hb ht hown hK hZ tw_695 dM_modulo_53 ?_
            refine zcV_v (P' := fun (u : (Nat → Nat → Nat) × zC) H => zMD E B u.1 u.2 H) 2 (As := [.int (iZ (↑nmm)), .ref (B + 13)]) (rest := []) rfl ⟨hx, hb, hml, hown, ht⟩ (mM_take l E B w0 (0, fa, ct, be, fb, sb9, (2049 - st)) nmm h10_nmm 13 (by decide) 264 rfl (by decide)) tw_791 tw_788 tw_790 tp_13 tw_6 qM_take (by rw [hR]; decide) (zm_recv hK hZ) hZ hK hl.1 rfl rfl (Nat.le_of_ble_eq_true rfl) dM_modulo_56 ⟨Nat.zero_le _, Nat.zero_le _⟩ hS (fun u H locs hp hZ _ hS => ?_)
            obtain ⟨w, q9⟩ := u
            obtain ⟨ho, hq9, hcp⟩ := hp
            dsimp only at *
            rw [hq9] at hZ
            have htk := take_val hcp (hMR nmm h10_nmm).1
            replace hMR : MR w rg := MR_same (ho 2 (by decide)) (ho 3 (by decide)) hMR
            replace hdr : ∀ i, i < ct → w 1 i = f i := fun i hi => by rw [ho 1 (by decide)]; exact hdr i hi
            replace hpa : ∀ i, i < 2049 - st → w 14 i = g (st + i) := fun i hi => by rw [ho 14 (by decide)]; exact hpa i hi
            have hv_13 : rv (w 13) 264 = (rg nmm).natAbs := htk
            clear htk
            refine lv_aload_n hx hb dM_modulo_59 rfl (lv_at hl 0 rfl) ?_
            refine lv_iload_n hx hb dM_modulo_60 rfl (lv_at hl 1 rfl) ?_
            refine lv_aload_n hx hb dM_modulo_61 rfl (lv_at hl 0 rfl) ?_
            refine zm_one hx hb ht hown hK hZ tw_689 dM_modulo_62 ?_
            refine zcV_v (P' := fun (u : (Nat → Nat → Nat) × zC) H => zMD E B u.1 u.2 H) 2 (As := [.int (iZ (↑na)), .ref (B + 9)]) (rest := []) rfl ⟨hx, hb, hml, hown, ht⟩ (mM_reduce l E B w (0, fa, ct, be, fb, sb9, (2049 - st)) rg ct f st g hMR hdr hpa na h10_na ((rg nmm).natAbs) (by omega) (hm128) hv_13) tw_836 tw_833 tw_835 tp_19 tw_6 qM_reduce (by rw [hR]; decide) (zm_recv hK hZ) hZ hK hl.1 rfl rfl (Nat.le_of_ble_eq_true rfl) dM_modulo_65 ⟨Nat.zero_le _, Nat.zero_le _⟩ hS (fun u H locs hp hZ _ hS => ?_)
            obtain ⟨w, q9⟩ := u
            obtain ⟨ho, hq9, hrv⟩ := hp
            dsimp only at *
            rw [hq9] at hZ
            replace hMR : MR w rg := MR_same (ho 2 (by decide) (by decide) (by decide) (by decide)) (ho 3 (by decide) (by decide) (by decide) (by decide)) hMR
            replace hdr : ∀ i, i < ct → w 1 i = f i := fun i hi => by rw [ho 1 (by decide) (by decide) (by decide) (by decide)]; exact hdr i hi
            replace hpa : ∀ i, i < 2049 - st → w 14 i = g (st + i) := fun i hi => by rw [ho 14 (by decide) (by decide) (by decide) (by decide)]; exact hpa i hi
            replace hv_13 : rv (w 13) 264 = (rg nmm).natAbs := by rw [ho 13 (by decide) (by decide) (by decide) (by decide)]; exact hv_13
            have hre : rv (w 9) 264 = (rg na % (((rg nmm).natAbs : Nat) : Int)).toNat := by omega
            have hv_9 : rv (w 9) 264 = (rg na % (((rg nmm).natAbs : Nat) : Int)).toNat := hre
            clear hre
            refine lv_aload_n hx hb dM_modulo_68 rfl (lv_at hl 0 rfl) ?_
            refine zm_one hx hb ht hown hK hZ tw_689 dM_modulo_69 ?_
            refine lv_aload_n hx hb dM_modulo_72 rfl (lv_at hl 0 rfl) ?_
            refine zm_row hx hb ht hown hK hZ tw_683 dM_modulo_73 ?_
            refine zcS_v (P' := fun (u : (Nat → Nat → Nat) × zC) H => zMD E B u.1 u.2 H) 2 (As := [.ref (B + 9), .ref (B + 4)]) (rest := []) ⟨hx, hb, hml, hown, ht⟩ (mM_copy l E B w (0, fa, ct, be, fb, sb9, (2049 - st)) 9 (by decide) 4 (by decide) 264 rfl (by decide) 264 rfl (by decide) (by decide)) tw_798 tw_796 tw_797 tw_6 qM_copy (by rw [hR]; decide) hZ hK hl.1 rfl rfl (Nat.le_of_ble_eq_true rfl) dM_modulo_76 ⟨Nat.zero_le _, Nat.zero_le _⟩ hS (fun u H locs hp hZ _ hS => ?_)
            obtain ⟨w, q9⟩ := u
            obtain ⟨ho, hq9, hcp⟩ := hp
            dsimp only at *
            rw [hq9] at hZ
            have hcv : rv (w 4) 264 = (rg na % (((rg nmm).natAbs : Nat) : Int)).toNat := by rw [rv_congr (fun i hi => (hcp i hi).trans (if_pos hi))]; exact hv_9
            replace hMR : MR w rg := MR_same (ho 2 (by decide)) (ho 3 (by decide)) hMR
            replace hdr : ∀ i, i < ct → w 1 i = f i := fun i hi => by rw [ho 1 (by decide)]; exact hdr i hi
            replace hpa : ∀ i, i < 2049 - st → w 14 i = g (st + i) := fun i hi => by rw [ho 14 (by decide)]; exact hpa i hi
            replace hv_13 : rv (w 13) 264 = (rg nmm).natAbs := by rw [ho 13 (by decide)]; exact hv_13
            replace hv_9 : rv (w 9) 264 = (rg na % (((rg nmm).natAbs : Nat) : Int)).toNat := by rw [ho 9 (by decide)]; exact hv_9
            have hv_4 : rv (w 4) 264 = (rg na % (((rg nmm).natAbs : Nat) : Int)).toNat := hcv
            clear hcv
            refine lv_aload_n hx hb dM_modulo_79 rfl (lv_at hl 0 rfl) ?_
            refine lv_iconst (v := iZ (0)) hx hb dM_modulo_80 (by decide) ?_
            refine W.eq (g2 := F0 m 81 ls ([.int (iZ (bZ false)), .ref B])) rfl ?_
            refine zm_put_below (x := false) hx hb ht hown hK hZ hS tw_684 dM_modulo_81 (fun H locs hZ hS => ?_)
            have hZ : zMD E B w (0, fa, ct, false, fb, sb9, (2049 - st)) H := hZ
            refine lv_aload_n hx hb dM_modulo_84 rfl (lv_at hl 0 rfl) ?_
            refine lv_iload_n hx hb dM_modulo_85 rfl (lv_at hl 3 rfl) ?_
            refine zcV_v (P' := fun (u : (Nat → Nat → Nat) × zC) H => zMD E B u.1 u.2 H) 1 (As := [.int (iZ (↑nto))]) (rest := []) rfl ⟨hx, hb, hml, hown, ht⟩ (mM_store l E B w (0, fa, ct, false, fb, sb9, (2049 - st)) nto h10_nto rg hMR) tw_779 tw_776 tw_778 tp_12 tw_6 qM_store (by rw [hR]; decide) (zm_recv hK hZ) hZ hK hl.1 rfl rfl (Nat.le_of_ble_eq_true rfl) dM_modulo_86 ⟨Nat.zero_le _, Nat.zero_le _⟩ hS (fun u H locs hp hZ _ hS => ?_)
            obtain ⟨w, q9⟩ := u
            obtain ⟨ho, hbig, hfit⟩ := hp
            dsimp only at *
            rw [hv_4] at hbig hfit
            have hzz : (if false = true then -((((rg na % (((rg nmm).natAbs : Nat) : Int)).toNat : Nat) : Int)) else (((rg na % (((rg nmm).natAbs : Nat) : Int)).toNat : Nat) : Int)) = rg na % rg nmm := by rw [if_neg (by decide)]; have := Int.emod_nonneg (rg na) (show rg nmm ≠ 0 by omega); rw [show (((rg nmm).natAbs : Nat) : Int) = rg nmm by omega]; omega
            have hzX : zX (rg na % rg nmm) ↔ (rg na % (((rg nmm).natAbs : Nat) : Int)).toNat < rP 128 := by rw [← hzz]; exact zX_if
            rcases Nat.lt_or_ge ((rg na % (((rg nmm).natAbs : Nat) : Int)).toNat) (rP 128) with hX | hX
            · obtain ⟨hq9, hMR9⟩ := hfit hX
              rw [hq9] at hZ
              rw [hzz] at hMR9
              have hzx := hzX.mpr hX
              replace hdr : ∀ i, i < ct → w 1 i = f i := fun i hi => by rw [ho 1 (by decide) (by decide)]; exact hdr i hi
              replace hpa : ∀ i, i < 2049 - st → w 14 i = g (st + i) := fun i hi => by rw [ho 14 (by decide) (by decide)]; exact hpa i hi
              replace hv_13 : rv (w 13) 264 = (rg nmm).natAbs := by rw [ho 13 (by decide) (by decide)]; exact hv_13
              replace hv_9 : rv (w 9) 264 = (rg na % (((rg nmm).natAbs : Nat) : Int)).toNat := by rw [ho 9 (by decide) (by decide)]; exact hv_9
              replace hv_4 : rv (w 4) 264 = (rg na % (((rg nmm).natAbs : Nat) : Int)).toNat := by rw [ho 4 (by decide) (by decide)]; exact hv_4
              have hMR : MR w (va_up rg nto (rg na % rg nmm)) := hMR9
              exact hend 89 () _ _ _ dM_modulo_89 trivial (by rcases SP_g hsp ⟨hk_na, hk_nmm, hk_nto⟩ with ⟨_, h, _⟩ | ⟨_, h, _⟩ | ⟨hk, _, hs⟩; exact h.elim; exact absurd hm0 h; subst hk; subst hs; exact ⟨hok1, w, (0, fa, ct, false, fb, sb9, (2049 - st)), hZ, ⟨hMR, rfl, hdr, rfl, hpa⟩, rfl⟩) hS
            · obtain ⟨e1, e2⟩ := Prod.mk.inj (hbig hX)
              rw [e2] at hZ
              rw [← e1] at hMR hdr hpa
              have hzx : ¬ zX (rg na % rg nmm) := fun h9 => absurd (hzX.mp h9) (Nat.not_lt.mpr hX)
              have hZ : zMD E B w (fa, fa, ct, false, fb, sb9, (2049 - st)) H := hZ
              exact absurd (zX_emod (hok.1 nmm h10_nmm) hm0) hzx
          · exact absurd c_7 (by decide)
        · have hm0 : ¬ 0 < rg nmm := fun h9 => absurd (hbp.mpr h9) (by rw [show bp = false from bZ_f.mp (by assumption)]; decide)
          refine lv_iconst (v := iZ (2)) hx hb dM_modulo_34 (by decide) ?_
          refine lv_goto (tgt := 39) hx hb dM_modulo_35 (by decide) ?_
          refine W.eq (g2 := F0 m 39 ls ([.int (iZ ((2 : Nat) : Int)), .ref B])) rfl ?_
          refine zm_put_thrown (x := 2) hx hb ht hown hK hZ hS tw_677 dM_modulo_39 (fun H locs hZ hS => ?_)
          have hZ : zMD E B w0 (2, fa, ct, be, fb, sb9, (2049 - st)) H := hZ
          refine lv_aload_n hx hb dM_modulo_42 rfl (lv_at hl 0 rfl) ?_
          refine zm_thrown hx hb ht hown hK hZ tw_677 dM_modulo_43 ?_
          refine zc_i (y := iZ (((2 : Nat) : Int))) rfl ?_
          refine zr_if_le (tgt := 50) hx hb (by decide) dM_modulo_46 (by decide) (fun c_8 => ?_) (fun c_8 => ?_)
          · exact absurd c_8 (by decide)
          · exact hend 49 () _ _ _ dM_modulo_49 trivial (by rcases SP_g hsp ⟨hk_na, hk_nmm, hk_nto⟩ with ⟨_, h, _⟩ | ⟨hk, h, hs⟩ | ⟨_, h, _⟩; exact h.elim; subst hk; subst hs; exact ⟨hok1, w0, (2, fa, ct, be, fb, sb9, (2049 - st)), hZ, ⟨hMR, rfl, hdr, rfl, hpa⟩, rfl⟩; exact absurd h hm0) hS
      · have hng : ¬ rok to := hbto.mp (bZ_nf.mp (by assumption))
        refine lv_iconst (v := iZ (1)) hx hb dM_modulo_22 (by decide) ?_
        refine lv_goto (tgt := 39) hx hb dM_modulo_23 (by decide) ?_
        refine W.eq (g2 := F0 m 39 ls ([.int (iZ ((1 : Nat) : Int)), .ref B])) rfl ?_
        refine zm_put_thrown (x := 1) hx hb ht hown hK hZ hS tw_677 dM_modulo_39 (fun H locs hZ hS => ?_)
        have hZ : zMD E B w0 (1, fa, ct, be, fb, sb9, (2049 - st)) H := hZ
        refine lv_aload_n hx hb dM_modulo_42 rfl (lv_at hl 0 rfl) ?_
        refine zm_thrown hx hb ht hown hK hZ tw_677 dM_modulo_43 ?_
        refine zc_i (y := iZ (((1 : Nat) : Int))) rfl ?_
        refine zr_if_le (tgt := 50) hx hb (by decide) dM_modulo_46 (by decide) (fun c_9 => ?_) (fun c_9 => ?_)
        · exact absurd c_9 (by decide)
        · exact hend 49 () _ _ _ dM_modulo_49 trivial (by obtain ⟨hk, hs⟩ := SP_1 hsp (fun h9 => hng (by first | exact h9 | exact h9.1 | exact h9.2.1 | exact h9.2.2.1 | exact h9.2.2.2.1 | exact h9.2.2.2 | exact h9.2.2 | exact h9.2)); subst hk; subst hs; exact ⟨hok1, w0, (1, fa, ct, be, fb, sb9, (2049 - st)), hZ, ⟨hMR, rfl, hdr, rfl, hpa⟩, rfl⟩) hS

set_option maxHeartbeats 4000000 in
set_option maxRecDepth 100000 in
theorem mM_common (l : Launch) (E : zE) (B : Nat) (rg : Nat → Int) (ct : Nat) (f : Nat → Nat) (st : Nat) (g : Nat → Nat) (t0 : Nat) (a : Int) (hz_a : zi a) (b : Int) (hz_b : zi b) (to : Int) (hz_to : zi to) (k : Nat) (σ1 : zS) (hok1 : okS σ1) (hsp : SP (rok a ∧ rok b ∧ rok to) (False) (False) (fun τ => τ = (va_up rg to.toNat (((Nat.gcd (rg a.toNat).natAbs (rg b.toNat).natAbs : Nat) : Int)), ct, f, st, g)) (rg, ct, f, st, g) k σ1) :
    Met l yM_common (zws yM_common cM_common 4 none) { frames := 2, cells := 0, slots := 0, locals := 110 } (zPc E (zQM E B (rg, ct, f, st, g) t0) [.ref (B), .int (iZ (a)), .int (iZ (b)), .int (iZ (to))]) (va_Qv (fun (u : Unit) => True) (fun u t => zQM E B σ1 (tc k) t.heap ∧ zK E t) (zA B 15)) 0 0 (zA B 15) := by
  refine zof_v (P' := fun (u : Unit) H => zQM E B σ1 (tc k) H) (by decide) (Nat.le_of_ble_eq_true rfl) fun p e R s m args below meth c Q ls hR hx hb hml ht hown hK hZ hl hend => ?_
  have hS : va_S (zA B 15) s.heap s.heap [] := va_S.rf
  have hown : s.vm.findClass "WholeDeskModel" = some m.cls := hown
  have hl : lv_has ls 4 [(0, .ref (B)), (1, .int (iZ (a))), (2, .int (iZ (b))), (3, .int (iZ (to)))] := hl
  obtain ⟨hok, w0, ⟨th, fa, le, be, fb, sb9, pr⟩, hZ, ⟨hMR, hle, hdr, hpr, hpa⟩, hth⟩ := hZ
  dsimp only at *
  rw [hle, hpr] at hZ
  clear hth hle hpr le pr
  refine lv_aload_n hx hb dM_common_0 rfl (lv_at hl 0 rfl) ?_
  refine lv_iload_n hx hb dM_common_1 rfl (lv_at hl 1 rfl) ?_
  refine zcS_i (P' := fun (u : (Nat → Nat → Nat) × zC) H => zMD E B u.1 u.2 H) 1 (As := [.int (iZ (a))]) (rest := [.ref (B)]) ⟨hx, hb, hml, hown, ht⟩ (mM_no l E B w0 (th, fa, ct, be, fb, sb9, (2049 - st)) (a) hz_a) tw_762 tw_760 tw_761 tw_6 qM_no (by rw [hR]; decide) hZ hK hl.1 rfl rfl (Nat.le_of_ble_eq_true rfl) dM_common_2 ⟨Nat.zero_le _, Nat.zero_le _⟩ hS (fun r9 u H locs hp hZ _ hS => ?_)
  obtain ⟨hu9, ba, hr1, hba⟩ := hp
  subst hr1
  rw [hu9] at hZ
  dsimp only at hZ
  clear hu9
  refine zr_if_ne (tgt := 22) hx hb (by have := bZ_01 ba; omega) dM_common_5 (by decide) (fun c_1 => ?_) (fun c_1 => ?_)
  · have hng : ¬ rok a := hba.mp (bZ_nf.mp (by assumption))
    refine lv_iconst (v := iZ (1)) hx hb dM_common_22 (by decide) ?_
    refine lv_goto (tgt := 27) hx hb dM_common_23 (by decide) ?_
    refine W.eq (g2 := F0 m 27 ls ([.int (iZ ((1 : Nat) : Int)), .ref B])) rfl ?_
    refine zm_put_thrown (x := 1) hx hb ht hown hK hZ hS tw_677 dM_common_27 (fun H locs hZ hS => ?_)
    have hZ : zMD E B w0 (1, fa, ct, be, fb, sb9, (2049 - st)) H := hZ
    refine lv_aload_n hx hb dM_common_30 rfl (lv_at hl 0 rfl) ?_
    refine zm_thrown hx hb ht hown hK hZ tw_677 dM_common_31 ?_
    refine zc_i (y := iZ (((1 : Nat) : Int))) rfl ?_
    refine zr_if_le (tgt := 38) hx hb (by decide) dM_common_34 (by decide) (fun c_2 => ?_) (fun c_2 => ?_)
    · exact absurd c_2 (by decide)
    · exact hend 37 () _ _ _ dM_common_37 trivial (by obtain ⟨hk, hs⟩ := SP_1 hsp (fun h9 => hng (by first | exact h9 | exact h9.1 | exact h9.2.1 | exact h9.2.2.1 | exact h9.2.2.2.1 | exact h9.2.2.2 | exact h9.2.2 | exact h9.2)); subst hk; subst hs; exact ⟨hok1, w0, (1, fa, ct, be, fb, sb9, (2049 - st)), hZ, ⟨hMR, rfl, hdr, rfl, hpa⟩, rfl⟩) hS
  · have hk_na : rok a := Classical.byContradiction (fun h9 => absurd (hba.mpr h9) (by rw [show ba = false from bZ_f.mp (by assumption)]; decide))
    obtain ⟨na, rfl⟩ : ∃ n9 : Nat, a = (n9 : Int) := ⟨a.toNat, by have := hk_na.1; omega⟩
    have h10_na : na < 10 := by have := hk_na.2; omega
    refine lv_iload_n hx hb dM_common_8 rfl (lv_at hl 2 rfl) ?_
    refine zcS_i (P' := fun (u : (Nat → Nat → Nat) × zC) H => zMD E B u.1 u.2 H) 1 (As := [.int (iZ (b))]) (rest := [.ref (B)]) ⟨hx, hb, hml, hown, ht⟩ (mM_no l E B w0 (th, fa, ct, be, fb, sb9, (2049 - st)) (b) hz_b) tw_762 tw_760 tw_761 tw_6 qM_no (by rw [hR]; decide) hZ hK hl.1 rfl rfl (Nat.le_of_ble_eq_true rfl) dM_common_9 ⟨Nat.zero_le _, Nat.zero_le _⟩ hS (fun r9 u H locs hp hZ _ hS => ?_)
    obtain ⟨hu9, bb, hr1, hbb⟩ := hp
    subst hr1
    rw [hu9] at hZ
    dsimp only at hZ
    clear hu9
    refine zr_if_ne (tgt := 22) hx hb (by have := bZ_01 bb; omega) dM_common_12 (by decide) (fun c_3 => ?_) (fun c_3 => ?_)
    · have hng : ¬ rok b := hbb.mp (bZ_nf.mp (by assumption))
      refine lv_iconst (v := iZ (1)) hx hb dM_common_22 (by decide) ?_
      refine lv_goto (tgt := 27) hx hb dM_common_23 (by decide) ?_
      refine W.eq (g2 := F0 m 27 ls ([.int (iZ ((1 : Nat) : Int)), .ref B])) rfl ?_
      refine zm_put_thrown (x := 1) hx hb ht hown hK hZ hS tw_677 dM_common_27 (fun H locs hZ hS => ?_)
      have hZ : zMD E B w0 (1, fa, ct, be, fb, sb9, (2049 - st)) H := hZ
      refine lv_aload_n hx hb dM_common_30 rfl (lv_at hl 0 rfl) ?_
      refine zm_thrown hx hb ht hown hK hZ tw_677 dM_common_31 ?_
      refine zc_i (y := iZ (((1 : Nat) : Int))) rfl ?_
      refine zr_if_le (tgt := 38) hx hb (by decide) dM_common_34 (by decide) (fun c_4 => ?_) (fun c_4 => ?_)
      · exact absurd c_4 (by decide)
      · exact hend 37 () _ _ _ dM_common_37 trivial (by obtain ⟨hk, hs⟩ := SP_1 hsp (fun h9 => hng (by first | exact h9 | exact h9.1 | exact h9.2.1 | exact h9.2.2.1 | exact h9.2.2.2.1 | exact h9.2.2.2 | exact h9.2.2 | exact h9.2)); subst hk; subst hs; exact ⟨hok1, w0, (1, fa, ct, be, fb, sb9, (2049 - st)), hZ, ⟨hMR, rfl, hdr, rfl, hpa⟩, rfl⟩) hS
    · have hk_nb : rok b := Classical.byContradiction (fun h9 => absurd (hbb.mpr h9) (by rw [show bb = false from bZ_f.mp (by assumption)]; decide))
      obtain ⟨nb, rfl⟩ : ∃ n9 : Nat, b = (n9 : Int) := ⟨b.toNat, by have := hk_nb.1; omega⟩
      have h10_nb : nb < 10 := by have := hk_nb.2; omega
      refine lv_iload_n hx hb dM_common_15 rfl (lv_at hl 3 rfl) ?_
      refine zcS_i (P' := fun (u : (Nat → Nat → Nat) × zC) H => zMD E B u.1 u.2 H) 1 (As := [.int (iZ (to))]) (rest := [.ref (B)]) ⟨hx, hb, hml, hown, ht⟩ (mM_no l E B w0 (th, fa, ct, be, fb, sb9, (2049 - st)) (to) hz_to) tw_762 tw_760 tw_761 tw_6 qM_no (by rw [hR]; decide) hZ hK hl.1 rfl rfl (Nat.le_of_ble_eq_true rfl) dM_common_16 ⟨Nat.zero_le _, Nat.zero_le _⟩ hS (fun r9 u H locs hp hZ _ hS => ?_)
      obtain ⟨hu9, bto, hr1, hbto⟩ := hp
      subst hr1
      rw [hu9] at hZ
      dsimp only at hZ
      clear hu9
      refine zr_if_eq (tgt := 26) hx hb (by have := bZ_01 bto; omega) dM_common_19 (by decide) (fun c_5 => ?_) (fun c_5 => ?_)
      · have hk_nto : rok to := Classical.byContradiction (fun h9 => absurd (hbto.mpr h9) (by rw [show bto = false from bZ_f.mp (by assumption)]; decide))
        obtain ⟨nto, rfl⟩ : ∃ n9 : Nat, to = (n9 : Int) := ⟨to.toNat, by have := hk_nto.1; omega⟩
        have h10_nto : nto < 10 := by have := hk_nto.2; omega
        refine lv_iconst (v := iZ (0)) hx hb dM_common_26 (by decide) ?_
        refine W.eq (g2 := F0 m 27 ls ([.int (iZ ((0 : Nat) : Int)), .ref B])) rfl ?_
        refine zm_put_thrown (x := 0) hx hb ht hown hK hZ hS tw_677 dM_common_27 (fun H locs hZ hS => ?_)
        have hZ : zMD E B w0 (0, fa, ct, be, fb, sb9, (2049 - st)) H := hZ
        refine lv_aload_n hx hb dM_common_30 rfl (lv_at hl 0 rfl) ?_
        refine zm_thrown hx hb ht hown hK hZ tw_677 dM_common_31 ?_
        refine zc_i (y := iZ (((0 : Nat) : Int))) rfl ?_
        refine zr_if_le (tgt := 38) hx hb (by decide) dM_common_34 (by decide) (fun c_6 => ?_) (fun c_6 => ?_)
        · refine lv_aload_n hx hb dM_common_38 rfl (lv_at hl 0 rfl) ?_
          refine lv_iload_n hx hb dM_common_39 rfl (lv_at hl 1 rfl) ?_
          refine lv_aload_n hx hb dM_common_40 rfl (lv_at hl 0 rfl) ?_
          refine zm_one hx hb ht hown hK hZ tw_689 dM_common_41 ?_
          refine zcV_v (P' := fun (u : (Nat → Nat → Nat) × zC) H => zMD E B u.1 u.2 H) 2 (As := [.int (iZ (↑na)), .ref (B + 9)]) (rest := []) rfl ⟨hx, hb, hml, hown, ht⟩ (mM_take l E B w0 (0, fa, ct, be, fb, sb9, (2049 - st)) na h10_na 9 (by decide) 264 rfl (by decide)) tw_791 tw_788 tw_790 tp_13 tw_6 qM_take (by rw [hR]; decide) (zm_recv hK hZ) hZ hK hl.1 rfl rfl (Nat.le_of_ble_eq_true rfl) dM_common_44 ⟨Nat.zero_le _, Nat.zero_le _⟩ hS (fun u H locs hp hZ _ hS => ?_)
          obtain ⟨w, q9⟩ := u
          obtain ⟨ho, hq9, hcp⟩ := hp
          dsimp only at *
          rw [hq9] at hZ
          have htk := take_val hcp (hMR na h10_na).1
          replace hMR : MR w rg := MR_same (ho 2 (by decide)) (ho 3 (by decide)) hMR
          replace hdr : ∀ i, i < ct → w 1 i = f i := fun i hi => by rw [ho 1 (by decide)]; exact hdr i hi
          replace hpa : ∀ i, i < 2049 - st → w 14 i = g (st + i) := fun i hi => by rw [ho 14 (by decide)]; exact hpa i hi
          have hv_9 : rv (w 9) 264 = (rg na).natAbs := htk
          clear htk
          refine lv_aload_n hx hb dM_common_47 rfl (lv_at hl 0 rfl) ?_
          refine lv_iload_n hx hb dM_common_48 rfl (lv_at hl 2 rfl) ?_
          refine lv_aload_n hx hb dM_common_49 rfl (lv_at hl 0 rfl) ?_
          refine zm_two hx hb ht hown hK hZ tw_690 dM_common_50 ?_
          refine zcV_v (P' := fun (u : (Nat → Nat → Nat) × zC) H => zMD E B u.1 u.2 H) 2 (As := [.int (iZ (↑nb)), .ref (B + 10)]) (rest := []) rfl ⟨hx, hb, hml, hown, ht⟩ (mM_take l E B w (0, fa, ct, be, fb, sb9, (2049 - st)) nb h10_nb 10 (by decide) 264 rfl (by decide)) tw_791 tw_788 tw_790 tp_13 tw_6 qM_take (by rw [hR]; decide) (zm_recv hK hZ) hZ hK hl.1 rfl rfl (Nat.le_of_ble_eq_true rfl) dM_common_53 ⟨Nat.zero_le _, Nat.zero_le _⟩ hS (fun u H locs hp hZ _ hS => ?_)
          obtain ⟨w, q9⟩ := u
          obtain ⟨ho, hq9, hcp⟩ := hp
          dsimp only at *
          rw [hq9] at hZ
          have htk := take_val hcp (hMR nb h10_nb).1
          replace hMR : MR w rg := MR_same (ho 2 (by decide)) (ho 3 (by decide)) hMR
          replace hdr : ∀ i, i < ct → w 1 i = f i := fun i hi => by rw [ho 1 (by decide)]; exact hdr i hi
          replace hpa : ∀ i, i < 2049 - st → w 14 i = g (st + i) := fun i hi => by rw [ho 14 (by decide)]; exact hpa i hi
          replace hv_9 : rv (w 9) 264 = (rg na).natAbs := by rw [ho 9 (by decide)]; exact hv_9
          have hv_10 : rv (w 10) 264 = (rg nb).natAbs := htk
          clear htk
          have L56 : ∀ (fu : Nat) (x1 : Nat) (y1 : Nat) (w : Nat → Nat → Nat) (H : Heap) (locs : List Loc) (ls : Array Slot), y1 < fu → (Nat.gcd x1 y1 = Nat.gcd (rg na).natAbs (rg nb).natAbs) → (y1 < rP 128) → (MR w rg) → (∀ i, i < ct → w 1 i = f i) → (∀ i, i < 2049 - st → w 14 i = g (st + i)) → (rv (w 9) 264 = x1) → (rv (w 10) 264 = y1) → zMD E B w (0, fa, ct, be, fb, sb9, (2049 - st)) H → va_S (zA B 15) s.heap H locs → lv_has ls 4 [(0, .ref (B)), (3, .int (iZ (↑nto)))] → W p l e R s m args below meth c H locs 0 0 Q (F0 m 56 ls []) := by
            intro fu
            induction fu with
            | zero => intro x1 y1 w H locs ls hm; exact absurd hm (Nat.not_lt_zero _)
            | succ fu ihL56 =>
              intro x1 y1 w H locs ls hm hg9 hy1 hMR hdr hpa hv_9 hv_10 hZ hS hl
              refine lv_aload_n hx hb dM_common_56 rfl (lv_at hl 0 rfl) ?_
              refine zm_two hx hb ht hown hK hZ tw_690 dM_common_57 ?_
              refine zcS_i (P' := fun (u : (Nat → Nat → Nat) × zC) H => zMD E B u.1 u.2 H) 1 (As := [.ref (B + 10)]) (rest := []) ⟨hx, hb, hml, hown, ht⟩ (mM_size l E B w (0, fa, ct, be, fb, sb9, (2049 - st)) 10 (by decide) 264 rfl (by decide)) tw_774 tw_772 tw_773 tw_6 qM_size (by rw [hR]; decide) hZ hK hl.1 rfl rfl (Nat.le_of_ble_eq_true rfl) dM_common_60 ⟨Nat.zero_le _, Nat.zero_le _⟩ hS (fun r9 u H locs hp hZ _ hS => ?_)
              obtain ⟨hu9, n, hr1, hn1, hn2, hn3⟩ := hp
              subst hr1
              rw [hu9] at hZ
              dsimp only at hZ
              clear hu9
              have hnz : ∀ q, n ≤ q ↔ y1 < rP q := fun q => by rw [← hv_10]; exact size_le (hZ.2 10) hn1 hn2 hn3 q
              refine zr_if_le (tgt := 103) hx hb (by unfold zi; omega) dM_common_63 (by decide) (fun c_7 => ?_) (fun c_7 => ?_)
              · have hy0 : y1 = 0 := by have h8 := (hnz 0).mp (by omega); have h7 : rP 0 = 1 := rfl; omega
                rw [hy0, Nat.gcd_zero_right] at hg9
                refine lv_aload_n hx hb dM_common_103 rfl (lv_at hl 0 rfl) ?_
                refine zm_one hx hb ht hown hK hZ tw_689 dM_common_104 ?_
                refine lv_aload_n hx hb dM_common_107 rfl (lv_at hl 0 rfl) ?_
                refine zm_row hx hb ht hown hK hZ tw_683 dM_common_108 ?_
                refine zcS_v (P' := fun (u : (Nat → Nat → Nat) × zC) H => zMD E B u.1 u.2 H) 2 (As := [.ref (B + 9), .ref (B + 4)]) (rest := []) ⟨hx, hb, hml, hown, ht⟩ (mM_copy l E B w (0, fa, ct, be, fb, sb9, (2049 - st)) 9 (by decide) 4 (by decide) 264 rfl (by decide) 264 rfl (by decide) (by decide)) tw_798 tw_796 tw_797 tw_6 qM_copy (by rw [hR]; decide) hZ hK hl.1 rfl rfl (Nat.le_of_ble_eq_true rfl) dM_common_111 ⟨Nat.zero_le _, Nat.zero_le _⟩ hS (fun u H locs hp hZ _ hS => ?_)
                obtain ⟨w, q9⟩ := u
                obtain ⟨ho, hq9, hcp⟩ := hp
                dsimp only at *
                rw [hq9] at hZ
                have hcv : rv (w 4) 264 = x1 := by rw [rv_congr (fun i hi => (hcp i hi).trans (if_pos hi))]; exact hv_9
                replace hMR : MR w rg := MR_same (ho 2 (by decide)) (ho 3 (by decide)) hMR
                replace hdr : ∀ i, i < ct → w 1 i = f i := fun i hi => by rw [ho 1 (by decide)]; exact hdr i hi
                replace hpa : ∀ i, i < 2049 - st → w 14 i = g (st + i) := fun i hi => by rw [ho 14 (by decide)]; exact hpa i hi
                replace hv_9 : rv (w 9) 264 = x1 := by rw [ho 9 (by decide)]; exact hv_9
                replace hv_10 : rv (w 10) 264 = y1 := by rw [ho 10 (by decide)]; exact hv_10
                have hv_4 : rv (w 4) 264 = x1 := hcv
                clear hcv
                refine lv_aload_n hx hb dM_common_114 rfl (lv_at hl 0 rfl) ?_
                refine lv_iconst (v := iZ (0)) hx hb dM_common_115 (by decide) ?_
                refine W.eq (g2 := F0 m 116 ls ([.int (iZ (bZ false)), .ref B])) rfl ?_
                refine zm_put_below (x := false) hx hb ht hown hK hZ hS tw_684 dM_common_116 (fun H locs hZ hS => ?_)
                have hZ : zMD E B w (0, fa, ct, false, fb, sb9, (2049 - st)) H := hZ
                refine lv_aload_n hx hb dM_common_119 rfl (lv_at hl 0 rfl) ?_
                refine lv_iload_n hx hb dM_common_120 rfl (lv_at hl 1 rfl) ?_
                refine zcV_v (P' := fun (u : (Nat → Nat → Nat) × zC) H => zMD E B u.1 u.2 H) 1 (As := [.int (iZ (↑nto))]) (rest := []) rfl ⟨hx, hb, hml, hown, ht⟩ (mM_store l E B w (0, fa, ct, false, fb, sb9, (2049 - st)) nto h10_nto rg hMR) tw_779 tw_776 tw_778 tp_12 tw_6 qM_store (by rw [hR]; decide) (zm_recv hK hZ) hZ hK hl.1 rfl rfl (Nat.le_of_ble_eq_true rfl) dM_common_121 ⟨Nat.zero_le _, Nat.zero_le _⟩ hS (fun u H locs hp hZ _ hS => ?_)
                obtain ⟨w, q9⟩ := u
                obtain ⟨ho, hbig, hfit⟩ := hp
                dsimp only at *
                rw [hv_4] at hbig hfit
                have hzz : (if false = true then -(((x1 : Nat) : Int)) else ((x1 : Nat) : Int)) = ((Nat.gcd (rg na).natAbs (rg nb).natAbs : Nat) : Int) := by rw [if_neg (by decide), hg9]
                have hzX : zX (((Nat.gcd (rg na).natAbs (rg nb).natAbs : Nat) : Int)) ↔ x1 < rP 128 := by rw [← hzz]; exact zX_if
                rcases Nat.lt_or_ge (x1) (rP 128) with hX | hX
                · obtain ⟨hq9, hMR9⟩ := hfit hX
                  rw [hq9] at hZ
                  rw [hzz] at hMR9
                  have hzx := hzX.mpr hX
                  replace hdr : ∀ i, i < ct → w 1 i = f i := fun i hi => by rw [ho 1 (by decide) (by decide)]; exact hdr i hi
                  replace hpa : ∀ i, i < 2049 - st → w 14 i = g (st + i) := fun i hi => by rw [ho 14 (by decide) (by decide)]; exact hpa i hi
                  replace hv_9 : rv (w 9) 264 = x1 := by rw [ho 9 (by decide) (by decide)]; exact hv_9
                  replace hv_10 : rv (w 10) 264 = y1 := by rw [ho 10 (by decide) (by decide)]; exact hv_10
                  replace hv_4 : rv (w 4) 264 = x1 := by rw [ho 4 (by decide) (by decide)]; exact hv_4
                  have hMR : MR w (va_up rg nto (((Nat.gcd (rg na).natAbs (rg nb).natAbs : Nat) : Int))) := hMR9
                  exact hend 124 () _ _ _ dM_common_124 trivial (by rcases SP_g hsp ⟨hk_na, hk_nb, hk_nto⟩ with ⟨_, h, _⟩ | ⟨_, h, _⟩ | ⟨hk, hs⟩; exact h.elim; exact h.elim; subst hk; subst hs; exact ⟨hok1, w, (0, fa, ct, false, fb, sb9, (2049 - st)), hZ, ⟨hMR, rfl, hdr, rfl, hpa⟩, rfl⟩) hS
                · obtain ⟨e1, e2⟩ := Prod.mk.inj (hbig hX)
                  rw [e2] at hZ
                  rw [← e1] at hMR hdr hpa
                  have hzx : ¬ zX (((Nat.gcd (rg na).natAbs (rg nb).natAbs : Nat) : Int)) := fun h9 => absurd (hzX.mp h9) (Nat.not_lt.mpr hX)
                  have hZ : zMD E B w (fa, fa, ct, false, fb, sb9, (2049 - st)) H := hZ
                  exact absurd (zX_gcd (hok.1 na h10_na) (hok.1 nb h10_nb)) hzx
              · have hy0 : y1 ≠ 0 := by intro h9; have h8 := (hnz 0).mpr (by rw [h9]; exact rP_pos 0); omega
                refine lv_aload_n hx hb dM_common_66 rfl (lv_at hl 0 rfl) ?_
                refine lv_aload_n hx hb dM_common_67 rfl (lv_at hl 0 rfl) ?_
                refine zm_one hx hb ht hown hK hZ tw_689 dM_common_68 ?_
                refine lv_aload_n hx hb dM_common_71 rfl (lv_at hl 0 rfl) ?_
                refine zm_two hx hb ht hown hK hZ tw_690 dM_common_72 ?_
                refine zcV_v (P' := fun (u : (Nat → Nat → Nat) × zC) H => zMD E B u.1 u.2 H) 2 (As := [.ref (B + 9), .ref (B + 10)]) (rest := []) rfl ⟨hx, hb, hml, hown, ht⟩ (mM_divideRows l E B w (0, fa, ct, be, fb, sb9, (2049 - st)) 9 (by decide) 10 (by decide) rfl rfl (by decide) (by decide) (by rw [hv_10]; omega) (by rw [hv_10]; exact Nat.lt_of_lt_of_le hy1 (rP_mono (by decide)))) tw_824 tw_821 tw_823 tp_17 tw_6 qM_divideRows (by rw [hR]; decide) (zm_recv hK hZ) hZ hK hl.1 rfl rfl (Nat.le_of_ble_eq_true rfl) dM_common_75 ⟨Nat.zero_le _, Nat.zero_le _⟩ hS (fun u H locs hp hZ _ hS => ?_)
                obtain ⟨w, q9⟩ := u
                obtain ⟨ho, hq9, hdq, hdr9⟩ := hp
                dsimp only at *
                rw [hq9] at hZ
                rw [hv_9, hv_10] at hdq hdr9
                replace hMR : MR w rg := MR_same (ho 2 (by decide) (by decide)) (ho 3 (by decide) (by decide)) hMR
                replace hdr : ∀ i, i < ct → w 1 i = f i := fun i hi => by rw [ho 1 (by decide) (by decide)]; exact hdr i hi
                replace hpa : ∀ i, i < 2049 - st → w 14 i = g (st + i) := fun i hi => by rw [ho 14 (by decide) (by decide)]; exact hpa i hi
                replace hv_9 : rv (w 9) 264 = x1 := by rw [ho 9 (by decide) (by decide)]; exact hv_9
                replace hv_10 : rv (w 10) 264 = y1 := by rw [ho 10 (by decide) (by decide)]; exact hv_10
                have hv_8 : rv (w 8) 264 = (x1) / (y1) := hdq
                clear hdq
                have hv_7 : rv (w 7) 264 = (x1) % (y1) := hdr9
                clear hdr9
                refine lv_aload_n hx hb dM_common_78 rfl (lv_at hl 0 rfl) ?_
                refine zm_two hx hb ht hown hK hZ tw_690 dM_common_79 ?_
                refine lv_aload_n hx hb dM_common_82 rfl (lv_at hl 0 rfl) ?_
                refine zm_one hx hb ht hown hK hZ tw_689 dM_common_83 ?_
                refine zcS_v (P' := fun (u : (Nat → Nat → Nat) × zC) H => zMD E B u.1 u.2 H) 2 (As := [.ref (B + 10), .ref (B + 9)]) (rest := []) ⟨hx, hb, hml, hown, ht⟩ (mM_copy l E B w (0, fa, ct, be, fb, sb9, (2049 - st)) 10 (by decide) 9 (by decide) 264 rfl (by decide) 264 rfl (by decide) (by decide)) tw_798 tw_796 tw_797 tw_6 qM_copy (by rw [hR]; decide) hZ hK hl.1 rfl rfl (Nat.le_of_ble_eq_true rfl) dM_common_86 ⟨Nat.zero_le _, Nat.zero_le _⟩ hS (fun u H locs hp hZ _ hS => ?_)
                obtain ⟨w, q9⟩ := u
                obtain ⟨ho, hq9, hcp⟩ := hp
                dsimp only at *
                rw [hq9] at hZ
                have hcv : rv (w 9) 264 = y1 := by rw [rv_congr (fun i hi => (hcp i hi).trans (if_pos hi))]; exact hv_10
                replace hMR : MR w rg := MR_same (ho 2 (by decide)) (ho 3 (by decide)) hMR
                replace hdr : ∀ i, i < ct → w 1 i = f i := fun i hi => by rw [ho 1 (by decide)]; exact hdr i hi
                replace hpa : ∀ i, i < 2049 - st → w 14 i = g (st + i) := fun i hi => by rw [ho 14 (by decide)]; exact hpa i hi
                clear hv_9
                replace hv_10 : rv (w 10) 264 = y1 := by rw [ho 10 (by decide)]; exact hv_10
                replace hv_8 : rv (w 8) 264 = (x1) / (y1) := by rw [ho 8 (by decide)]; exact hv_8
                replace hv_7 : rv (w 7) 264 = (x1) % (y1) := by rw [ho 7 (by decide)]; exact hv_7
                have hv_9 : rv (w 9) 264 = y1 := hcv
                clear hcv
                refine lv_aload_n hx hb dM_common_89 rfl (lv_at hl 0 rfl) ?_
                refine zm_rest hx hb ht hown hK hZ tw_687 dM_common_90 ?_
                refine lv_aload_n hx hb dM_common_93 rfl (lv_at hl 0 rfl) ?_
                refine zm_two hx hb ht hown hK hZ tw_690 dM_common_94 ?_
                refine zcS_v (P' := fun (u : (Nat → Nat → Nat) × zC) H => zMD E B u.1 u.2 H) 2 (As := [.ref (B + 7), .ref (B + 10)]) (rest := []) ⟨hx, hb, hml, hown, ht⟩ (mM_copy l E B w (0, fa, ct, be, fb, sb9, (2049 - st)) 7 (by decide) 10 (by decide) 264 rfl (by decide) 264 rfl (by decide) (by decide)) tw_798 tw_796 tw_797 tw_6 qM_copy (by rw [hR]; decide) hZ hK hl.1 rfl rfl (Nat.le_of_ble_eq_true rfl) dM_common_97 ⟨Nat.zero_le _, Nat.zero_le _⟩ hS (fun u H locs hp hZ _ hS => ?_)
                obtain ⟨w, q9⟩ := u
                obtain ⟨ho, hq9, hcp⟩ := hp
                dsimp only at *
                rw [hq9] at hZ
                have hcv : rv (w 10) 264 = (x1) % (y1) := by rw [rv_congr (fun i hi => (hcp i hi).trans (if_pos hi))]; exact hv_7
                replace hMR : MR w rg := MR_same (ho 2 (by decide)) (ho 3 (by decide)) hMR
                replace hdr : ∀ i, i < ct → w 1 i = f i := fun i hi => by rw [ho 1 (by decide)]; exact hdr i hi
                replace hpa : ∀ i, i < 2049 - st → w 14 i = g (st + i) := fun i hi => by rw [ho 14 (by decide)]; exact hpa i hi
                clear hv_10
                replace hv_8 : rv (w 8) 264 = (x1) / (y1) := by rw [ho 8 (by decide)]; exact hv_8
                replace hv_7 : rv (w 7) 264 = (x1) % (y1) := by rw [ho 7 (by decide)]; exact hv_7
                replace hv_9 : rv (w 9) 264 = y1 := by rw [ho 9 (by decide)]; exact hv_9
                have hv_10 : rv (w 10) 264 = (x1) % (y1) := hcv
                clear hcv
                refine lv_goto (tgt := 56) hx hb dM_common_100 (by decide) ?_
                exact ihL56 y1 (x1 % y1) w _ _ _ (by have := Nat.mod_lt x1 (show 0 < y1 by omega); omega) (by rw [← hg9, Nat.gcd_comm x1 y1, Nat.gcd_rec y1 x1, Nat.gcd_comm]) (Nat.lt_trans (Nat.mod_lt _ (by omega)) hy1) hMR hdr hpa hv_9 hv_10 hZ hS (lv_sub hl [0, 1] rfl)
          exact L56 _ ((rg na).natAbs) ((rg nb).natAbs) w _ _ _ (Nat.lt_succ_self _) (rfl) (rP_big (hok.1 nb h10_nb)) hMR hdr hpa hv_9 hv_10 hZ hS (lv_sub hl [0, 3] rfl)
        · exact absurd c_6 (by decide)
      · have hng : ¬ rok to := hbto.mp (bZ_nf.mp (by assumption))
        refine lv_iconst (v := iZ (1)) hx hb dM_common_22 (by decide) ?_
        refine lv_goto (tgt := 27) hx hb dM_common_23 (by decide) ?_
        refine W.eq (g2 := F0 m 27 ls ([.int (iZ ((1 : Nat) : Int)), .ref B])) rfl ?_
        refine zm_put_thrown (x := 1) hx hb ht hown hK hZ hS tw_677 dM_common_27 (fun H locs hZ hS => ?_)
        have hZ : zMD E B w0 (1, fa, ct, be, fb, sb9, (2049 - st)) H := hZ
        refine lv_aload_n hx hb dM_common_30 rfl (lv_at hl 0 rfl) ?_
        refine zm_thrown hx hb ht hown hK hZ tw_677 dM_common_31 ?_
        refine zc_i (y := iZ (((1 : Nat) : Int))) rfl ?_
        refine zr_if_le (tgt := 38) hx hb (by decide) dM_common_34 (by decide) (fun c_8 => ?_) (fun c_8 => ?_)
        · exact absurd c_8 (by decide)
        · exact hend 37 () _ _ _ dM_common_37 trivial (by obtain ⟨hk, hs⟩ := SP_1 hsp (fun h9 => hng (by first | exact h9 | exact h9.1 | exact h9.2.1 | exact h9.2.2.1 | exact h9.2.2.2.1 | exact h9.2.2.2 | exact h9.2.2 | exact h9.2)); subst hk; subst hs; exact ⟨hok1, w0, (1, fa, ct, be, fb, sb9, (2049 - st)), hZ, ⟨hMR, rfl, hdr, rfl, hpa⟩, rfl⟩) hS
