def jo (how a b : Nat) : Nat := if how = 0 then a &&& b else if how = 1 then a ||| b else if how = 2 then a ^^^ b else a &&& (b ^^^ 4294967295)
theorem jo_lt {how a b : Nat} (ha : a < 65536) (hb : b < 65536) : jo how a b < 65536 := by
  unfold jo
  split
  · exact Nat.lt_of_le_of_lt Nat.and_le_left ha
  split
  · exact Nat.or_lt_two_pow (n := 16) ha hb
  split
  · exact Nat.xor_lt_two_pow (n := 16) ha hb
  · exact Nat.lt_of_le_of_lt Nat.and_le_left ha
theorem jo_tb {how a b : Nat} (ha : a < 65536) (i : Nat) : (jo how a b).testBit i = bop how (a.testBit i) (b.testBit i) := by
  unfold jo bop
  split
  · rw [Nat.testBit_and]
  split
  · rw [Nat.testBit_or]
  split
  · rw [Nat.testBit_xor]
  · rw [Nat.testBit_and, Nat.testBit_xor, show (4294967295 : Nat) = 2 ^ 32 - 1 from rfl, Nat.testBit_two_pow_sub_one]
    rcases Nat.lt_or_ge i 32 with h | h
    · rw [decide_eq_true h]; cases b.testBit i <;> rfl
    · have h1 : a.testBit i = false := Nat.testBit_lt_two_pow (Nat.lt_of_lt_of_le ha (Nat.le_trans (show 65536 ≤ 2 ^ 32 by decide) (Nat.pow_le_pow_right (by decide) h)))
      rw [h1]; rfl
theorem rv_tb {d : Nat → Nat} (hd : ∀ i, d i < 65536) {n i : Nat} (h : i < 16 * n) : (rv d n).testBit i = (d (i / 16)).testBit (i % 16) := by
  have h1 : i / 16 < n := by omega
  rw [← rv_digit hd h1, rP_two, show (65536 : Nat) = 2 ^ 16 from rfl, Nat.testBit_mod_two_pow, decide_eq_true (Nat.mod_lt _ (by decide)), Bool.true_and, Nat.testBit_div_two_pow]
  congr 1
  omega
theorem tbz_ext {x y : Int} (h : ∀ i, tbz x i = tbz y i) : x = y := by
  have far : ∀ z : Int, ∃ n, ∀ i, n ≤ i → tbz z i = decide (z < 0) := fun z => ⟨zu z, fun i hi => by
    have h1 : (zu z).testBit i = false := Nat.testBit_lt_two_pow (Nat.lt_of_lt_of_le (Nat.lt_two_pow_self) (Nat.pow_le_pow_right (by decide) hi))
    unfold tbz
    rw [h1]
    cases decide (z < 0) <;> rfl⟩
  obtain ⟨n1, h1⟩ := far x
  obtain ⟨n2, h2⟩ := far y
  have hs : decide (x < 0) = decide (y < 0) := by rw [← h1 (n1 + n2) (by omega), ← h2 (n1 + n2) (by omega), h]
  have hu : zu x = zu y := by
    apply Nat.eq_of_testBit_eq
    intro i
    have := h i
    unfold tbz at this
    rw [hs] at this
    revert this
    cases (zu x).testBit i <;> cases (zu y).testBit i <;> cases decide (y < 0) <;> decide
  by_cases hx : x < 0
  · have hy : y < 0 := by rw [decide_eq_true hx] at hs; exact of_decide_eq_true hs.symm
    rw [zu_neg hx, zu_neg hy] at hu
    omega
  · have hy : ¬ y < 0 := by rw [decide_eq_false hx] at hs; exact of_decide_eq_false hs.symm
    rw [zu_pos hx, zu_pos hy] at hu
    omega
theorem rv_compl {d e : Nat → Nat} (hd : ∀ i, d i < 65536) : ∀ n, (∀ i, i < n → e i = 65535 - d i) → rv e n + rv d n + 1 = rP n
  | 0, _ => rfl
  | n + 1, h => by
    have ih := rv_compl hd n (fun i hi => h i (by omega))
    rw [rv_s, rv_s, h n (by omega), rP_s]
    have h1 := hd n
    have e1 : (65535 - d n) * rP n + d n * rP n = 65535 * rP n := by rw [← Nat.add_mul]; congr 1; omega
    omega
/-- the limbs taken together -/
theorem comb16 {how W : Nat} {x y : Int} {e : Nat → Nat} (hx : zX x) (hy : zX y) (hde : ∀ i, e i < 65536) (he : ∀ i, i < 129 → e i = jo how (tl x i) (tl y i)) (hW : W = rv e 129) :
    W < rP 129 ∧ (32768 ≤ e 128 → W ≠ 0) ∧ ∀ z : Int, (z = if 32768 ≤ e 128 then -((rP 129 - W : Nat) : Int) else ((W : Nat) : Int)) → ∀ i, tbz z i = bop how (tbz x i) (tbz y i) := by
  have hlt : W < rP 129 := by rw [hW]; exact rv_lt hde _
  have hbit : ∀ i, i < 2064 → W.testBit i = bop how (tbz x i) (tbz y i) := by
    intro i hi
    rw [hW, rv_tb hde (by omega), he _ (by omega), jo_tb (tl_lt _ _), tl_tb _ _ (Nat.mod_lt _ (by decide)), tl_tb _ _ (Nat.mod_lt _ (by decide)), Nat.div_add_mod]
  have hj : ∀ j, j < 16 → (e 128).testBit j = bop how (decide (x < 0)) (decide (y < 0)) := by
    intro j hj
    rw [he 128 (by decide), jo_tb (tl_lt _ _), tl_tb _ _ hj, tl_tb _ _ hj, tbz_far hx (by omega), tbz_far hy (by omega)]
  have htop : 32768 ≤ e 128 ↔ bop how (decide (x < 0)) (decide (y < 0)) = true := by
    have h15 := hj 15 (by decide)
    have h9 := tb_dm (e 128) 15
    rw [h15] at h9
    have h8 := hde 128
    constructor
    · intro h0
      have h7 : e 128 / 2 ^ 15 % 2 = 1 := by omega
      rw [h7] at h9
      cases hb : bop how (decide (x < 0)) (decide (y < 0))
      · rw [hb] at h9; exact absurd h9 (by decide)
      · rfl
    · intro h0
      rw [h0] at h9
      have h7 : e 128 / 2 ^ 15 % 2 = 1 := h9
      omega
  have hC0 : 32768 ≤ e 128 → W ≠ 0 := by
    intro h0 h9
    rw [hW, show 129 = 128 + 1 from rfl, rv_s] at h9
    have := Nat.mul_pos (show 0 < e 128 by omega) (rP_pos 128)
    omega
  refine ⟨hlt, hC0, fun z hz i => ?_⟩
  have hP : rP 129 = 2 ^ 2064 := rP_two 129
  have hrz : rp 2064 z W := by
    rw [hP] at hlt hz
    refine ⟨?_, ?_⟩
    · rw [hz]
      split
      · next h0 => have := hC0 h0; rw [Int.natAbs_neg, Int.natAbs_natCast]; omega
      · rw [Int.natAbs_natCast]; exact hlt
    · rw [hz]
      by_cases h0 : 32768 ≤ e 128
      · have := hC0 h0
        rw [if_pos h0, if_pos (by omega), Int.natAbs_neg, Int.natAbs_natCast]
        omega
      · rw [if_neg h0, if_neg (by omega), Int.natAbs_natCast]
  have hsg : decide (z < 0) = bop how (decide (x < 0)) (decide (y < 0)) := by
    rw [Bool.eq_iff_iff, decide_eq_true_iff, ← htop, hz]
    constructor
    · intro h9
      apply Classical.byContradiction
      intro h0
      rw [if_neg h0] at h9
      omega
    · intro h0
      rw [if_pos h0]
      omega
  rw [rp_tb hrz]
  split
  · next h9 => exact hbit i h9
  · next h9 => rw [tbz_far hx (by omega), tbz_far hy (by omega), hsg]
set_option maxHeartbeats 4000000 in
set_option maxRecDepth 100000 in
theorem mM_combine (l : Launch) (E : zE) (B : Nat) (rg : Nat → Int) (ct : Nat) (f : Nat → Nat) (st : Nat) (g : Nat → Nat) (t0 : Nat) (a : Int) (hz_a : zi a) (b : Int) (hz_b : zi b) (to : Int) (hz_to : zi to) (how : Int) (hz_how : zi how) (k : Nat) (σ1 : zS) (hok1 : okS σ1) (hsp : SP (rok a ∧ rok b ∧ rok to ∧ 0 ≤ how ∧ how ≤ 3) (False) (∃ zc : Int, (∀ i, tbz zc i = bop how.toNat (tbz (rg a.toNat) i) (tbz (rg b.toNat) i)) ∧ ¬ zX zc) (fun τ => ∃ zc : Int, (∀ i, tbz zc i = bop how.toNat (tbz (rg a.toNat) i) (tbz (rg b.toNat) i)) ∧ zX zc ∧ τ = (va_up rg to.toNat (zc), ct, f, st, g)) (rg, ct, f, st, g) k σ1) :
    Met l yM_combine (zws yM_combine cM_combine 8 none) { frames := 2, cells := 0, slots := 0, locals := 60 } (zPc E (zQM E B (rg, ct, f, st, g) t0) [.ref (B), .int (iZ (a)), .int (iZ (b)), .int (iZ (to)), .int (iZ (how))]) (va_Qv (fun (u : Unit) => True) (fun u t => zQM E B σ1 (tc k) t.heap ∧ zK E t) (zA B 15)) 0 0 (zA B 15) := by
  refine zof_v (P' := fun (u : Unit) H => zQM E B σ1 (tc k) H) (by decide) (Nat.le_of_ble_eq_true rfl) fun p e R s m args below meth c Q ls hR hx hb hml ht hown hK hZ hl hend => ?_
  have hS : va_S (zA B 15) s.heap s.heap [] := va_S.rf
  have hown : s.vm.findClass "WholeDeskModel" = some m.cls := hown
  have hl : lv_has ls 8 [(0, .ref (B)), (1, .int (iZ (a))), (2, .int (iZ (b))), (3, .int (iZ (to))), (4, .int (iZ (how)))] := hl
  obtain ⟨hok, w0, ⟨th, fa, le, be, fb, sb9, pr⟩, hZ, ⟨hMR, hle, hdr, hpr, hpa⟩, hth⟩ := hZ
  dsimp only at *
  rw [hle, hpr] at hZ
  clear hth hle hpr le pr
  refine lv_aload_n hx hb dM_combine_0 rfl (lv_at hl 0 rfl) ?_
  refine lv_iload_n hx hb dM_combine_1 rfl (lv_at hl 1 rfl) ?_
  refine zcS_i (P' := fun (u : (Nat → Nat → Nat) × zC) H => zMD E B u.1 u.2 H) 1 (As := [.int (iZ (a))]) (rest := [.ref (B)]) ⟨hx, hb, hml, hown, ht⟩ (mM_no l E B w0 (th, fa, ct, be, fb, sb9, (2049 - st)) (a) hz_a) tw_762 tw_760 tw_761 tw_6 qM_no (by rw [hR]; decide) hZ hK hl.1 rfl rfl (Nat.le_of_ble_eq_true rfl) dM_combine_2 ⟨Nat.zero_le _, Nat.zero_le _⟩ hS (fun r9 u H locs hp hZ _ hS => ?_)
  obtain ⟨hu9, ba, hr1, hba⟩ := hp
  subst hr1
  rw [hu9] at hZ
  dsimp only at hZ
  clear hu9
  refine zr_if_ne (tgt := 33) hx hb (by have := bZ_01 ba; omega) dM_combine_5 (by decide) (fun c_1 => ?_) (fun c_1 => ?_)
  · have hng : ¬ rok a := hba.mp (bZ_nf.mp (by assumption))
    refine lv_iconst (v := iZ (1)) hx hb dM_combine_33 (by decide) ?_
    refine lv_goto (tgt := 38) hx hb dM_combine_34 (by decide) ?_
    refine W.eq (g2 := F0 m 38 ls ([.int (iZ ((1 : Nat) : Int)), .ref B])) rfl ?_
    refine zm_put_thrown (x := 1) hx hb ht hown hK hZ hS tw_677 dM_combine_38 (fun H locs hZ hS => ?_)
    have hZ : zMD E B w0 (1, fa, ct, be, fb, sb9, (2049 - st)) H := hZ
    refine lv_aload_n hx hb dM_combine_41 rfl (lv_at hl 0 rfl) ?_
    refine zm_thrown hx hb ht hown hK hZ tw_677 dM_combine_42 ?_
    refine zc_i (y := iZ (((1 : Nat) : Int))) rfl ?_
    refine zr_if_le (tgt := 49) hx hb (by decide) dM_combine_45 (by decide) (fun c_2 => ?_) (fun c_2 => ?_)
    · exact absurd c_2 (by decide)
    · exact hend 48 () _ _ _ dM_combine_48 trivial (by obtain ⟨hk, hs⟩ := SP_1 hsp (fun h9 => hng (by first | exact h9 | exact h9.1 | exact h9.2.1 | exact h9.2.2.1 | exact h9.2.2.2.1 | exact h9.2.2.2 | exact h9.2.2 | exact h9.2)); subst hk; subst hs; exact ⟨hok1, w0, (1, fa, ct, be, fb, sb9, (2049 - st)), hZ, ⟨hMR, rfl, hdr, rfl, hpa⟩, rfl⟩) hS
  · have hk_na : rok a := Classical.byContradiction (fun h9 => absurd (hba.mpr h9) (by rw [show ba = false from bZ_f.mp (by assumption)]; decide))
    obtain ⟨na, rfl⟩ : ∃ n9 : Nat, a = (n9 : Int) := ⟨a.toNat, by have := hk_na.1; omega⟩
    have h10_na : na < 10 := by have := hk_na.2; omega
    refine lv_iload_n hx hb dM_combine_8 rfl (lv_at hl 2 rfl) ?_
    refine zcS_i (P' := fun (u : (Nat → Nat → Nat) × zC) H => zMD E B u.1 u.2 H) 1 (As := [.int (iZ (b))]) (rest := [.ref (B)]) ⟨hx, hb, hml, hown, ht⟩ (mM_no l E B w0 (th, fa, ct, be, fb, sb9, (2049 - st)) (b) hz_b) tw_762 tw_760 tw_761 tw_6 qM_no (by rw [hR]; decide) hZ hK hl.1 rfl rfl (Nat.le_of_ble_eq_true rfl) dM_combine_9 ⟨Nat.zero_le _, Nat.zero_le _⟩ hS (fun r9 u H locs hp hZ _ hS => ?_)
    obtain ⟨hu9, bb, hr1, hbb⟩ := hp
    subst hr1
    rw [hu9] at hZ
    dsimp only at hZ
    clear hu9
    refine zr_if_ne (tgt := 33) hx hb (by have := bZ_01 bb; omega) dM_combine_12 (by decide) (fun c_3 => ?_) (fun c_3 => ?_)
    · have hng : ¬ rok b := hbb.mp (bZ_nf.mp (by assumption))
      refine lv_iconst (v := iZ (1)) hx hb dM_combine_33 (by decide) ?_
      refine lv_goto (tgt := 38) hx hb dM_combine_34 (by decide) ?_
      refine W.eq (g2 := F0 m 38 ls ([.int (iZ ((1 : Nat) : Int)), .ref B])) rfl ?_
      refine zm_put_thrown (x := 1) hx hb ht hown hK hZ hS tw_677 dM_combine_38 (fun H locs hZ hS => ?_)
      have hZ : zMD E B w0 (1, fa, ct, be, fb, sb9, (2049 - st)) H := hZ
      refine lv_aload_n hx hb dM_combine_41 rfl (lv_at hl 0 rfl) ?_
      refine zm_thrown hx hb ht hown hK hZ tw_677 dM_combine_42 ?_
      refine zc_i (y := iZ (((1 : Nat) : Int))) rfl ?_
      refine zr_if_le (tgt := 49) hx hb (by decide) dM_combine_45 (by decide) (fun c_4 => ?_) (fun c_4 => ?_)
      · exact absurd c_4 (by decide)
      · exact hend 48 () _ _ _ dM_combine_48 trivial (by obtain ⟨hk, hs⟩ := SP_1 hsp (fun h9 => hng (by first | exact h9 | exact h9.1 | exact h9.2.1 | exact h9.2.2.1 | exact h9.2.2.2.1 | exact h9.2.2.2 | exact h9.2.2 | exact h9.2)); subst hk; subst hs; exact ⟨hok1, w0, (1, fa, ct, be, fb, sb9, (2049 - st)), hZ, ⟨hMR, rfl, hdr, rfl, hpa⟩, rfl⟩) hS
    · have hk_nb : rok b := Classical.byContradiction (fun h9 => absurd (hbb.mpr h9) (by rw [show bb = false from bZ_f.mp (by assumption)]; decide))
      obtain ⟨nb, rfl⟩ : ∃ n9 : Nat, b = (n9 : Int) := ⟨b.toNat, by have := hk_nb.1; omega⟩
      have h10_nb : nb < 10 := by have := hk_nb.2; omega
      refine lv_iload_n hx hb dM_combine_15 rfl (lv_at hl 3 rfl) ?_
      refine zcS_i (P' := fun (u : (Nat → Nat → Nat) × zC) H => zMD E B u.1 u.2 H) 1 (As := [.int (iZ (to))]) (rest := [.ref (B)]) ⟨hx, hb, hml, hown, ht⟩ (mM_no l E B w0 (th, fa, ct, be, fb, sb9, (2049 - st)) (to) hz_to) tw_762 tw_760 tw_761 tw_6 qM_no (by rw [hR]; decide) hZ hK hl.1 rfl rfl (Nat.le_of_ble_eq_true rfl) dM_combine_16 ⟨Nat.zero_le _, Nat.zero_le _⟩ hS (fun r9 u H locs hp hZ _ hS => ?_)
      obtain ⟨hu9, bto, hr1, hbto⟩ := hp
      subst hr1
      rw [hu9] at hZ
      dsimp only at hZ
      clear hu9
      refine zr_if_ne (tgt := 33) hx hb (by have := bZ_01 bto; omega) dM_combine_19 (by decide) (fun c_5 => ?_) (fun c_5 => ?_)
      · have hng : ¬ rok to := hbto.mp (bZ_nf.mp (by assumption))
        refine lv_iconst (v := iZ (1)) hx hb dM_combine_33 (by decide) ?_
        refine lv_goto (tgt := 38) hx hb dM_combine_34 (by decide) ?_
        refine W.eq (g2 := F0 m 38 ls ([.int (iZ ((1 : Nat) : Int)), .ref B])) rfl ?_
        refine zm_put_thrown (x := 1) hx hb ht hown hK hZ hS tw_677 dM_combine_38 (fun H locs hZ hS => ?_)
        have hZ : zMD E B w0 (1, fa, ct, be, fb, sb9, (2049 - st)) H := hZ
        refine lv_aload_n hx hb dM_combine_41 rfl (lv_at hl 0 rfl) ?_
        refine zm_thrown hx hb ht hown hK hZ tw_677 dM_combine_42 ?_
        refine zc_i (y := iZ (((1 : Nat) : Int))) rfl ?_
        refine zr_if_le (tgt := 49) hx hb (by decide) dM_combine_45 (by decide) (fun c_6 => ?_) (fun c_6 => ?_)
        · exact absurd c_6 (by decide)
        · exact hend 48 () _ _ _ dM_combine_48 trivial (by obtain ⟨hk, hs⟩ := SP_1 hsp (fun h9 => hng (by first | exact h9 | exact h9.1 | exact h9.2.1 | exact h9.2.2.1 | exact h9.2.2.2.1 | exact h9.2.2.2 | exact h9.2.2 | exact h9.2)); subst hk; subst hs; exact ⟨hok1, w0, (1, fa, ct, be, fb, sb9, (2049 - st)), hZ, ⟨hMR, rfl, hdr, rfl, hpa⟩, rfl⟩) hS
      · have hk_nto : rok to := Classical.byContradiction (fun h9 => absurd (hbto.mpr h9) (by rw [show bto = false from bZ_f.mp (by assumption)]; decide))
        obtain ⟨nto, rfl⟩ : ∃ n9 : Nat, to = (n9 : Int) := ⟨to.toNat, by have := hk_nto.1; omega⟩
        have h10_nto : nto < 10 := by have := hk_nto.2; omega
        refine lv_iload hx hb dM_combine_22 (lv_at hl 4 rfl) ?_
        refine zr_if_lt (tgt := 33) hx hb (hz_how) dM_combine_24 (by decide) (fun c_7 => ?_) (fun c_7 => ?_)
        · have hng : ¬ (0 ≤ how ∧ how ≤ 3) := by omega
          refine lv_iconst (v := iZ (1)) hx hb dM_combine_33 (by decide) ?_
          refine lv_goto (tgt := 38) hx hb dM_combine_34 (by decide) ?_
          refine W.eq (g2 := F0 m 38 ls ([.int (iZ ((1 : Nat) : Int)), .ref B])) rfl ?_
          refine zm_put_thrown (x := 1) hx hb ht hown hK hZ hS tw_677 dM_combine_38 (fun H locs hZ hS => ?_)
          have hZ : zMD E B w0 (1, fa, ct, be, fb, sb9, (2049 - st)) H := hZ
          refine lv_aload_n hx hb dM_combine_41 rfl (lv_at hl 0 rfl) ?_
          refine zm_thrown hx hb ht hown hK hZ tw_677 dM_combine_42 ?_
          refine zc_i (y := iZ (((1 : Nat) : Int))) rfl ?_
          refine zr_if_le (tgt := 49) hx hb (by decide) dM_combine_45 (by decide) (fun c_8 => ?_) (fun c_8 => ?_)
          · exact absurd c_8 (by decide)
          · exact hend 48 () _ _ _ dM_combine_48 trivial (by obtain ⟨hk, hs⟩ := SP_1 hsp (fun h9 => hng (by first | exact h9 | exact h9.1 | exact h9.2.1 | exact h9.2.2.1 | exact h9.2.2.2.1 | exact h9.2.2.2 | exact h9.2.2 | exact h9.2)); subst hk; subst hs; exact ⟨hok1, w0, (1, fa, ct, be, fb, sb9, (2049 - st)), hZ, ⟨hMR, rfl, hdr, rfl, hpa⟩, rfl⟩) hS
        · refine lv_iload hx hb dM_combine_27 (lv_at hl 4 rfl) ?_
          refine lv_iconst (v := iZ (3)) hx hb dM_combine_29 (by decide) ?_
          refine zr_icmp_le (tgt := 37) hx hb hz_how (by unfold zi; omega) dM_combine_30 (by decide) (fun c_9 => ?_) (fun c_9 => ?_)
          · have h0h : 0 ≤ how ∧ how ≤ 3 := by omega
            obtain ⟨nh, rfl⟩ : ∃ n9 : Nat, how = (n9 : Int) := ⟨how.toNat, by omega⟩
            refine lv_iconst (v := iZ (0)) hx hb dM_combine_37 (by decide) ?_
            refine W.eq (g2 := F0 m 38 ls ([.int (iZ ((0 : Nat) : Int)), .ref B])) rfl ?_
            refine zm_put_thrown (x := 0) hx hb ht hown hK hZ hS tw_677 dM_combine_38 (fun H locs hZ hS => ?_)
            have hZ : zMD E B w0 (0, fa, ct, be, fb, sb9, (2049 - st)) H := hZ
            refine lv_aload_n hx hb dM_combine_41 rfl (lv_at hl 0 rfl) ?_
            refine zm_thrown hx hb ht hown hK hZ tw_677 dM_combine_42 ?_
            refine zc_i (y := iZ (((0 : Nat) : Int))) rfl ?_
            refine zr_if_le (tgt := 49) hx hb (by decide) dM_combine_45 (by decide) (fun c_10 => ?_) (fun c_10 => ?_)
            · refine lv_aload_n hx hb dM_combine_49 rfl (lv_at hl 0 rfl) ?_
              refine lv_iconst (v := iZ (2)) hx hb dM_combine_50 (by decide) ?_
              refine W.eq (g2 := F0 m 51 ls ([.int (iZ ((2 : Nat) : Int)), .ref B])) rfl ?_
              refine zm_put_fault (x := 2) hx hb ht hown hK hZ hS tw_678 dM_combine_51 (fun H locs hZ hS => ?_)
              have hZ : zMD E B w0 (0, 2, ct, be, fb, sb9, (2049 - st)) H := hZ
              refine lv_aload_n hx hb dM_combine_54 rfl (lv_at hl 0 rfl) ?_
              refine zm_row hx hb ht hown hK hZ tw_683 dM_combine_55 ?_
              refine zcS_v (P' := fun (u : (Nat → Nat → Nat) × zC) H => zMD E B u.1 u.2 H) 1 (As := [.ref (B + 4)]) (rest := []) ⟨hx, hb, hml, hown, ht⟩ (mM_clear l E B w0 (0, 2, ct, be, fb, sb9, (2049 - st)) 4 (by decide) 264 rfl (by decide)) tw_768 tw_766 tw_767 tw_6 qM_clear (by rw [hR]; decide) hZ hK hl.1 rfl rfl (Nat.le_of_ble_eq_true rfl) dM_combine_58 ⟨Nat.zero_le _, Nat.zero_le _⟩ hS (fun u H locs hp hZ _ hS => ?_)
              obtain ⟨w, q9⟩ := u
              obtain ⟨ho, hq9, hcl⟩ := hp
              dsimp only at *
              rw [hq9] at hZ
              replace hMR : MR w rg := MR_same (ho 2 (by decide)) (ho 3 (by decide)) hMR
              replace hdr : ∀ i, i < ct → w 1 i = f i := fun i hi => by rw [ho 1 (by decide)]; exact hdr i hi
              replace hpa : ∀ i, i < 2049 - st → w 14 i = g (st + i) := fun i hi => by rw [ho 14 (by decide)]; exact hpa i hi
              have hv_4 : rv (w 4) 264 = 0 := by rw [rv_drop (m := 0) (Nat.zero_le _) (fun i _ h => hcl i h)]; rfl
              have hcl4 := hcl
              refine lv_iconst (v := iZ (0)) hx hb dM_combine_61 (by decide) ?_
              refine lv_istore (lv' := [(5, .int (iZ (0))), (0, .ref (B)), (1, .int (iZ (↑na))), (2, .int (iZ (↑nb))), (3, .int (iZ (↑nto))), (4, .int (iZ (↑nh)))]) hx hb dM_combine_62 hl (by decide) rfl (fun ls hl => ?_)
              have L64 : ∀ (fu : Nat) (i : Nat) (w : Nat → Nat → Nat) (H : Heap) (locs : List Loc) (ls : Array Slot), 129 - i < fu → (i ≤ 129) → (∀ q, q < i → w 4 q = jo nh (tl (rg na) q) (tl (rg nb) q)) → (∀ q, i ≤ q → q < 264 → w 4 q = 0) → (MR w rg) → (∀ i, i < ct → w 1 i = f i) → (∀ i, i < 2049 - st → w 14 i = g (st + i)) → zMD E B w (0, 2, ct, be, fb, sb9, (2049 - st)) H → va_S (zA B 15) s.heap H locs → lv_has ls 8 [(0, .ref (B)), (1, .int (iZ (↑na))), (2, .int (iZ (↑nb))), (3, .int (iZ (↑nto))), (4, .int (iZ (↑nh))), (5, .int (iZ (↑i)))] → W p l e R s m args below meth c H locs 0 0 Q (F0 m 64 ls []) := by
                intro fu
                induction fu with
                | zero => intro i w H locs ls hm; exact absurd hm (Nat.not_lt_zero _)
                | succ fu ihL64 =>
                  intro i w H locs ls hm hi h4a h4b hMR hdr hpa hZ hS hl
                  refine lv_iload hx hb dM_combine_64 (lv_at hl 5 rfl) ?_
                  refine lv_sipush (v := iZ (128)) hx hb dM_combine_66 (by decide) ?_
                  refine zr_icmp_gt (tgt := 151) hx hb (by unfold zi; omega) (by unfold zi; omega) dM_combine_69 (by decide) (fun c_11 => ?_) (fun c_11 => ?_)
                  · rw [show i = 129 by omega] at h4a h4b
                    obtain ⟨D, hD⟩ : ∃ d, d = w 4 := ⟨_, rfl⟩
                    have hdD : ∀ q, D q < 65536 := by rw [hD]; exact hZ.2 4
                    rw [← hD] at h4a h4b
                    obtain ⟨Wv, hW⟩ : ∃ q, q = rv D 129 := ⟨_, rfl⟩
                    obtain ⟨hWl, hW0, hWz⟩ := comb16 (hok.1 na h10_na) (hok.1 nb h10_nb) hdD h4a hW
                    refine lv_aload_n hx hb dM_combine_151 rfl (lv_at hl 0 rfl) ?_
                    refine lv_aload_n hx hb dM_combine_152 rfl (lv_at hl 0 rfl) ?_
                    refine zm_row hx hb ht hown hK hZ tw_683 dM_combine_153 ?_
                    refine lv_sipush (v := iZ (128)) hx hb dM_combine_156 (by decide) ?_
                    refine W.eq (g2 := F0 m 159 ls (.int (iZ ((128 : Nat) : Int)) :: .ref (B + 4) :: [.ref (B)])) rfl ?_
                    refine zm_ld (k := 4) (i := 128) hx hb hK hZ (by decide) (by show 128 < 264; omega) dM_combine_159 ?_
                    rw [← hD]
                    have hd128 := hdD 128
                    refine lv_ldc (v := iZ 32768) hx hb hown (ht _ tw_878) dM_combine_160 ?_
                    refine zr_icmp_lt (tgt := 169) hx hb (by unfold zi; omega) (by unfold zi; omega) dM_combine_162 (by decide) (fun c_12 => ?_) (fun c_12 => ?_)
                    · refine lv_iconst (v := iZ (0)) hx hb dM_combine_169 (by decide) ?_
                      refine W.eq (g2 := F0 m 170 ls ([.int (iZ (bZ false)), .ref B])) rfl ?_
                      refine zm_put_below (x := false) hx hb ht hown hK hZ hS tw_684 dM_combine_170 (fun H locs hZ hS => ?_)
                      have hZ : zMD E B w (0, 2, ct, false, fb, sb9, (2049 - st)) H := hZ
                      refine lv_aload_n hx hb dM_combine_173 rfl (lv_at hl 0 rfl) ?_
                      refine zm_below hx hb ht hown hK hZ tw_684 dM_combine_174 ?_
                      refine zc_i (y := iZ (bZ false)) rfl ?_
                      have hsg : ¬ 32768 ≤ D 128 := by omega
                      have hv_4 : rv (w 4) 264 = Wv := by rw [← hD, rv_drop (m := 129) (by decide) (fun q h1 h2 => h4b q h1 h2), hW]
                      refine zr_if_eq (tgt := 238) hx hb (by decide) dM_combine_177 (by decide) (fun c_13 => ?_) (fun c_13 => ?_)
                      · refine lv_aload_n hx hb dM_combine_238 rfl (lv_at hl 0 rfl) ?_
                        refine lv_iload_n hx hb dM_combine_239 rfl (lv_at hl 3 rfl) ?_
                        refine zcV_v (P' := fun (u : (Nat → Nat → Nat) × zC) H => zMD E B u.1 u.2 H) 1 (As := [.int (iZ (↑nto))]) (rest := []) rfl ⟨hx, hb, hml, hown, ht⟩ (mM_store l E B w (0, 2, ct, false, fb, sb9, (2049 - st)) nto h10_nto rg hMR) tw_779 tw_776 tw_778 tp_12 tw_6 qM_store (by rw [hR]; decide) (zm_recv hK hZ) hZ hK hl.1 rfl rfl (Nat.le_of_ble_eq_true rfl) dM_combine_240 ⟨Nat.zero_le _, Nat.zero_le _⟩ hS (fun u H locs hp hZ _ hS => ?_)
                        obtain ⟨w, q9⟩ := u
                        obtain ⟨ho, hbig, hfit⟩ := hp
                        dsimp only at *
                        rw [hv_4] at hbig hfit
                        have hzz : (if false = true then -(((Wv : Nat) : Int)) else ((Wv : Nat) : Int)) = (if 32768 ≤ D 128 then -((rP 129 - Wv : Nat) : Int) else ((Wv : Nat) : Int)) := by rw [if_neg (by decide), if_neg hsg]
                        have hzX : zX ((if 32768 ≤ D 128 then -((rP 129 - Wv : Nat) : Int) else ((Wv : Nat) : Int))) ↔ Wv < rP 128 := by rw [← hzz]; exact zX_if
                        rcases Nat.lt_or_ge (Wv) (rP 128) with hX | hX
                        · obtain ⟨hq9, hMR9⟩ := hfit hX
                          rw [hq9] at hZ
                          rw [hzz] at hMR9
                          have hzx := hzX.mpr hX
                          replace hdr : ∀ i, i < ct → w 1 i = f i := fun i hi => by rw [ho 1 (by decide) (by decide)]; exact hdr i hi
                          replace hpa : ∀ i, i < 2049 - st → w 14 i = g (st + i) := fun i hi => by rw [ho 14 (by decide) (by decide)]; exact hpa i hi
                          replace hv_4 : rv (w 4) 264 = Wv := by rw [ho 4 (by decide) (by decide)]; exact hv_4
                          have hMR : MR w (va_up rg nto ((if 32768 ≤ D 128 then -((rP 129 - Wv : Nat) : Int) else ((Wv : Nat) : Int)))) := hMR9
                          exact hend 243 () _ _ _ dM_combine_243 trivial (by rcases SP_g hsp ⟨hk_na, hk_nb, hk_nto, h0h⟩ with ⟨_, h, _⟩ | ⟨_, ⟨z8, h1, h2⟩, _⟩ | ⟨hk, z8, h1, h2, hs⟩; exact h.elim; exact absurd hzx (by rw [tbz_ext (fun i => (hWz _ rfl i).trans (h1 i).symm)]; exact h2); have hzq := tbz_ext (fun i => (hWz _ rfl i).trans (h1 i).symm); rw [hzq] at hMR; subst hk; subst hs; exact ⟨hok1, w, (0, 2, ct, false, fb, sb9, (2049 - st)), hZ, ⟨hMR, rfl, hdr, rfl, hpa⟩, rfl⟩) hS
                        · obtain ⟨e1, e2⟩ := Prod.mk.inj (hbig hX)
                          rw [e2] at hZ
                          rw [← e1] at hMR hdr hpa
                          have hzx : ¬ zX ((if 32768 ≤ D 128 then -((rP 129 - Wv : Nat) : Int) else ((Wv : Nat) : Int))) := fun h9 => absurd (hzX.mp h9) (Nat.not_lt.mpr hX)
                          have hZ : zMD E B w (2, 2, ct, false, fb, sb9, (2049 - st)) H := hZ
                          exact hend 243 () _ _ _ dM_combine_243 trivial (by rcases SP_g hsp ⟨hk_na, hk_nb, hk_nto, h0h⟩ with ⟨_, h, _⟩ | ⟨hk, h, hs⟩ | ⟨_, z8, h1, h2, _⟩; exact h.elim; subst hk; subst hs; exact ⟨hok1, w, (2, 2, ct, false, fb, sb9, (2049 - st)), hZ, ⟨hMR, rfl, hdr, rfl, hpa⟩, rfl⟩; exact absurd (by rw [tbz_ext (fun i => (hWz _ rfl i).trans (h1 i).symm)]; exact h2) hzx) hS
                      · exact absurd c_13 (by decide)
                    · refine lv_iconst (v := iZ (1)) hx hb dM_combine_165 (by decide) ?_
                      refine lv_goto (tgt := 170) hx hb dM_combine_166 (by decide) ?_
                      refine W.eq (g2 := F0 m 170 ls ([.int (iZ (bZ true)), .ref B])) rfl ?_
                      refine zm_put_below (x := true) hx hb ht hown hK hZ hS tw_684 dM_combine_170 (fun H locs hZ hS => ?_)
                      have hZ : zMD E B w (0, 2, ct, true, fb, sb9, (2049 - st)) H := hZ
                      refine lv_aload_n hx hb dM_combine_173 rfl (lv_at hl 0 rfl) ?_
                      refine zm_below hx hb ht hown hK hZ tw_684 dM_combine_174 ?_
                      refine zc_i (y := iZ (bZ true)) rfl ?_
                      have hsg : 32768 ≤ D 128 := by omega
                      refine zr_if_eq (tgt := 238) hx hb (by decide) dM_combine_177 (by decide) (fun c_14 => ?_) (fun c_14 => ?_)
                      · exact absurd c_14 (by decide)
                      · refine lv_iconst (v := iZ (0)) hx hb dM_combine_180 (by decide) ?_
                        refine lv_istore (lv' := [(5, .int (iZ (0))), (0, .ref (B)), (1, .int (iZ (↑na))), (2, .int (iZ (↑nb))), (3, .int (iZ (↑nto))), (4, .int (iZ (↑nh)))]) hx hb dM_combine_181 hl (by decide) rfl (fun ls hl => ?_)
                        have L183 : ∀ (fu : Nat) (i : Nat) (w : Nat → Nat → Nat) (H : Heap) (locs : List Loc) (ls : Array Slot), 129 - i < fu → (i ≤ 129) → (∀ q, q < i → w 4 q = 65535 - D q) → (∀ q, i ≤ q → q < 264 → w 4 q = D q) → (MR w rg) → (∀ i, i < ct → w 1 i = f i) → (∀ i, i < 2049 - st → w 14 i = g (st + i)) → zMD E B w (0, 2, ct, true, fb, sb9, (2049 - st)) H → va_S (zA B 15) s.heap H locs → lv_has ls 8 [(0, .ref (B)), (3, .int (iZ (↑nto))), (5, .int (iZ (↑i)))] → W p l e R s m args below meth c H locs 0 0 Q (F0 m 183 ls []) := by
                          intro fu
                          induction fu with
                          | zero => intro i w H locs ls hm; exact absurd hm (Nat.not_lt_zero _)
                          | succ fu ihL183 =>
                            intro i w H locs ls hm hi h5a h5b hMR hdr hpa hZ hS hl
                            refine lv_iload hx hb dM_combine_183 (lv_at hl 2 rfl) ?_
                            refine lv_sipush (v := iZ (128)) hx hb dM_combine_185 (by decide) ?_
                            refine zr_icmp_gt (tgt := 216) hx hb (by unfold zi; omega) (by unfold zi; omega) dM_combine_188 (by decide) (fun c_15 => ?_) (fun c_15 => ?_)
                            · rw [show i = 129 by omega] at h5a h5b
                              have hcm := rv_compl hdD 129 h5a
                              rw [← hW] at hcm
                              have hv_4 : rv (w 4) 264 = rP 129 - Wv - 1 := by rw [rv_drop (m := 129) (by decide) (fun q h1 h2 => by rw [h5b q h1 h2]; exact h4b q h1 h2)]; omega
                              clear hcm
                              refine lv_aload_n hx hb dM_combine_216 rfl (lv_at hl 0 rfl) ?_
                              refine lv_aload_n hx hb dM_combine_217 rfl (lv_at hl 0 rfl) ?_
                              refine zm_other hx hb ht hown hK hZ tw_685 dM_combine_218 ?_
                              refine zcV_v (P' := fun (u : (Nat → Nat → Nat) × zC) H => zMD E B u.1 u.2 H) 1 (As := [.ref (B + 5)]) (rest := []) rfl ⟨hx, hb, hml, hown, ht⟩ (mM_setOne l E B w (0, 2, ct, true, fb, sb9, (2049 - st)) 5 (by decide) rfl) tw_844 tw_841 tw_843 tp_20 tw_6 qM_setOne (by rw [hR]; decide) (zm_recv hK hZ) hZ hK hl.1 rfl rfl (Nat.le_of_ble_eq_true rfl) dM_combine_221 ⟨Nat.zero_le _, Nat.zero_le _⟩ hS (fun u H locs hp hZ _ hS => ?_)
                              obtain ⟨w, q9⟩ := u
                              obtain ⟨ho, hq9, hso⟩ := hp
                              dsimp only at *
                              rw [hq9] at hZ
                              replace hMR : MR w rg := MR_same (ho 2 (by decide)) (ho 3 (by decide)) hMR
                              replace hdr : ∀ i, i < ct → w 1 i = f i := fun i hi => by rw [ho 1 (by decide)]; exact hdr i hi
                              replace hpa : ∀ i, i < 2049 - st → w 14 i = g (st + i) := fun i hi => by rw [ho 14 (by decide)]; exact hpa i hi
                              replace hv_4 : rv (w 4) 264 = rP 129 - Wv - 1 := by rw [ho 4 (by decide)]; exact hv_4
                              have hv_5 : rv (w 5) 264 = 1 := hso
                              clear hso
                              refine lv_aload_n hx hb dM_combine_224 rfl (lv_at hl 0 rfl) ?_
                              refine zm_row hx hb ht hown hK hZ tw_683 dM_combine_225 ?_
                              refine lv_aload_n hx hb dM_combine_228 rfl (lv_at hl 0 rfl) ?_
                              refine zm_other hx hb ht hown hK hZ tw_685 dM_combine_229 ?_
                              refine lv_iconst (v := iZ (1)) hx hb dM_combine_232 (by decide) ?_
                              refine lv_lconst (v := lZ (1)) hx hb dM_combine_233 (by decide) ?_
                              refine lv_iconst (v := iZ (0)) hx hb dM_combine_234 (by decide) ?_
                              refine W.eq (g2 := F0 m 235 ls (.int (iZ (bZ false)) :: .long (lZ ((1 : Nat) : Int)) :: .int (iZ ((1 : Nat) : Int)) :: .ref (B + 5) :: .ref (B + 4) :: [])) rfl ?_
                              refine zcS_v (P' := fun (u : (Nat → Nat → Nat) × zC) H => zMD E B u.1 u.2 H) 5 (As := [.ref (B + 4), .ref (B + 5), .int (iZ ((1 : Nat) : Int)), .long (lZ ((1 : Nat) : Int)), .int (iZ (bZ false))]) (rest := []) ⟨hx, hb, hml, hown, ht⟩ (mM_join l E B w (0, 2, ct, true, fb, sb9, (2049 - st)) 4 (by decide) 5 (by decide) rfl rfl (by decide) 1 (by omega) 1 (by decide) false (fun q h1 h2 => rv_zeros (hZ.2 5) (by rw [hv_5]; decide) h1 h2) (by rw [hv_4, hv_5]; rw [if_neg (by decide)]; omega) (by rw [hv_4, hv_5]; rw [if_neg (by decide)]; have h9 := rP_mono (show 129 ≤ 264 by decide); have h8 := hW0 hsg; omega)) tw_801 tw_799 tw_800 tw_6 qM_join (by rw [hR]; decide) hZ hK hl.1 rfl rfl (Nat.le_of_ble_eq_true rfl) dM_combine_235 ⟨Nat.zero_le _, Nat.zero_le _⟩ hS (fun u H locs hp hZ _ hS => ?_)
                              obtain ⟨w, q9⟩ := u
                              obtain ⟨ho, hq9, hjn⟩ := hp
                              dsimp only at ho hq9 hZ hjn
                              rw [hq9] at hZ
                              rw [if_neg (by decide), hv_4, hv_5] at hjn
                              have hjv : rv (w 4) 264 = rP 129 - Wv := by omega
                              replace hMR : MR w rg := MR_same (ho 2 (by decide)) (ho 3 (by decide)) hMR
                              replace hdr : ∀ i, i < ct → w 1 i = f i := fun i hi => by rw [ho 1 (by decide)]; exact hdr i hi
                              replace hpa : ∀ i, i < 2049 - st → w 14 i = g (st + i) := fun i hi => by rw [ho 14 (by decide)]; exact hpa i hi
                              clear hv_4
                              replace hv_5 : rv (w 5) 264 = 1 := by rw [ho 5 (by decide)]; exact hv_5
                              have hv_4 : rv (w 4) 264 = rP 129 - Wv := hjv
                              clear hjv
                              refine lv_aload_n hx hb dM_combine_238 rfl (lv_at hl 0 rfl) ?_
                              refine lv_iload_n hx hb dM_combine_239 rfl (lv_at hl 1 rfl) ?_
                              refine zcV_v (P' := fun (u : (Nat → Nat → Nat) × zC) H => zMD E B u.1 u.2 H) 1 (As := [.int (iZ (↑nto))]) (rest := []) rfl ⟨hx, hb, hml, hown, ht⟩ (mM_store l E B w (0, 2, ct, true, fb, sb9, (2049 - st)) nto h10_nto rg hMR) tw_779 tw_776 tw_778 tp_12 tw_6 qM_store (by rw [hR]; decide) (zm_recv hK hZ) hZ hK hl.1 rfl rfl (Nat.le_of_ble_eq_true rfl) dM_combine_240 ⟨Nat.zero_le _, Nat.zero_le _⟩ hS (fun u H locs hp hZ _ hS => ?_)
                              obtain ⟨w, q9⟩ := u
                              obtain ⟨ho, hbig, hfit⟩ := hp
                              dsimp only at *
                              rw [hv_4] at hbig hfit
                              have hzz : (if true = true then -(((rP 129 - Wv : Nat) : Int)) else ((rP 129 - Wv : Nat) : Int)) = (if 32768 ≤ D 128 then -((rP 129 - Wv : Nat) : Int) else ((Wv : Nat) : Int)) := by rw [if_pos rfl, if_pos hsg]
                              have hzX : zX ((if 32768 ≤ D 128 then -((rP 129 - Wv : Nat) : Int) else ((Wv : Nat) : Int))) ↔ rP 129 - Wv < rP 128 := by rw [← hzz]; exact zX_if
                              rcases Nat.lt_or_ge (rP 129 - Wv) (rP 128) with hX | hX
                              · obtain ⟨hq9, hMR9⟩ := hfit hX
                                rw [hq9] at hZ
                                rw [hzz] at hMR9
                                have hzx := hzX.mpr hX
                                replace hdr : ∀ i, i < ct → w 1 i = f i := fun i hi => by rw [ho 1 (by decide) (by decide)]; exact hdr i hi
                                replace hpa : ∀ i, i < 2049 - st → w 14 i = g (st + i) := fun i hi => by rw [ho 14 (by decide) (by decide)]; exact hpa i hi
                                replace hv_5 : rv (w 5) 264 = 1 := by rw [ho 5 (by decide) (by decide)]; exact hv_5
                                replace hv_4 : rv (w 4) 264 = rP 129 - Wv := by rw [ho 4 (by decide) (by decide)]; exact hv_4
                                have hMR : MR w (va_up rg nto ((if 32768 ≤ D 128 then -((rP 129 - Wv : Nat) : Int) else ((Wv : Nat) : Int)))) := hMR9
                                exact hend 243 () _ _ _ dM_combine_243 trivial (by rcases SP_g hsp ⟨hk_na, hk_nb, hk_nto, h0h⟩ with ⟨_, h, _⟩ | ⟨_, ⟨z8, h1, h2⟩, _⟩ | ⟨hk, z8, h1, h2, hs⟩; exact h.elim; exact absurd hzx (by rw [tbz_ext (fun i => (hWz _ rfl i).trans (h1 i).symm)]; exact h2); have hzq := tbz_ext (fun i => (hWz _ rfl i).trans (h1 i).symm); rw [hzq] at hMR; subst hk; subst hs; exact ⟨hok1, w, (0, 2, ct, true, fb, sb9, (2049 - st)), hZ, ⟨hMR, rfl, hdr, rfl, hpa⟩, rfl⟩) hS
                              · obtain ⟨e1, e2⟩ := Prod.mk.inj (hbig hX)
                                rw [e2] at hZ
                                rw [← e1] at hMR hdr hpa
                                have hzx : ¬ zX ((if 32768 ≤ D 128 then -((rP 129 - Wv : Nat) : Int) else ((Wv : Nat) : Int))) := fun h9 => absurd (hzX.mp h9) (Nat.not_lt.mpr hX)
                                have hZ : zMD E B w (2, 2, ct, true, fb, sb9, (2049 - st)) H := hZ
                                exact hend 243 () _ _ _ dM_combine_243 trivial (by rcases SP_g hsp ⟨hk_na, hk_nb, hk_nto, h0h⟩ with ⟨_, h, _⟩ | ⟨hk, h, hs⟩ | ⟨_, z8, h1, h2, _⟩; exact h.elim; subst hk; subst hs; exact ⟨hok1, w, (2, 2, ct, true, fb, sb9, (2049 - st)), hZ, ⟨hMR, rfl, hdr, rfl, hpa⟩, rfl⟩; exact absurd (by rw [tbz_ext (fun i => (hWz _ rfl i).trans (h1 i).symm)]; exact h2) hzx) hS
                            · refine lv_aload_n hx hb dM_combine_191 rfl (lv_at hl 0 rfl) ?_
                              refine zm_row hx hb ht hown hK hZ tw_683 dM_combine_192 ?_
                              refine lv_iload hx hb dM_combine_195 (lv_at hl 2 rfl) ?_
                              refine lv_aload_n hx hb dM_combine_197 rfl (lv_at hl 0 rfl) ?_
                              refine zm_row hx hb ht hown hK hZ tw_683 dM_combine_198 ?_
                              refine lv_iload hx hb dM_combine_201 (lv_at hl 2 rfl) ?_
                              refine zm_ld (k := 4) (i := i) hx hb hK hZ (by decide) (by show i < 264; omega) dM_combine_203 ?_
                              have hdi := hdD i
                              rw [h5b i (Nat.le_refl i) (by omega)]
                              refine lv_iconst (v := iZ (-1)) hx hb dM_combine_204 (by decide) ?_
                              refine lv_ixor hx hb dM_combine_205 ?_
                              refine lv_ldc (v := iZ 65535) hx hb hown (ht _ tw_877) dM_combine_206 ?_
                              refine lv_iand hx hb dM_combine_208 ?_
                              rw [inv16 (y := ((D i : Nat) : Int)) (by omega) (by omega)]
                              refine zc_i (y := iZ ((65535 - D i : Nat) : Int)) (congrArg iZ (by omega)) ?_
                              refine zm_st (k := 4) (i := i) (x := 65535 - D i) hx hb hK hZ hS (by decide) (by show i < 264; omega) (by omega) dM_combine_209 (fun H locs hZ hS => ?_)
                              obtain ⟨w9, hw9⟩ : ∃ q, q = mup w 4 i (65535 - D i) := ⟨_, rfl⟩
                              rw [← hw9] at hZ
                              have ho : ∀ j, j ≠ 4 → w9 j = w j := fun j hj => by rw [hw9, mup_ne _ _ _ hj]
                              have hwk : w9 4 = va_up (w 4) i (65535 - D i) := by rw [hw9, mup_at]
                              clear hw9
                              obtain ⟨w, hww⟩ : ∃ q, q = w9 := ⟨_, rfl⟩
                              rw [← hww] at hZ ho hwk
                              clear hww
                              replace hMR : MR w rg := MR_same (ho 2 (by decide)) (ho 3 (by decide)) hMR
                              replace hdr : ∀ i, i < ct → w 1 i = f i := fun i hi => by rw [ho 1 (by decide)]; exact hdr i hi
                              replace hpa : ∀ i, i < 2049 - st → w 14 i = g (st + i) := fun i hi => by rw [ho 14 (by decide)]; exact hpa i hi
                              refine lv_iinc (v := iZ (↑i + 1)) (lv' := [(5, .int (iZ (↑i + 1))), (0, .ref (B)), (3, .int (iZ (↑nto)))]) hx hb dM_combine_210 hl (k := 2) rfl (iZ_add _ _) (by decide) rfl (fun ls hl => ?_)
                              refine lv_goto (tgt := 183) hx hb dM_combine_213 (by decide) ?_
                              rw [show (↑i + 1 : Int) = ↑(i + 1) from by omega] at hl
                              exact ihL183 (i + 1) w _ _ _ (by omega) (by omega) (fun q hq => by rw [hwk]; by_cases h9 : q = i; rw [h9, va_up_self]; rw [va_up_ne _ _ h9]; exact h5a q (by omega)) (fun q h1 h2 => by rw [hwk, va_up_ne _ _ (by omega)]; exact h5b q (by omega) h2) hMR hdr hpa  hZ hS (lv_sub hl [1, 2, 0] rfl)
                        exact L183 _ 0 w _ _ _ (Nat.lt_succ_self _) (Nat.zero_le _) (fun q hq => absurd hq (Nat.not_lt_zero _)) (fun q _ _ => by rw [hD]) hMR hdr hpa  hZ hS (lv_sub hl [1, 4, 0] rfl)
                  · refine lv_aload_n hx hb dM_combine_72 rfl (lv_at hl 0 rfl) ?_
                    refine lv_iload_n hx hb dM_combine_73 rfl (lv_at hl 1 rfl) ?_
                    refine lv_iload hx hb dM_combine_74 (lv_at hl 5 rfl) ?_
                    refine zcV_i (P' := fun (u : (Nat → Nat → Nat) × zC) H => zMD E B u.1 u.2 H) 2 (As := [.int (iZ (↑na)), .int (iZ (↑i))]) (rest := []) rfl ⟨hx, hb, hml, hown, ht⟩ (mM_limb l E B w (0, 2, ct, be, fb, sb9, (2049 - st)) rg ct f st g hMR hdr hpa na h10_na (hok.1 na h10_na) i (by omega)) tw_876 tw_873 tw_875 tp_23 tw_6 qM_limb (by rw [hR]; decide) (zm_recv hK hZ) hZ hK hl.1 rfl rfl (Nat.le_of_ble_eq_true rfl) dM_combine_76 ⟨Nat.zero_le _, Nat.zero_le _⟩ hS (fun r9 u H locs hp hZ _ hS => ?_)
                    obtain ⟨_, hu9, hr1⟩ := hp
                    subst hr1
                    rw [hu9] at hZ
                    dsimp only at hZ
                    clear hu9
                    refine lv_istore (lv' := [(6, .int (iZ (↑(tl (rg na) i)))), (0, .ref (B)), (1, .int (iZ (↑na))), (2, .int (iZ (↑nb))), (3, .int (iZ (↑nto))), (4, .int (iZ (↑nh))), (5, .int (iZ (↑i)))]) hx hb dM_combine_79 hl (by decide) rfl (fun ls hl => ?_)
                    refine lv_aload_n hx hb dM_combine_81 rfl (lv_at hl 1 rfl) ?_
                    refine lv_iload_n hx hb dM_combine_82 rfl (lv_at hl 3 rfl) ?_
                    refine lv_iload hx hb dM_combine_83 (lv_at hl 6 rfl) ?_
                    refine zcV_i (P' := fun (u : (Nat → Nat → Nat) × zC) H => zMD E B u.1 u.2 H) 2 (As := [.int (iZ (↑nb)), .int (iZ (↑i))]) (rest := []) rfl ⟨hx, hb, hml, hown, ht⟩ (mM_limb l E B w (0, 2, ct, be, fb, sb9, (2049 - st)) rg ct f st g hMR hdr hpa nb h10_nb (hok.1 nb h10_nb) i (by omega)) tw_876 tw_873 tw_875 tp_23 tw_6 qM_limb (by rw [hR]; decide) (zm_recv hK hZ) hZ hK hl.1 rfl rfl (Nat.le_of_ble_eq_true rfl) dM_combine_85 ⟨Nat.zero_le _, Nat.zero_le _⟩ hS (fun r9 u H locs hp hZ _ hS => ?_)
                    obtain ⟨_, hu9, hr1⟩ := hp
                    subst hr1
                    rw [hu9] at hZ
                    dsimp only at hZ
                    clear hu9
                    refine lv_istore (lv' := [(7, .int (iZ (↑(tl (rg nb) i)))), (6, .int (iZ (↑(tl (rg na) i)))), (0, .ref (B)), (1, .int (iZ (↑na))), (2, .int (iZ (↑nb))), (3, .int (iZ (↑nto))), (4, .int (iZ (↑nh))), (5, .int (iZ (↑i)))]) hx hb dM_combine_88 hl (by decide) rfl (fun ls hl => ?_)
                    have hl1 := tl_lt (rg na) i
                    have hl2 := tl_lt (rg nb) i
                    refine lv_aload_n hx hb dM_combine_90 rfl (lv_at hl 2 rfl) ?_
                    refine zm_row hx hb ht hown hK hZ tw_683 dM_combine_91 ?_
                    refine lv_iload hx hb dM_combine_94 (lv_at hl 7 rfl) ?_
                    refine lv_iload hx hb dM_combine_96 (lv_at hl 6 rfl) ?_
                    refine zr_if_ne (tgt := 109) hx hb (by unfold zi; omega) dM_combine_98 (by decide) (fun c_16 => ?_) (fun c_16 => ?_)
                    · refine lv_iload hx hb dM_combine_109 (lv_at hl 6 rfl) ?_
                      refine lv_iconst (v := iZ (1)) hx hb dM_combine_111 (by decide) ?_
                      refine zr_icmp_ne (tgt := 123) hx hb (by unfold zi; omega) (by unfold zi; omega) dM_combine_112 (by decide) (fun c_17 => ?_) (fun c_17 => ?_)
                      · refine lv_iload hx hb dM_combine_123 (lv_at hl 6 rfl) ?_
                        refine lv_iconst (v := iZ (2)) hx hb dM_combine_125 (by decide) ?_
                        refine zr_icmp_ne (tgt := 137) hx hb (by unfold zi; omega) (by unfold zi; omega) dM_combine_126 (by decide) (fun c_18 => ?_) (fun c_18 => ?_)
                        · refine lv_iload hx hb dM_combine_137 (lv_at hl 1 rfl) ?_
                          refine lv_iload hx hb dM_combine_139 (lv_at hl 0 rfl) ?_
                          refine lv_iconst (v := iZ (-1)) hx hb dM_combine_141 (by decide) ?_
                          refine lv_ixor hx hb dM_combine_142 ?_
                          refine lv_iand hx hb dM_combine_143 ?_
                          rw [show iZ (-1) = iZ ((4294967295 : Nat) : Int) from iZ_congr (by decide), iZ_xorN, iZ_andN]
                          refine zc_i (y := iZ ((jo nh (tl (rg na) i) (tl (rg nb) i) : Nat) : Int)) (congrArg iZ (by unfold jo; rw [if_neg (by omega), if_neg (by omega), if_neg (by omega)])) ?_
                          refine zm_st (k := 4) (i := i) (x := jo nh (tl (rg na) i) (tl (rg nb) i)) hx hb hK hZ hS (by decide) (by show i < 264; omega) (jo_lt hl1 hl2) dM_combine_144 (fun H locs hZ hS => ?_)
                          obtain ⟨w9, hw9⟩ : ∃ q, q = mup w 4 i (jo nh (tl (rg na) i) (tl (rg nb) i)) := ⟨_, rfl⟩
                          rw [← hw9] at hZ
                          have ho : ∀ j, j ≠ 4 → w9 j = w j := fun j hj => by rw [hw9, mup_ne _ _ _ hj]
                          have hwk : w9 4 = va_up (w 4) i (jo nh (tl (rg na) i) (tl (rg nb) i)) := by rw [hw9, mup_at]
                          clear hw9
                          obtain ⟨w, hww⟩ : ∃ q, q = w9 := ⟨_, rfl⟩
                          rw [← hww] at hZ ho hwk
                          clear hww
                          replace hMR : MR w rg := MR_same (ho 2 (by decide)) (ho 3 (by decide)) hMR
                          replace hdr : ∀ i, i < ct → w 1 i = f i := fun i hi => by rw [ho 1 (by decide)]; exact hdr i hi
                          replace hpa : ∀ i, i < 2049 - st → w 14 i = g (st + i) := fun i hi => by rw [ho 14 (by decide)]; exact hpa i hi
                          refine lv_iinc (v := iZ (↑i + 1)) (lv' := [(5, .int (iZ (↑i + 1))), (7, .int (iZ (↑(tl (rg nb) i)))), (6, .int (iZ (↑(tl (rg na) i)))), (0, .ref (B)), (1, .int (iZ (↑na))), (2, .int (iZ (↑nb))), (3, .int (iZ (↑nto))), (4, .int (iZ (↑nh)))]) hx hb dM_combine_145 hl (k := 7) rfl (iZ_add _ _) (by decide) rfl (fun ls hl => ?_)
                          refine lv_goto (tgt := 64) hx hb dM_combine_148 (by decide) ?_
                          rw [show (↑i + 1 : Int) = ↑(i + 1) from by omega] at hl
                          exact ihL64 (i + 1) w _ _ _ (by omega) (by omega) (fun q hq => by rw [hwk]; by_cases h9 : q = i; rw [h9, va_up_self]; rw [va_up_ne _ _ h9]; exact h4a q (by omega)) (fun q h1 h2 => by rw [hwk, va_up_ne _ _ (by omega)]; exact h4b q (by omega) h2) hMR hdr hpa  hZ hS (lv_sub hl [3, 4, 5, 6, 7, 0] rfl)
                        · refine lv_iload hx hb dM_combine_129 (lv_at hl 1 rfl) ?_
                          refine lv_iload hx hb dM_combine_131 (lv_at hl 0 rfl) ?_
                          refine lv_ixor hx hb dM_combine_133 ?_
                          rw [iZ_xorN]
                          refine zc_i (y := iZ ((jo nh (tl (rg na) i) (tl (rg nb) i) : Nat) : Int)) (congrArg iZ (by unfold jo; rw [if_neg (by omega), if_neg (by omega), if_pos (by omega)])) ?_
                          refine lv_goto (tgt := 144) hx hb dM_combine_134 (by decide) ?_
                          refine zm_st (k := 4) (i := i) (x := jo nh (tl (rg na) i) (tl (rg nb) i)) hx hb hK hZ hS (by decide) (by show i < 264; omega) (jo_lt hl1 hl2) dM_combine_144 (fun H locs hZ hS => ?_)
                          obtain ⟨w9, hw9⟩ : ∃ q, q = mup w 4 i (jo nh (tl (rg na) i) (tl (rg nb) i)) := ⟨_, rfl⟩
                          rw [← hw9] at hZ
                          have ho : ∀ j, j ≠ 4 → w9 j = w j := fun j hj => by rw [hw9, mup_ne _ _ _ hj]
                          have hwk : w9 4 = va_up (w 4) i (jo nh (tl (rg na) i) (tl (rg nb) i)) := by rw [hw9, mup_at]
                          clear hw9
                          obtain ⟨w, hww⟩ : ∃ q, q = w9 := ⟨_, rfl⟩
                          rw [← hww] at hZ ho hwk
                          clear hww
                          replace hMR : MR w rg := MR_same (ho 2 (by decide)) (ho 3 (by decide)) hMR
                          replace hdr : ∀ i, i < ct → w 1 i = f i := fun i hi => by rw [ho 1 (by decide)]; exact hdr i hi
                          replace hpa : ∀ i, i < 2049 - st → w 14 i = g (st + i) := fun i hi => by rw [ho 14 (by decide)]; exact hpa i hi
                          refine lv_iinc (v := iZ (↑i + 1)) (lv' := [(5, .int (iZ (↑i + 1))), (7, .int (iZ (↑(tl (rg nb) i)))), (6, .int (iZ (↑(tl (rg na) i)))), (0, .ref (B)), (1, .int (iZ (↑na))), (2, .int (iZ (↑nb))), (3, .int (iZ (↑nto))), (4, .int (iZ (↑nh)))]) hx hb dM_combine_145 hl (k := 7) rfl (iZ_add _ _) (by decide) rfl (fun ls hl => ?_)
                          refine lv_goto (tgt := 64) hx hb dM_combine_148 (by decide) ?_
                          rw [show (↑i + 1 : Int) = ↑(i + 1) from by omega] at hl
                          exact ihL64 (i + 1) w _ _ _ (by omega) (by omega) (fun q hq => by rw [hwk]; by_cases h9 : q = i; rw [h9, va_up_self]; rw [va_up_ne _ _ h9]; exact h4a q (by omega)) (fun q h1 h2 => by rw [hwk, va_up_ne _ _ (by omega)]; exact h4b q (by omega) h2) hMR hdr hpa  hZ hS (lv_sub hl [3, 4, 5, 6, 7, 0] rfl)
                      · refine lv_iload hx hb dM_combine_115 (lv_at hl 1 rfl) ?_
                        refine lv_iload hx hb dM_combine_117 (lv_at hl 0 rfl) ?_
                        refine lv_ior hx hb dM_combine_119 ?_
                        rw [iZ_orN]
                        refine zc_i (y := iZ ((jo nh (tl (rg na) i) (tl (rg nb) i) : Nat) : Int)) (congrArg iZ (by unfold jo; rw [if_neg (by omega), if_pos (by omega)])) ?_
                        refine lv_goto (tgt := 144) hx hb dM_combine_120 (by decide) ?_
                        refine zm_st (k := 4) (i := i) (x := jo nh (tl (rg na) i) (tl (rg nb) i)) hx hb hK hZ hS (by decide) (by show i < 264; omega) (jo_lt hl1 hl2) dM_combine_144 (fun H locs hZ hS => ?_)
                        obtain ⟨w9, hw9⟩ : ∃ q, q = mup w 4 i (jo nh (tl (rg na) i) (tl (rg nb) i)) := ⟨_, rfl⟩
                        rw [← hw9] at hZ
                        have ho : ∀ j, j ≠ 4 → w9 j = w j := fun j hj => by rw [hw9, mup_ne _ _ _ hj]
                        have hwk : w9 4 = va_up (w 4) i (jo nh (tl (rg na) i) (tl (rg nb) i)) := by rw [hw9, mup_at]
                        clear hw9
                        obtain ⟨w, hww⟩ : ∃ q, q = w9 := ⟨_, rfl⟩
                        rw [← hww] at hZ ho hwk
                        clear hww
                        replace hMR : MR w rg := MR_same (ho 2 (by decide)) (ho 3 (by decide)) hMR
                        replace hdr : ∀ i, i < ct → w 1 i = f i := fun i hi => by rw [ho 1 (by decide)]; exact hdr i hi
                        replace hpa : ∀ i, i < 2049 - st → w 14 i = g (st + i) := fun i hi => by rw [ho 14 (by decide)]; exact hpa i hi
                        refine lv_iinc (v := iZ (↑i + 1)) (lv' := [(5, .int (iZ (↑i + 1))), (7, .int (iZ (↑(tl (rg nb) i)))), (6, .int (iZ (↑(tl (rg na) i)))), (0, .ref (B)), (1, .int (iZ (↑na))), (2, .int (iZ (↑nb))), (3, .int (iZ (↑nto))), (4, .int (iZ (↑nh)))]) hx hb dM_combine_145 hl (k := 7) rfl (iZ_add _ _) (by decide) rfl (fun ls hl => ?_)
                        refine lv_goto (tgt := 64) hx hb dM_combine_148 (by decide) ?_
                        rw [show (↑i + 1 : Int) = ↑(i + 1) from by omega] at hl
                        exact ihL64 (i + 1) w _ _ _ (by omega) (by omega) (fun q hq => by rw [hwk]; by_cases h9 : q = i; rw [h9, va_up_self]; rw [va_up_ne _ _ h9]; exact h4a q (by omega)) (fun q h1 h2 => by rw [hwk, va_up_ne _ _ (by omega)]; exact h4b q (by omega) h2) hMR hdr hpa  hZ hS (lv_sub hl [3, 4, 5, 6, 7, 0] rfl)
                    · refine lv_iload hx hb dM_combine_101 (lv_at hl 1 rfl) ?_
                      refine lv_iload hx hb dM_combine_103 (lv_at hl 0 rfl) ?_
                      refine lv_iand hx hb dM_combine_105 ?_
                      rw [iZ_andN]
                      refine zc_i (y := iZ ((jo nh (tl (rg na) i) (tl (rg nb) i) : Nat) : Int)) (congrArg iZ (by unfold jo; rw [if_pos (by omega)])) ?_
                      refine lv_goto (tgt := 144) hx hb dM_combine_106 (by decide) ?_
                      refine zm_st (k := 4) (i := i) (x := jo nh (tl (rg na) i) (tl (rg nb) i)) hx hb hK hZ hS (by decide) (by show i < 264; omega) (jo_lt hl1 hl2) dM_combine_144 (fun H locs hZ hS => ?_)
                      obtain ⟨w9, hw9⟩ : ∃ q, q = mup w 4 i (jo nh (tl (rg na) i) (tl (rg nb) i)) := ⟨_, rfl⟩
                      rw [← hw9] at hZ
                      have ho : ∀ j, j ≠ 4 → w9 j = w j := fun j hj => by rw [hw9, mup_ne _ _ _ hj]
                      have hwk : w9 4 = va_up (w 4) i (jo nh (tl (rg na) i) (tl (rg nb) i)) := by rw [hw9, mup_at]
                      clear hw9
                      obtain ⟨w, hww⟩ : ∃ q, q = w9 := ⟨_, rfl⟩
                      rw [← hww] at hZ ho hwk
                      clear hww
                      replace hMR : MR w rg := MR_same (ho 2 (by decide)) (ho 3 (by decide)) hMR
                      replace hdr : ∀ i, i < ct → w 1 i = f i := fun i hi => by rw [ho 1 (by decide)]; exact hdr i hi
                      replace hpa : ∀ i, i < 2049 - st → w 14 i = g (st + i) := fun i hi => by rw [ho 14 (by decide)]; exact hpa i hi
                      refine lv_iinc (v := iZ (↑i + 1)) (lv' := [(5, .int (iZ (↑i + 1))), (7, .int (iZ (↑(tl (rg nb) i)))), (6, .int (iZ (↑(tl (rg na) i)))), (0, .ref (B)), (1, .int (iZ (↑na))), (2, .int (iZ (↑nb))), (3, .int (iZ (↑nto))), (4, .int (iZ (↑nh)))]) hx hb dM_combine_145 hl (k := 7) rfl (iZ_add _ _) (by decide) rfl (fun ls hl => ?_)
                      refine lv_goto (tgt := 64) hx hb dM_combine_148 (by decide) ?_
                      rw [show (↑i + 1 : Int) = ↑(i + 1) from by omega] at hl
                      exact ihL64 (i + 1) w _ _ _ (by omega) (by omega) (fun q hq => by rw [hwk]; by_cases h9 : q = i; rw [h9, va_up_self]; rw [va_up_ne _ _ h9]; exact h4a q (by omega)) (fun q h1 h2 => by rw [hwk, va_up_ne _ _ (by omega)]; exact h4b q (by omega) h2) hMR hdr hpa  hZ hS (lv_sub hl [3, 4, 5, 6, 7, 0] rfl)
              exact L64 _ 0 w _ _ _ (Nat.lt_succ_self _) (Nat.zero_le _) (fun q hq => absurd hq (Nat.not_lt_zero _)) (fun q _ hq => hcl4 q hq) hMR hdr hpa  hZ hS (lv_sub hl [1, 2, 3, 4, 5, 0] rfl)
            · exact absurd c_10 (by decide)
          · have hng : ¬ (0 ≤ how ∧ how ≤ 3) := by omega
            refine lv_iconst (v := iZ (1)) hx hb dM_combine_33 (by decide) ?_
            refine lv_goto (tgt := 38) hx hb dM_combine_34 (by decide) ?_
            refine W.eq (g2 := F0 m 38 ls ([.int (iZ ((1 : Nat) : Int)), .ref B])) rfl ?_
            refine zm_put_thrown (x := 1) hx hb ht hown hK hZ hS tw_677 dM_combine_38 (fun H locs hZ hS => ?_)
            have hZ : zMD E B w0 (1, fa, ct, be, fb, sb9, (2049 - st)) H := hZ
            refine lv_aload_n hx hb dM_combine_41 rfl (lv_at hl 0 rfl) ?_
            refine zm_thrown hx hb ht hown hK hZ tw_677 dM_combine_42 ?_
            refine zc_i (y := iZ (((1 : Nat) : Int))) rfl ?_
            refine zr_if_le (tgt := 49) hx hb (by decide) dM_combine_45 (by decide) (fun c_19 => ?_) (fun c_19 => ?_)
            · exact absurd c_19 (by decide)
            · exact hend 48 () _ _ _ dM_combine_48 trivial (by obtain ⟨hk, hs⟩ := SP_1 hsp (fun h9 => hng (by first | exact h9 | exact h9.1 | exact h9.2.1 | exact h9.2.2.1 | exact h9.2.2.2.1 | exact h9.2.2.2 | exact h9.2.2 | exact h9.2)); subst hk; subst hs; exact ⟨hok1, w0, (1, fa, ct, be, fb, sb9, (2049 - st)), hZ, ⟨hMR, rfl, hdr, rfl, hpa⟩, rfl⟩) hS
