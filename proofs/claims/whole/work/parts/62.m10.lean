theorem pow_sgn (x : Int) (n : Nat) : (if (decide (x < 0) && decide (n % 2 = 1)) = true then -((x.natAbs ^ n : Nat) : Int) else ((x.natAbs ^ n : Nat) : Int)) = x ^ n := by
  have key : ∀ a : Nat, ((-(a : Int)) ^ n = if n % 2 = 1 then -((a ^ n : Nat) : Int) else ((a ^ n : Nat) : Int)) := by
    intro a
    induction n with
    | zero => rw [Int.pow_zero, if_neg (by decide), Nat.pow_zero]; rfl
    | succ n ih =>
      rw [Int.pow_succ, ih, Nat.pow_succ, Int.natCast_mul]
      by_cases h : n % 2 = 1
      · rw [if_pos h, if_neg (by omega), Int.neg_mul_neg]
      · rw [if_neg h, if_pos (by omega), Int.mul_neg]
  by_cases hx : x < 0
  · obtain ⟨a, rfl⟩ : ∃ a : Nat, x = -(a : Int) := ⟨x.natAbs, by omega⟩
    rw [key, Int.natAbs_neg, Int.natAbs_natCast, decide_eq_true hx, Bool.true_and]
    by_cases h : n % 2 = 1
    · rw [if_pos (decide_eq_true h), if_pos h]
    · rw [if_neg (by rw [decide_eq_false h]; decide), if_neg h]
  · obtain ⟨a, rfl⟩ : ∃ a : Nat, x = (a : Int) := ⟨x.natAbs, by omega⟩
    rw [decide_eq_false hx, Bool.false_and, if_neg (by decide), Int.natAbs_natCast, Int.natCast_pow]
theorem pow_tm {X n tm : Nat} (h : (tm = n) ∨ (X ≤ 1 ∧ 1 ≤ tm ∧ 1 ≤ n)) : X ^ tm = X ^ n := by
  rcases h with h | ⟨h1, h2, h3⟩
  · rw [h]
  · rcases Nat.eq_zero_or_pos X with h0 | h0
    · rw [h0, Nat.zero_pow (by omega), Nat.zero_pow (by omega)]
    · rw [show X = 1 by omega, Nat.one_pow, Nat.one_pow]
theorem pow_over {X k n tm : Nat} {x : Int} (hX : X = x.natAbs) (hp : X ^ tm = X ^ n) (hk : k ≤ tm) (h : rP 128 ≤ X ^ k) : ¬ zX (x ^ n) := by
  intro h9
  have h8 : (x ^ n).natAbs < 2 ^ 2048 := h9
  rw [Int.natAbs_pow, ← hX, ← hp, ← rP_128] at h8
  have hX0 : 0 < X := by
    rcases Nat.eq_zero_or_pos X with h0 | h0
    · rw [h0] at h
      have h7 := rP_mono (show 1 ≤ 128 by decide)
      have h6 : (0 : Nat) ^ k ≤ 1 := by
        rcases Nat.eq_zero_or_pos k with h5 | h5
        · rw [h5]; exact Nat.le_refl _
        · rw [Nat.zero_pow h5]; exact Nat.zero_le _
      have h5 : rP 1 = 65536 := rfl
      omega
    · exact h0
  have := Nat.pow_le_pow_right hX0 hk
  omega
set_option maxHeartbeats 4000000 in
set_option maxRecDepth 100000 in
theorem mM_power (l : Launch) (E : zE) (B : Nat) (rg : Nat → Int) (ct : Nat) (f : Nat → Nat) (st : Nat) (g : Nat → Nat) (t0 : Nat) (a : Int) (hz_a : zi a) (n : Int) (hz_n : zi n) (to : Int) (hz_to : zi to) (k : Nat) (σ1 : zS) (hok1 : okS σ1) (hsp : SP (rok a ∧ rok to ∧ 0 ≤ n) (False) (¬ zX ((rg a.toNat) ^ n.toNat)) (fun τ => zX ((rg a.toNat) ^ n.toNat) ∧ τ = (va_up rg to.toNat ((rg a.toNat) ^ n.toNat), ct, f, st, g)) (rg, ct, f, st, g) k σ1) :
    Met l yM_power (zws yM_power cM_power 7 none) { frames := 2, cells := 0, slots := 0, locals := 90 } (zPc E (zQM E B (rg, ct, f, st, g) t0) [.ref (B), .int (iZ (a)), .int (iZ (n)), .int (iZ (to))]) (va_Qv (fun (u : Unit) => True) (fun u t => zQM E B σ1 (tc k) t.heap ∧ zK E t) (zA B 15)) 0 0 (zA B 15) := by
  refine zof_v (P' := fun (u : Unit) H => zQM E B σ1 (tc k) H) (by decide) (Nat.le_of_ble_eq_true rfl) fun p e R s m args below meth c Q ls hR hx hb hml ht hown hK hZ hl hend => ?_
  have hS : va_S (zA B 15) s.heap s.heap [] := va_S.rf
  have hown : s.vm.findClass "WholeDeskModel" = some m.cls := hown
  have hl : lv_has ls 7 [(0, .ref (B)), (1, .int (iZ (a))), (2, .int (iZ (n))), (3, .int (iZ (to)))] := hl
  obtain ⟨hok, w0, ⟨th, fa, le, be, fb, sb9, pr⟩, hZ, ⟨hMR, hle, hdr, hpr, hpa⟩, hth⟩ := hZ
  dsimp only at *
  rw [hle, hpr] at hZ
  clear hth hle hpr le pr
  refine lv_aload_n hx hb dM_power_0 rfl (lv_at hl 0 rfl) ?_
  refine lv_iload_n hx hb dM_power_1 rfl (lv_at hl 1 rfl) ?_
  refine zcS_i (P' := fun (u : (Nat → Nat → Nat) × zC) H => zMD E B u.1 u.2 H) 1 (As := [.int (iZ (a))]) (rest := [.ref (B)]) ⟨hx, hb, hml, hown, ht⟩ (mM_no l E B w0 (th, fa, ct, be, fb, sb9, (2049 - st)) (a) hz_a) tw_762 tw_760 tw_761 tw_6 qM_no (by rw [hR]; decide) hZ hK hl.1 rfl rfl (Nat.le_of_ble_eq_true rfl) dM_power_2 ⟨Nat.zero_le _, Nat.zero_le _⟩ hS (fun r9 u H locs hp hZ _ hS => ?_)
  obtain ⟨hu9, ba, hr1, hba⟩ := hp
  subst hr1
  rw [hu9] at hZ
  dsimp only at hZ
  clear hu9
  refine zr_if_ne (tgt := 19) hx hb (by have := bZ_01 ba; omega) dM_power_5 (by decide) (fun c_1 => ?_) (fun c_1 => ?_)
  · have hng : ¬ rok a := hba.mp (bZ_nf.mp (by assumption))
    refine lv_iconst (v := iZ (1)) hx hb dM_power_19 (by decide) ?_
    refine lv_goto (tgt := 24) hx hb dM_power_20 (by decide) ?_
    refine W.eq (g2 := F0 m 24 ls ([.int (iZ ((1 : Nat) : Int)), .ref B])) rfl ?_
    refine zm_put_thrown (x := 1) hx hb ht hown hK hZ hS tw_677 dM_power_24 (fun H locs hZ hS => ?_)
    have hZ : zMD E B w0 (1, fa, ct, be, fb, sb9, (2049 - st)) H := hZ
    refine lv_aload_n hx hb dM_power_27 rfl (lv_at hl 0 rfl) ?_
    refine zm_thrown hx hb ht hown hK hZ tw_677 dM_power_28 ?_
    refine zc_i (y := iZ (((1 : Nat) : Int))) rfl ?_
    refine zr_if_le (tgt := 35) hx hb (by decide) dM_power_31 (by decide) (fun c_2 => ?_) (fun c_2 => ?_)
    · exact absurd c_2 (by decide)
    · exact hend 34 () _ _ _ dM_power_34 trivial (by obtain ⟨hk, hs⟩ := SP_1 hsp (fun h9 => hng (by first | exact h9 | exact h9.1 | exact h9.2.1 | exact h9.2.2.1 | exact h9.2.2.2.1 | exact h9.2.2.2 | exact h9.2.2 | exact h9.2)); subst hk; subst hs; exact ⟨hok1, w0, (1, fa, ct, be, fb, sb9, (2049 - st)), hZ, ⟨hMR, rfl, hdr, rfl, hpa⟩, rfl⟩) hS
  · have hk_na : rok a := Classical.byContradiction (fun h9 => absurd (hba.mpr h9) (by rw [show ba = false from bZ_f.mp (by assumption)]; decide))
    obtain ⟨na, rfl⟩ : ∃ n9 : Nat, a = (n9 : Int) := ⟨a.toNat, by have := hk_na.1; omega⟩
    have h10_na : na < 10 := by have := hk_na.2; omega
    refine lv_iload_n hx hb dM_power_8 rfl (lv_at hl 3 rfl) ?_
    refine zcS_i (P' := fun (u : (Nat → Nat → Nat) × zC) H => zMD E B u.1 u.2 H) 1 (As := [.int (iZ (to))]) (rest := [.ref (B)]) ⟨hx, hb, hml, hown, ht⟩ (mM_no l E B w0 (th, fa, ct, be, fb, sb9, (2049 - st)) (to) hz_to) tw_762 tw_760 tw_761 tw_6 qM_no (by rw [hR]; decide) hZ hK hl.1 rfl rfl (Nat.le_of_ble_eq_true rfl) dM_power_9 ⟨Nat.zero_le _, Nat.zero_le _⟩ hS (fun r9 u H locs hp hZ _ hS => ?_)
    obtain ⟨hu9, bto, hr1, hbto⟩ := hp
    subst hr1
    rw [hu9] at hZ
    dsimp only at hZ
    clear hu9
    refine zr_if_ne (tgt := 19) hx hb (by have := bZ_01 bto; omega) dM_power_12 (by decide) (fun c_3 => ?_) (fun c_3 => ?_)
    · have hng : ¬ rok to := hbto.mp (bZ_nf.mp (by assumption))
      refine lv_iconst (v := iZ (1)) hx hb dM_power_19 (by decide) ?_
      refine lv_goto (tgt := 24) hx hb dM_power_20 (by decide) ?_
      refine W.eq (g2 := F0 m 24 ls ([.int (iZ ((1 : Nat) : Int)), .ref B])) rfl ?_
      refine zm_put_thrown (x := 1) hx hb ht hown hK hZ hS tw_677 dM_power_24 (fun H locs hZ hS => ?_)
      have hZ : zMD E B w0 (1, fa, ct, be, fb, sb9, (2049 - st)) H := hZ
      refine lv_aload_n hx hb dM_power_27 rfl (lv_at hl 0 rfl) ?_
      refine zm_thrown hx hb ht hown hK hZ tw_677 dM_power_28 ?_
      refine zc_i (y := iZ (((1 : Nat) : Int))) rfl ?_
      refine zr_if_le (tgt := 35) hx hb (by decide) dM_power_31 (by decide) (fun c_4 => ?_) (fun c_4 => ?_)
      · exact absurd c_4 (by decide)
      · exact hend 34 () _ _ _ dM_power_34 trivial (by obtain ⟨hk, hs⟩ := SP_1 hsp (fun h9 => hng (by first | exact h9 | exact h9.1 | exact h9.2.1 | exact h9.2.2.1 | exact h9.2.2.2.1 | exact h9.2.2.2 | exact h9.2.2 | exact h9.2)); subst hk; subst hs; exact ⟨hok1, w0, (1, fa, ct, be, fb, sb9, (2049 - st)), hZ, ⟨hMR, rfl, hdr, rfl, hpa⟩, rfl⟩) hS
    · have hk_nto : rok to := Classical.byContradiction (fun h9 => absurd (hbto.mpr h9) (by rw [show bto = false from bZ_f.mp (by assumption)]; decide))
      obtain ⟨nto, rfl⟩ : ∃ n9 : Nat, to = (n9 : Int) := ⟨to.toNat, by have := hk_nto.1; omega⟩
      have h10_nto : nto < 10 := by have := hk_nto.2; omega
      refine lv_iload_n hx hb dM_power_15 rfl (lv_at hl 2 rfl) ?_
      refine zr_if_ge (tgt := 23) hx hb (hz_n) dM_power_16 (by decide) (fun c_5 => ?_) (fun c_5 => ?_)
      · have h0n : 0 ≤ n := by omega
        obtain ⟨nn, rfl⟩ : ∃ n9 : Nat, n = (n9 : Int) := ⟨n.toNat, by omega⟩
        have hn31 : nn < 2147483648 := by unfold zi at hz_n; omega
        refine lv_iconst (v := iZ (0)) hx hb dM_power_23 (by decide) ?_
        refine W.eq (g2 := F0 m 24 ls ([.int (iZ ((0 : Nat) : Int)), .ref B])) rfl ?_
        refine zm_put_thrown (x := 0) hx hb ht hown hK hZ hS tw_677 dM_power_24 (fun H locs hZ hS => ?_)
        have hZ : zMD E B w0 (0, fa, ct, be, fb, sb9, (2049 - st)) H := hZ
        refine lv_aload_n hx hb dM_power_27 rfl (lv_at hl 0 rfl) ?_
        refine zm_thrown hx hb ht hown hK hZ tw_677 dM_power_28 ?_
        refine zc_i (y := iZ (((0 : Nat) : Int))) rfl ?_
        refine zr_if_le (tgt := 35) hx hb (by decide) dM_power_31 (by decide) (fun c_6 => ?_) (fun c_6 => ?_)
        · refine lv_aload_n hx hb dM_power_35 rfl (lv_at hl 0 rfl) ?_
          refine lv_iconst (v := iZ (2)) hx hb dM_power_36 (by decide) ?_
          refine W.eq (g2 := F0 m 37 ls ([.int (iZ ((2 : Nat) : Int)), .ref B])) rfl ?_
          refine zm_put_fault (x := 2) hx hb ht hown hK hZ hS tw_678 dM_power_37 (fun H locs hZ hS => ?_)
          have hZ : zMD E B w0 (0, 2, ct, be, fb, sb9, (2049 - st)) H := hZ
          refine lv_aload_n hx hb dM_power_40 rfl (lv_at hl 0 rfl) ?_
          refine lv_iload_n hx hb dM_power_41 rfl (lv_at hl 1 rfl) ?_
          refine lv_aload_n hx hb dM_power_42 rfl (lv_at hl 0 rfl) ?_
          refine zm_one hx hb ht hown hK hZ tw_689 dM_power_43 ?_
          refine zcV_v (P' := fun (u : (Nat → Nat → Nat) × zC) H => zMD E B u.1 u.2 H) 2 (As := [.int (iZ (↑na)), .ref (B + 9)]) (rest := []) rfl ⟨hx, hb, hml, hown, ht⟩ (mM_take l E B w0 (0, 2, ct, be, fb, sb9, (2049 - st)) na h10_na 9 (by decide) 264 rfl (by decide)) tw_791 tw_788 tw_790 tp_13 tw_6 qM_take (by rw [hR]; decide) (zm_recv hK hZ) hZ hK hl.1 rfl rfl (Nat.le_of_ble_eq_true rfl) dM_power_46 ⟨Nat.zero_le _, Nat.zero_le _⟩ hS (fun u H locs hp hZ _ hS => ?_)
          obtain ⟨w, q9⟩ := u
          obtain ⟨ho, hq9, hcp⟩ := hp
          dsimp only at *
          rw [hq9] at hZ
          have htk := take_val hcp (hMR na h10_na).1
          replace hMR : MR w rg := MR_same (ho 2 (by decide)) (ho 3 (by decide)) hMR
          replace hdr : ∀ i, i < ct → w 1 i = f i := fun i hi => by rw [ho 1 (by decide)]; exact hdr i hi
          replace hpa : ∀ i, i < 2049 - st → w 14 i = g (st + i) := fun i hi => by rw [ho 14 (by decide)]; exact hpa i hi
          have hv_9 : rv (w 9) 264 = (rg na).natAbs := htk
          clear htk
          refine lv_aload_n hx hb dM_power_49 rfl (lv_at hl 0 rfl) ?_
          refine lv_aload_n hx hb dM_power_50 rfl (lv_at hl 0 rfl) ?_
          refine zm_row hx hb ht hown hK hZ tw_683 dM_power_51 ?_
          refine zcV_v (P' := fun (u : (Nat → Nat → Nat) × zC) H => zMD E B u.1 u.2 H) 1 (As := [.ref (B + 4)]) (rest := []) rfl ⟨hx, hb, hml, hown, ht⟩ (mM_setOne l E B w (0, 2, ct, be, fb, sb9, (2049 - st)) 4 (by decide) rfl) tw_844 tw_841 tw_843 tp_20 tw_6 qM_setOne (by rw [hR]; decide) (zm_recv hK hZ) hZ hK hl.1 rfl rfl (Nat.le_of_ble_eq_true rfl) dM_power_54 ⟨Nat.zero_le _, Nat.zero_le _⟩ hS (fun u H locs hp hZ _ hS => ?_)
          obtain ⟨w, q9⟩ := u
          obtain ⟨ho, hq9, hso⟩ := hp
          dsimp only at *
          rw [hq9] at hZ
          replace hMR : MR w rg := MR_same (ho 2 (by decide)) (ho 3 (by decide)) hMR
          replace hdr : ∀ i, i < ct → w 1 i = f i := fun i hi => by rw [ho 1 (by decide)]; exact hdr i hi
          replace hpa : ∀ i, i < 2049 - st → w 14 i = g (st + i) := fun i hi => by rw [ho 14 (by decide)]; exact hpa i hi
          replace hv_9 : rv (w 9) 264 = (rg na).natAbs := by rw [ho 9 (by decide)]; exact hv_9
          have hv_4 : rv (w 4) 264 = 1 := hso
          clear hso
          obtain ⟨X9, hX9⟩ : ∃ q, q = (rg na).natAbs := ⟨_, rfl⟩
          rw [← hX9] at hv_9
          have hX128 : X9 < rP 128 := by rw [hX9]; exact rP_big (hok.1 na h10_na)
          have J114 : ∀ (tm : Nat) (w : Nat → Nat → Nat) (H : Heap) (locs : List Loc) (ls : Array Slot), (tm ≤ 2147483647) → (X9 ^ tm = X9 ^ nn) → (MR w rg) → (∀ i, i < ct → w 1 i = f i) → (∀ i, i < 2049 - st → w 14 i = g (st + i)) → (rv (w 9) 264 = X9) → (rv (w 4) 264 = 1) → zMD E B w (0, 2, ct, be, fb, sb9, (2049 - st)) H → va_S (zA B 15) s.heap H locs → lv_has ls 7 [(0, .ref (B)), (1, .int (iZ (↑na))), (2, .int (iZ (↑nn))), (3, .int (iZ (↑nto)))] → W p l e R s m args below meth c H locs 0 0 Q (F0 m 114 ls [.int (iZ (↑tm))]) := by
            intro tm w H locs ls htm hpw hMR hdr hpa hv_9 hv_4 hZ hS hl
            refine lv_istore (lv' := [(5, .int (iZ (↑tm))), (0, .ref (B)), (1, .int (iZ (↑na))), (2, .int (iZ (↑nn))), (3, .int (iZ (↑nto)))]) hx hb dM_power_114 hl (by decide) rfl (fun ls hl => ?_)
            refine lv_iconst (v := iZ (0)) hx hb dM_power_116 (by decide) ?_
            refine lv_istore (lv' := [(6, .int (iZ (0))), (5, .int (iZ (↑tm))), (0, .ref (B)), (1, .int (iZ (↑na))), (2, .int (iZ (↑nn))), (3, .int (iZ (↑nto)))]) hx hb dM_power_117 hl (by decide) rfl (fun ls hl => ?_)
            have L119 : ∀ (fu : Nat) (k1 : Nat) (w : Nat → Nat → Nat) (H : Heap) (locs : List Loc) (ls : Array Slot), tm - k1 < fu → (k1 ≤ tm) → (X9 ^ k1 < rP 128) → (MR w rg) → (∀ i, i < ct → w 1 i = f i) → (∀ i, i < 2049 - st → w 14 i = g (st + i)) → (rv (w 9) 264 = X9) → (rv (w 4) 264 = X9 ^ k1) → zMD E B w (0, 2, ct, be, fb, sb9, (2049 - st)) H → va_S (zA B 15) s.heap H locs → lv_has ls 7 [(0, .ref (B)), (1, .int (iZ (↑na))), (2, .int (iZ (↑nn))), (3, .int (iZ (↑nto))), (5, .int (iZ (↑tm))), (6, .int (iZ (↑k1)))] → W p l e R s m args below meth c H locs 0 0 Q (F0 m 119 ls []) := by
              intro fu
              induction fu with
              | zero => intro k1 w H locs ls hm; exact absurd hm (Nat.not_lt_zero _)
              | succ fu ihL119 =>
                intro k1 w H locs ls hm hk1 hlt hMR hdr hpa hv_9 hv_4 hZ hS hl
                refine lv_iload hx hb dM_power_119 (lv_at hl 5 rfl) ?_
                refine lv_iload hx hb dM_power_121 (lv_at hl 4 rfl) ?_
                refine zr_icmp_ge (tgt := 167) hx hb (by unfold zi; omega) (by unfold zi; omega) dM_power_123 (by decide) (fun c_7 => ?_) (fun c_7 => ?_)
                · have hkt : k1 = tm := by omega
                  rw [hkt, hpw] at hv_4 hlt
                  refine lv_aload_n hx hb dM_power_167 rfl (lv_at hl 0 rfl) ?_
                  refine lv_aload_n hx hb dM_power_168 rfl (lv_at hl 0 rfl) ?_
                  refine zm_minus hx hb ht hown hK hZ tw_682 dM_power_169 ?_
                  refine lv_iload_n hx hb dM_power_172 rfl (lv_at hl 1 rfl) ?_
                  refine zm_ldz (i := na) hx hb hK hZ (by omega) dM_power_173 ?_
                  rw [show ((w 3 na : Nat) : Int) = bZ (decide (rg na < 0)) from by rw [show w 3 na = bN (decide (rg na < 0)) from (hMR na h10_na).2, bN_Z]]
                  refine zr_if_eq (tgt := 188) hx hb (by have := bZ_01 (decide (rg na < 0)); omega) dM_power_174 (by decide) (fun c_8 => ?_) (fun c_8 => ?_)
                  · refine lv_iconst (v := iZ (0)) hx hb dM_power_188 (by decide) ?_
                    refine W.eq (g2 := F0 m 189 ls ([.int (iZ (bZ false)), .ref B])) rfl ?_
                    refine zm_put_below (x := false) hx hb ht hown hK hZ hS tw_684 dM_power_189 (fun H locs hZ hS => ?_)
                    have hZ : zMD E B w (0, 2, ct, false, fb, sb9, (2049 - st)) H := hZ
                    have hbe : false = (decide (rg na < 0) && decide (nn % 2 = 1)) := by rw [show decide (rg na < 0) = false from bZ_f.mp (by assumption), Bool.false_and]
                    refine lv_aload_n hx hb dM_power_192 rfl (lv_at hl 0 rfl) ?_
                    refine lv_iload_n hx hb dM_power_193 rfl (lv_at hl 3 rfl) ?_
                    refine zcV_v (P' := fun (u : (Nat → Nat → Nat) × zC) H => zMD E B u.1 u.2 H) 1 (As := [.int (iZ (↑nto))]) (rest := []) rfl ⟨hx, hb, hml, hown, ht⟩ (mM_store l E B w (0, 2, ct, false, fb, sb9, (2049 - st)) nto h10_nto rg hMR) tw_779 tw_776 tw_778 tp_12 tw_6 qM_store (by rw [hR]; decide) (zm_recv hK hZ) hZ hK hl.1 rfl rfl (Nat.le_of_ble_eq_true rfl) dM_power_194 ⟨Nat.zero_le _, Nat.zero_le _⟩ hS (fun u H locs hp hZ _ hS => ?_)
                    obtain ⟨w, q9⟩ := u
                    obtain ⟨ho, hbig, hfit⟩ := hp
                    dsimp only at *
                    rw [hv_4] at hbig hfit
                    have hzz : (if false = true then -(((X9 ^ nn : Nat) : Int)) else ((X9 ^ nn : Nat) : Int)) = rg na ^ nn := by have h9 := pow_sgn (rg na) nn; rw [← hbe, ← hX9] at h9; exact h9
                    have hzX : zX (rg na ^ nn) ↔ X9 ^ nn < rP 128 := by rw [← hzz]; exact zX_if
                    rcases Nat.lt_or_ge (X9 ^ nn) (rP 128) with hX | hX
                    · obtain ⟨hq9, hMR9⟩ := hfit hX
                      rw [hq9] at hZ
                      rw [hzz] at hMR9
                      have hzx := hzX.mpr hX
                      replace hdr : ∀ i, i < ct → w 1 i = f i := fun i hi => by rw [ho 1 (by decide) (by decide)]; exact hdr i hi
                      replace hpa : ∀ i, i < 2049 - st → w 14 i = g (st + i) := fun i hi => by rw [ho 14 (by decide) (by decide)]; exact hpa i hi
                      replace hv_9 : rv (w 9) 264 = X9 := by rw [ho 9 (by decide) (by decide)]; exact hv_9
                      replace hv_4 : rv (w 4) 264 = X9 ^ nn := by rw [ho 4 (by decide) (by decide)]; exact hv_4
                      have hMR : MR w (va_up rg nto (rg na ^ nn)) := hMR9
                      exact hend 197 () _ _ _ dM_power_197 trivial (by rcases SP_g hsp ⟨hk_na, hk_nto, h0n⟩ with ⟨_, h, _⟩ | ⟨_, h, _⟩ | ⟨hk, _, hs⟩; exact h.elim; exact absurd hzx h; subst hk; subst hs; exact ⟨hok1, w, (0, 2, ct, false, fb, sb9, (2049 - st)), hZ, ⟨hMR, rfl, hdr, rfl, hpa⟩, rfl⟩) hS
                    · obtain ⟨e1, e2⟩ := Prod.mk.inj (hbig hX)
                      rw [e2] at hZ
                      rw [← e1] at hMR hdr hpa
                      have hzx : ¬ zX (rg na ^ nn) := fun h9 => absurd (hzX.mp h9) (Nat.not_lt.mpr hX)
                      have hZ : zMD E B w (2, 2, ct, false, fb, sb9, (2049 - st)) H := hZ
                      exact absurd hlt (Nat.not_lt.mpr hX)
                  · have hxn : rg na < 0 := of_decide_eq_true (bZ_nf.mp (by assumption))
                    refine lv_iload_n hx hb dM_power_177 rfl (lv_at hl 2 rfl) ?_
                    refine lv_iconst (v := iZ (2)) hx hb dM_power_178 (by decide) ?_
                    refine zr_irem hx hb (by unfold zi; omega) (by unfold zi; omega) (by omega) (by omega) dM_power_179 ?_
                    refine lv_iconst (v := iZ (1)) hx hb dM_power_180 (by decide) ?_
                    refine zr_icmp_ne (tgt := 188) hx hb (by unfold zi; omega) (by unfold zi; omega) dM_power_181 (by decide) (fun c_9 => ?_) (fun c_9 => ?_)
                    · refine lv_iconst (v := iZ (0)) hx hb dM_power_188 (by decide) ?_
                      refine W.eq (g2 := F0 m 189 ls ([.int (iZ (bZ false)), .ref B])) rfl ?_
                      refine zm_put_below (x := false) hx hb ht hown hK hZ hS tw_684 dM_power_189 (fun H locs hZ hS => ?_)
                      have hZ : zMD E B w (0, 2, ct, false, fb, sb9, (2049 - st)) H := hZ
                      have hbe : false = (decide (rg na < 0) && decide (nn % 2 = 1)) := by rw [decide_eq_false (show ¬ nn % 2 = 1 by omega), Bool.and_false]
                      refine lv_aload_n hx hb dM_power_192 rfl (lv_at hl 0 rfl) ?_
                      refine lv_iload_n hx hb dM_power_193 rfl (lv_at hl 3 rfl) ?_
                      refine zcV_v (P' := fun (u : (Nat → Nat → Nat) × zC) H => zMD E B u.1 u.2 H) 1 (As := [.int (iZ (↑nto))]) (rest := []) rfl ⟨hx, hb, hml, hown, ht⟩ (mM_store l E B w (0, 2, ct, false, fb, sb9, (2049 - st)) nto h10_nto rg hMR) tw_779 tw_776 tw_778 tp_12 tw_6 qM_store (by rw [hR]; decide) (zm_recv hK hZ) hZ hK hl.1 rfl rfl (Nat.le_of_ble_eq_true rfl) dM_power_194 ⟨Nat.zero_le _, Nat.zero_le _⟩ hS (fun u H locs hp hZ _ hS => ?_)
                      obtain ⟨w, q9⟩ := u
                      obtain ⟨ho, hbig, hfit⟩ := hp
                      dsimp only at *
                      rw [hv_4] at hbig hfit
                      have hzz : (if false = true then -(((X9 ^ nn : Nat) : Int)) else ((X9 ^ nn : Nat) : Int)) = rg na ^ nn := by have h9 := pow_sgn (rg na) nn; rw [← hbe, ← hX9] at h9; exact h9
                      have hzX : zX (rg na ^ nn) ↔ X9 ^ nn < rP 128 := by rw [← hzz]; exact zX_if
                      rcases Nat.lt_or_ge (X9 ^ nn) (rP 128) with hX | hX
                      · obtain ⟨hq9, hMR9⟩ := hfit hX
                        rw [hq9] at hZ
                        rw [hzz] at hMR9
                        have hzx := hzX.mpr hX
                        replace hdr : ∀ i, i < ct → w 1 i = f i := fun i hi => by rw [ho 1 (by decide) (by decide)]; exact hdr i hi
                        replace hpa : ∀ i, i < 2049 - st → w 14 i = g (st + i) := fun i hi => by rw [ho 14 (by decide) (by decide)]; exact hpa i hi
                        replace hv_9 : rv (w 9) 264 = X9 := by rw [ho 9 (by decide) (by decide)]; exact hv_9
                        replace hv_4 : rv (w 4) 264 = X9 ^ nn := by rw [ho 4 (by decide) (by decide)]; exact hv_4
                        have hMR : MR w (va_up rg nto (rg na ^ nn)) := hMR9
                        exact hend 197 () _ _ _ dM_power_197 trivial (by rcases SP_g hsp ⟨hk_na, hk_nto, h0n⟩ with ⟨_, h, _⟩ | ⟨_, h, _⟩ | ⟨hk, _, hs⟩; exact h.elim; exact absurd hzx h; subst hk; subst hs; exact ⟨hok1, w, (0, 2, ct, false, fb, sb9, (2049 - st)), hZ, ⟨hMR, rfl, hdr, rfl, hpa⟩, rfl⟩) hS
                      · obtain ⟨e1, e2⟩ := Prod.mk.inj (hbig hX)
                        rw [e2] at hZ
                        rw [← e1] at hMR hdr hpa
                        have hzx : ¬ zX (rg na ^ nn) := fun h9 => absurd (hzX.mp h9) (Nat.not_lt.mpr hX)
                        have hZ : zMD E B w (2, 2, ct, false, fb, sb9, (2049 - st)) H := hZ
                        exact absurd hlt (Nat.not_lt.mpr hX)
                    · refine lv_iconst (v := iZ (1)) hx hb dM_power_184 (by decide) ?_
                      refine lv_goto (tgt := 189) hx hb dM_power_185 (by decide) ?_
                      refine W.eq (g2 := F0 m 189 ls ([.int (iZ (bZ true)), .ref B])) rfl ?_
                      refine zm_put_below (x := true) hx hb ht hown hK hZ hS tw_684 dM_power_189 (fun H locs hZ hS => ?_)
                      have hZ : zMD E B w (0, 2, ct, true, fb, sb9, (2049 - st)) H := hZ
                      have hbe : true = (decide (rg na < 0) && decide (nn % 2 = 1)) := by rw [decide_eq_true hxn, decide_eq_true (by omega)]; rfl
                      refine lv_aload_n hx hb dM_power_192 rfl (lv_at hl 0 rfl) ?_
                      refine lv_iload_n hx hb dM_power_193 rfl (lv_at hl 3 rfl) ?_
                      refine zcV_v (P' := fun (u : (Nat → Nat → Nat) × zC) H => zMD E B u.1 u.2 H) 1 (As := [.int (iZ (↑nto))]) (rest := []) rfl ⟨hx, hb, hml, hown, ht⟩ (mM_store l E B w (0, 2, ct, true, fb, sb9, (2049 - st)) nto h10_nto rg hMR) tw_779 tw_776 tw_778 tp_12 tw_6 qM_store (by rw [hR]; decide) (zm_recv hK hZ) hZ hK hl.1 rfl rfl (Nat.le_of_ble_eq_true rfl) dM_power_194 ⟨Nat.zero_le _, Nat.zero_le _⟩ hS (fun u H locs hp hZ _ hS => ?_)
                      obtain ⟨w, q9⟩ := u
                      obtain ⟨ho, hbig, hfit⟩ := hp
                      dsimp only at *
                      rw [hv_4] at hbig hfit
                      have hzz : (if true = true then -(((X9 ^ nn : Nat) : Int)) else ((X9 ^ nn : Nat) : Int)) = rg na ^ nn := by have h9 := pow_sgn (rg na) nn; rw [← hbe, ← hX9] at h9; exact h9
                      have hzX : zX (rg na ^ nn) ↔ X9 ^ nn < rP 128 := by rw [← hzz]; exact zX_if
                      rcases Nat.lt_or_ge (X9 ^ nn) (rP 128) with hX | hX
                      · obtain ⟨hq9, hMR9⟩ := hfit hX
                        rw [hq9] at hZ
                        rw [hzz] at hMR9
                        have hzx := hzX.mpr hX
                        replace hdr : ∀ i, i < ct → w 1 i = f i := fun i hi => by rw [ho 1 (by decide) (by decide)]; exact hdr i hi
                        replace hpa : ∀ i, i < 2049 - st → w 14 i = g (st + i) := fun i hi => by rw [ho 14 (by decide) (by decide)]; exact hpa i hi
                        replace hv_9 : rv (w 9) 264 = X9 := by rw [ho 9 (by decide) (by decide)]; exact hv_9
                        replace hv_4 : rv (w 4) 264 = X9 ^ nn := by rw [ho 4 (by decide) (by decide)]; exact hv_4
                        have hMR : MR w (va_up rg nto (rg na ^ nn)) := hMR9
                        exact hend 197 () _ _ _ dM_power_197 trivial (by rcases SP_g hsp ⟨hk_na, hk_nto, h0n⟩ with ⟨_, h, _⟩ | ⟨_, h, _⟩ | ⟨hk, _, hs⟩; exact h.elim; exact absurd hzx h; subst hk; subst hs; exact ⟨hok1, w, (0, 2, ct, true, fb, sb9, (2049 - st)), hZ, ⟨hMR, rfl, hdr, rfl, hpa⟩, rfl⟩) hS
                      · obtain ⟨e1, e2⟩ := Prod.mk.inj (hbig hX)
                        rw [e2] at hZ
                        rw [← e1] at hMR hdr hpa
                        have hzx : ¬ zX (rg na ^ nn) := fun h9 => absurd (hzX.mp h9) (Nat.not_lt.mpr hX)
                        have hZ : zMD E B w (2, 2, ct, true, fb, sb9, (2049 - st)) H := hZ
                        exact absurd hlt (Nat.not_lt.mpr hX)
                · refine lv_aload_n hx hb dM_power_126 rfl (lv_at hl 0 rfl) ?_
                  refine lv_aload_n hx hb dM_power_127 rfl (lv_at hl 0 rfl) ?_
                  refine zm_row hx hb ht hown hK hZ tw_683 dM_power_128 ?_
                  refine lv_aload_n hx hb dM_power_131 rfl (lv_at hl 0 rfl) ?_
                  refine zm_one hx hb ht hown hK hZ tw_689 dM_power_132 ?_
                  refine lv_aload_n hx hb dM_power_135 rfl (lv_at hl 0 rfl) ?_
                  refine zm_row hx hb ht hown hK hZ tw_683 dM_power_136 ?_
                  refine zcV_v (P' := fun (u : (Nat → Nat → Nat) × zC) H => zMD E B u.1 u.2 H) 3 (As := [.ref (B + 4), .ref (B + 9), .ref (B + 4)]) (rest := []) rfl ⟨hx, hb, hml, hown, ht⟩ (mM_multiplyRows l E B w (0, 2, ct, be, fb, sb9, (2049 - st)) 4 (by decide) 9 (by decide) 4 (by decide) rfl rfl rfl (by decide) (by decide) (by decide)) tw_812 tw_809 tw_811 tp_15 tw_6 qM_multiplyRows (by rw [hR]; decide) (zm_recv hK hZ) hZ hK hl.1 rfl rfl (Nat.le_of_ble_eq_true rfl) dM_power_139 ⟨Nat.zero_le _, Nat.zero_le _⟩ hS (fun u H locs hp hZ _ hS => ?_)
                  obtain ⟨w, q9⟩ := u
                  obtain ⟨ho, hq9, hmv⟩ := hp
                  dsimp only at *
                  rw [hq9] at hZ
                  rw [hv_4, hv_9] at hmv
                  replace hMR : MR w rg := MR_same (ho 2 (by decide) (by decide)) (ho 3 (by decide) (by decide)) hMR
                  replace hdr : ∀ i, i < ct → w 1 i = f i := fun i hi => by rw [ho 1 (by decide) (by decide)]; exact hdr i hi
                  replace hpa : ∀ i, i < 2049 - st → w 14 i = g (st + i) := fun i hi => by rw [ho 14 (by decide) (by decide)]; exact hpa i hi
                  replace hv_9 : rv (w 9) 264 = X9 := by rw [ho 9 (by decide) (by decide)]; exact hv_9
                  clear hv_4
                  have hv_4 : rv (w 4) 264 = X9 ^ (k1 + 1) := by rw [hmv, Nat.pow_succ]; exact Nat.mod_eq_of_lt (rP_mul128 hlt hX128)
                  refine lv_aload_n hx hb dM_power_142 rfl (lv_at hl 0 rfl) ?_
                  refine zm_row hx hb ht hown hK hZ tw_683 dM_power_143 ?_
                  refine zcS_i (P' := fun (u : (Nat → Nat → Nat) × zC) H => zMD E B u.1 u.2 H) 1 (As := [.ref (B + 4)]) (rest := []) ⟨hx, hb, hml, hown, ht⟩ (mM_size l E B w (0, 2, ct, be, fb, sb9, (2049 - st)) 4 (by decide) 264 rfl (by decide)) tw_774 tw_772 tw_773 tw_6 qM_size (by rw [hR]; decide) hZ hK hl.1 rfl rfl (Nat.le_of_ble_eq_true rfl) dM_power_146 ⟨Nat.zero_le _, Nat.zero_le _⟩ hS (fun r9 u H locs hp hZ _ hS => ?_)
                  obtain ⟨hu9, s3, hr1, hs31, hs32, hs33⟩ := hp
                  subst hr1
                  rw [hu9] at hZ
                  dsimp only at hZ
                  clear hu9
                  have hs3z : ∀ q, s3 ≤ q ↔ X9 ^ (k1 + 1) < rP q := fun q => by rw [← hv_4]; exact size_le (hZ.2 4) hs31 hs32 hs33 q
                  refine lv_sipush (v := iZ (128)) hx hb dM_power_149 (by decide) ?_
                  refine zr_icmp_le (tgt := 161) hx hb (by unfold zi; omega) (by unfold zi; omega) dM_power_152 (by decide) (fun c_10 => ?_) (fun c_10 => ?_)
                  · have hlt2 : X9 ^ (k1 + 1) < rP 128 := (hs3z 128).mp (by omega)
                    refine lv_iinc (v := iZ (↑k1 + 1)) (lv' := [(6, .int (iZ (↑k1 + 1))), (0, .ref (B)), (1, .int (iZ (↑na))), (2, .int (iZ (↑nn))), (3, .int (iZ (↑nto))), (5, .int (iZ (↑tm)))]) hx hb dM_power_161 hl (k := 5) rfl (iZ_add _ _) (by decide) rfl (fun ls hl => ?_)
                    refine lv_goto (tgt := 119) hx hb dM_power_164 (by decide) ?_
                    rw [show (↑k1 + 1 : Int) = ↑(k1 + 1) from by omega] at hl
                    exact ihL119 (k1 + 1) w _ _ _ (by omega) (by omega) (hlt2) hMR hdr hpa hv_9 hv_4 hZ hS (lv_sub hl [1, 2, 3, 4, 5, 0] rfl)
                  · have hov : ¬ zX (rg na ^ nn) := pow_over (k := k1 + 1) hX9 hpw (by omega) (Nat.not_lt.mp (fun h9 => absurd ((hs3z 128).mpr h9) (by omega)))
                    refine lv_aload_n hx hb dM_power_155 rfl (lv_at hl 0 rfl) ?_
                    refine lv_iconst (v := iZ (2)) hx hb dM_power_156 (by decide) ?_
                    refine W.eq (g2 := F0 m 157 ls ([.int (iZ ((2 : Nat) : Int)), .ref B])) rfl ?_
                    refine zm_put_thrown (x := 2) hx hb ht hown hK hZ hS tw_677 dM_power_157 (fun H locs hZ hS => ?_)
                    have hZ : zMD E B w (2, 2, ct, be, fb, sb9, (2049 - st)) H := hZ
                    exact hend 160 () _ _ _ dM_power_160 trivial (by rcases SP_g hsp ⟨hk_na, hk_nto, h0n⟩ with ⟨_, h, _⟩ | ⟨hk, h, hs⟩ | ⟨_, h, _⟩; exact h.elim; subst hk; subst hs; exact ⟨hok1, w, (2, 2, ct, be, fb, sb9, (2049 - st)), hZ, ⟨hMR, rfl, hdr, rfl, hpa⟩, rfl⟩; exact absurd h hov) hS
            exact L119 _ 0 w _ _ _ (Nat.lt_succ_self _) (Nat.zero_le _) (by rw [Nat.pow_zero]; exact Nat.lt_of_lt_of_le (show 1 < rP 1 by decide) (rP_mono (by decide))) hMR hdr hpa hv_9 (by rw [Nat.pow_zero]; exact hv_4) hZ hS (lv_sub hl [2, 3, 4, 5, 1, 0] rfl)
          refine lv_aload_n hx hb dM_power_57 rfl (lv_at hl 0 rfl) ?_
          refine zm_one hx hb ht hown hK hZ tw_689 dM_power_58 ?_
          refine zcS_i (P' := fun (u : (Nat → Nat → Nat) × zC) H => zMD E B u.1 u.2 H) 1 (As := [.ref (B + 9)]) (rest := []) ⟨hx, hb, hml, hown, ht⟩ (mM_size l E B w (0, 2, ct, be, fb, sb9, (2049 - st)) 9 (by decide) 264 rfl (by decide)) tw_774 tw_772 tw_773 tw_6 qM_size (by rw [hR]; decide) hZ hK hl.1 rfl rfl (Nat.le_of_ble_eq_true rfl) dM_power_61 ⟨Nat.zero_le _, Nat.zero_le _⟩ hS (fun r9 u H locs hp hZ _ hS => ?_)
          obtain ⟨hu9, s1, hr1, hs11, hs12, hs13⟩ := hp
          subst hr1
          rw [hu9] at hZ
          dsimp only at hZ
          clear hu9
          have hs1z : ∀ q, s1 ≤ q ↔ X9 < rP q := fun q => by rw [← hv_9]; exact size_le (hZ.2 9) hs11 hs12 hs13 q
          refine zr_if_eq (tgt := 88) hx hb (by unfold zi; omega) dM_power_64 (by decide) (fun c_11 => ?_) (fun c_11 => ?_)
          · have hsm9 : X9 ≤ 1 := by have := (size_0 hs1z).mp (by omega); omega
            refine lv_iconst (v := iZ (1)) hx hb dM_power_88 (by decide) ?_
            refine lv_goto (tgt := 93) hx hb dM_power_89 (by decide) ?_
            refine lv_istore (lv' := [(4, .int (iZ (1))), (0, .ref (B)), (1, .int (iZ (↑na))), (2, .int (iZ (↑nn))), (3, .int (iZ (↑nto)))]) hx hb dM_power_93 hl (by decide) rfl (fun ls hl => ?_)
            refine lv_iload hx hb dM_power_95 (lv_at hl 0 rfl) ?_
            refine zr_if_eq (tgt := 113) hx hb (by decide) dM_power_97 (by decide) (fun c_12 => ?_) (fun c_12 => ?_)
            · exact absurd c_12 (by decide)
            · refine lv_iload_n hx hb dM_power_100 rfl (lv_at hl 3 rfl) ?_
              refine lv_iconst (v := iZ (2)) hx hb dM_power_101 (by decide) ?_
              refine zr_icmp_le (tgt := 113) hx hb (by unfold zi; omega) (by unfold zi; omega) dM_power_102 (by decide) (fun c_13 => ?_) (fun c_13 => ?_)
              · refine lv_iload_n hx hb dM_power_113 rfl (lv_at hl 3 rfl) ?_
                exact J114 nn w _ _ _ (by omega) (rfl) hMR hdr hpa hv_9 hv_4 hZ hS (lv_sub hl [1, 2, 3, 4] rfl)
              · refine lv_iconst (v := iZ (2)) hx hb dM_power_105 (by decide) ?_
                refine lv_iload_n hx hb dM_power_106 rfl (lv_at hl 3 rfl) ?_
                refine lv_iconst (v := iZ (2)) hx hb dM_power_107 (by decide) ?_
                refine zr_irem hx hb (by unfold zi; omega) (by unfold zi; omega) (by omega) (by omega) dM_power_108 ?_
                refine zr_isub hx hb dM_power_109 ?_
                refine zc_i (y := iZ ((2 - nn % 2 : Nat) : Int)) (congrArg iZ (by omega)) ?_
                refine lv_goto (tgt := 114) hx hb dM_power_110 (by decide) ?_
                exact J114 (2 - nn % 2) w _ _ _ (by omega) (pow_tm (Or.inr ⟨hsm9, by omega, by omega⟩)) hMR hdr hpa hv_9 hv_4 hZ hS (lv_sub hl [1, 2, 3, 4] rfl)
          · refine lv_aload_n hx hb dM_power_67 rfl (lv_at hl 0 rfl) ?_
            refine zm_one hx hb ht hown hK hZ tw_689 dM_power_68 ?_
            refine zcS_i (P' := fun (u : (Nat → Nat → Nat) × zC) H => zMD E B u.1 u.2 H) 1 (As := [.ref (B + 9)]) (rest := []) ⟨hx, hb, hml, hown, ht⟩ (mM_size l E B w (0, 2, ct, be, fb, sb9, (2049 - st)) 9 (by decide) 264 rfl (by decide)) tw_774 tw_772 tw_773 tw_6 qM_size (by rw [hR]; decide) hZ hK hl.1 rfl rfl (Nat.le_of_ble_eq_true rfl) dM_power_71 ⟨Nat.zero_le _, Nat.zero_le _⟩ hS (fun r9 u H locs hp hZ _ hS => ?_)
            obtain ⟨hu9, s2, hr1, hs21, hs22, hs23⟩ := hp
            subst hr1
            rw [hu9] at hZ
            dsimp only at hZ
            clear hu9
            have hs2z : ∀ q, s2 ≤ q ↔ X9 < rP q := fun q => by rw [← hv_9]; exact size_le (hZ.2 9) hs21 hs22 hs23 q
            refine lv_iconst (v := iZ (1)) hx hb dM_power_74 (by decide) ?_
            refine zr_icmp_ne (tgt := 92) hx hb (by unfold zi; omega) (by unfold zi; omega) dM_power_75 (by decide) (fun c_14 => ?_) (fun c_14 => ?_)
            · refine lv_iconst (v := iZ (0)) hx hb dM_power_92 (by decide) ?_
              refine lv_istore (lv' := [(4, .int (iZ (0))), (0, .ref (B)), (1, .int (iZ (↑na))), (2, .int (iZ (↑nn))), (3, .int (iZ (↑nto)))]) hx hb dM_power_93 hl (by decide) rfl (fun ls hl => ?_)
              refine lv_iload hx hb dM_power_95 (lv_at hl 0 rfl) ?_
              refine zr_if_eq (tgt := 113) hx hb (by decide) dM_power_97 (by decide) (fun c_15 => ?_) (fun c_15 => ?_)
              · refine lv_iload_n hx hb dM_power_113 rfl (lv_at hl 3 rfl) ?_
                exact J114 nn w _ _ _ (by omega) (rfl) hMR hdr hpa hv_9 hv_4 hZ hS (lv_sub hl [1, 2, 3, 4] rfl)
              · exact absurd c_15 (by decide)
            · refine lv_aload_n hx hb dM_power_78 rfl (lv_at hl 0 rfl) ?_
              refine zm_one hx hb ht hown hK hZ tw_689 dM_power_79 ?_
              refine lv_iconst (v := iZ (0)) hx hb dM_power_82 (by decide) ?_
              refine W.eq (g2 := F0 m 83 ls (.int (iZ ((0 : Nat) : Int)) :: .ref (B + 9) :: [])) rfl ?_
              refine zm_ld (k := 9) (i := 0) hx hb hK hZ (by decide) (by show 0 < 264; omega) dM_power_83 ?_
              have h90 := rv_one (hZ.2 9) hs21 hs22 hv_9 (by omega)
              have hl90 := hZ.2 9 0
              rw [h90] at hl90 ⊢
              refine lv_iconst (v := iZ (1)) hx hb dM_power_84 (by decide) ?_
              refine zr_icmp_ne (tgt := 92) hx hb (by unfold zi; omega) (by unfold zi; omega) dM_power_85 (by decide) (fun c_16 => ?_) (fun c_16 => ?_)
              · refine lv_iconst (v := iZ (0)) hx hb dM_power_92 (by decide) ?_
                refine lv_istore (lv' := [(4, .int (iZ (0))), (0, .ref (B)), (1, .int (iZ (↑na))), (2, .int (iZ (↑nn))), (3, .int (iZ (↑nto)))]) hx hb dM_power_93 hl (by decide) rfl (fun ls hl => ?_)
                refine lv_iload hx hb dM_power_95 (lv_at hl 0 rfl) ?_
                refine zr_if_eq (tgt := 113) hx hb (by decide) dM_power_97 (by decide) (fun c_17 => ?_) (fun c_17 => ?_)
                · refine lv_iload_n hx hb dM_power_113 rfl (lv_at hl 3 rfl) ?_
                  exact J114 nn w _ _ _ (by omega) (rfl) hMR hdr hpa hv_9 hv_4 hZ hS (lv_sub hl [1, 2, 3, 4] rfl)
                · exact absurd c_17 (by decide)
              · have hsm9 : X9 ≤ 1 := by omega
                refine lv_iconst (v := iZ (1)) hx hb dM_power_88 (by decide) ?_
                refine lv_goto (tgt := 93) hx hb dM_power_89 (by decide) ?_
                refine lv_istore (lv' := [(4, .int (iZ (1))), (0, .ref (B)), (1, .int (iZ (↑na))), (2, .int (iZ (↑nn))), (3, .int (iZ (↑nto)))]) hx hb dM_power_93 hl (by decide) rfl (fun ls hl => ?_)
                refine lv_iload hx hb dM_power_95 (lv_at hl 0 rfl) ?_
                refine zr_if_eq (tgt := 113) hx hb (by decide) dM_power_97 (by decide) (fun c_18 => ?_) (fun c_18 => ?_)
                · exact absurd c_18 (by decide)
                · refine lv_iload_n hx hb dM_power_100 rfl (lv_at hl 3 rfl) ?_
                  refine lv_iconst (v := iZ (2)) hx hb dM_power_101 (by decide) ?_
                  refine zr_icmp_le (tgt := 113) hx hb (by unfold zi; omega) (by unfold zi; omega) dM_power_102 (by decide) (fun c_19 => ?_) (fun c_19 => ?_)
                  · refine lv_iload_n hx hb dM_power_113 rfl (lv_at hl 3 rfl) ?_
                    exact J114 nn w _ _ _ (by omega) (rfl) hMR hdr hpa hv_9 hv_4 hZ hS (lv_sub hl [1, 2, 3, 4] rfl)
                  · refine lv_iconst (v := iZ (2)) hx hb dM_power_105 (by decide) ?_
                    refine lv_iload_n hx hb dM_power_106 rfl (lv_at hl 3 rfl) ?_
                    refine lv_iconst (v := iZ (2)) hx hb dM_power_107 (by decide) ?_
                    refine zr_irem hx hb (by unfold zi; omega) (by unfold zi; omega) (by omega) (by omega) dM_power_108 ?_
                    refine zr_isub hx hb dM_power_109 ?_
                    refine zc_i (y := iZ ((2 - nn % 2 : Nat) : Int)) (congrArg iZ (by omega)) ?_
                    refine lv_goto (tgt := 114) hx hb dM_power_110 (by decide) ?_
                    exact J114 (2 - nn % 2) w _ _ _ (by omega) (pow_tm (Or.inr ⟨hsm9, by omega, by omega⟩)) hMR hdr hpa hv_9 hv_4 hZ hS (lv_sub hl [1, 2, 3, 4] rfl)
        · exact absurd c_6 (by decide)
      · have hng : ¬ 0 ≤ n := by omega
        refine lv_iconst (v := iZ (1)) hx hb dM_power_19 (by decide) ?_
        refine lv_goto (tgt := 24) hx hb dM_power_20 (by decide) ?_
        refine W.eq (g2 := F0 m 24 ls ([.int (iZ ((1 : Nat) : Int)), .ref B])) rfl ?_
        refine zm_put_thrown (x := 1) hx hb ht hown hK hZ hS tw_677 dM_power_24 (fun H locs hZ hS => ?_)
        have hZ : zMD E B w0 (1, fa, ct, be, fb, sb9, (2049 - st)) H := hZ
        refine lv_aload_n hx hb dM_power_27 rfl (lv_at hl 0 rfl) ?_
        refine zm_thrown hx hb ht hown hK hZ tw_677 dM_power_28 ?_
        refine zc_i (y := iZ (((1 : Nat) : Int))) rfl ?_
        refine zr_if_le (tgt := 35) hx hb (by decide) dM_power_31 (by decide) (fun c_20 => ?_) (fun c_20 => ?_)
        · exact absurd c_20 (by decide)
        · exact hend 34 () _ _ _ dM_power_34 trivial (by obtain ⟨hk, hs⟩ := SP_1 hsp (fun h9 => hng (by first | exact h9 | exact h9.1 | exact h9.2.1 | exact h9.2.2.1 | exact h9.2.2.2.1 | exact h9.2.2.2 | exact h9.2.2 | exact h9.2)); subst hk; subst hs; exact ⟨hok1, w0, (1, fa, ct, be, fb, sb9, (2049 - st)), hZ, ⟨hMR, rfl, hdr, rfl, hpa⟩, rfl⟩) hS
