theorem rbit {d : Nat → Nat} (hd : ∀ i, d i < 65536) {j : Nat} (hj : j < 2048) {E : Nat} (hE : rv d 128 = E) : d (j / 16) / 2 ^ (j % 16) % 2 = E / 2 ^ j % 2 := by
  rw [← rv_digit hd (show j / 16 < 128 by omega), hE, rP_two]
  have e1 : E / 2 ^ j = E / 2 ^ (16 * (j / 16)) / 2 ^ (j % 16) := by rw [Nat.div_div_eq_div_mul, ← Nat.pow_add, Nat.div_add_mod]
  rw [e1]
  generalize E / 2 ^ (16 * (j / 16)) = A
  rw [show (65536 : Nat) = 2 ^ 16 from rfl, tb_dm, tb_dm, Nat.testBit_mod_two_pow, decide_eq_true (Nat.mod_lt _ (by decide)), Bool.true_and]
theorem top_bit {E n : Nat} (hn : 1 ≤ n) (h : E < 2 ^ n) (h0 : E / 2 ^ (n - 1) % 2 = 0) : E < 2 ^ (n - 1) := by
  obtain ⟨k, rfl⟩ : ∃ k, n = k + 1 := ⟨n - 1, by omega⟩
  rw [Nat.add_sub_cancel] at *
  have h1 : E / 2 ^ k < 2 := by
    apply Nat.div_lt_of_lt_mul
    rw [Nat.pow_succ] at h
    exact h
  have h2 : E / 2 ^ k = 0 := by
    generalize E / 2 ^ k = Z at *
    omega
  exact (Nat.div_eq_zero_iff_lt (Nat.two_pow_pos k)).mp h2
theorem bin_step {E b : Nat} (hb : 1 ≤ b) : E / 2 ^ (b - 1) = 2 * (E / 2 ^ b) + E / 2 ^ (b - 1) % 2 := by
  obtain ⟨k, rfl⟩ : ∃ k, b = k + 1 := ⟨b - 1, by omega⟩
  rw [Nat.add_sub_cancel, Nat.pow_succ, ← Nat.div_div_eq_div_mul]
  omega
theorem pmn {b i j m : Nat} : b ^ i % m * (b ^ j % m) % m = b ^ (i + j) % m := by rw [← Nat.mul_mod, Nat.pow_add]
theorem pmn1 {b i m : Nat} (hb : b < m) : b ^ i % m * b % m = b ^ (i + 1) % m := by
  rw [Nat.pow_succ, Nat.mul_mod (b ^ i) b, Nat.mod_eq_of_lt hb]
theorem pw_eq {x m e : Int} {z z1 : Nat} (hm : 0 < m) (h1 : ((z : Nat) : Int) < m) (h2 : ((z1 : Nat) : Int) < m) (r1 : (e < 0 ∧ m ∣ x * ((z : Nat) : Int) - 1) ∨ (0 ≤ e ∧ ((z : Nat) : Int) = x % m)) (r2 : (e < 0 ∧ m ∣ x * ((z1 : Nat) : Int) - 1) ∨ (0 ≤ e ∧ ((z1 : Nat) : Int) = x % m)) : z = z1 := by
  rcases r1 with ⟨a, b⟩ | ⟨a, b⟩ <;> rcases r2 with ⟨c, d⟩ | ⟨c, d⟩
  · exact inv_eq h1 h2 b d
  · omega
  · omega
  · omega
set_option maxHeartbeats 4000000 in
set_option maxRecDepth 100000 in
theorem mM_powerModulo (l : Launch) (E : zE) (B : Nat) (rg : Nat → Int) (ct : Nat) (f : Nat → Nat) (st : Nat) (g : Nat → Nat) (t0 : Nat) (a : Int) (hz_a : zi a) (xe : Int) (hz_xe : zi xe) (mm : Int) (hz_mm : zi mm) (to : Int) (hz_to : zi to) (k : Nat) (σ1 : zS) (hok1 : okS σ1) (hsp : SP (rok a ∧ rok xe ∧ rok mm ∧ rok to) (False) (¬ 0 < rg mm.toNat ∨ (rg xe.toNat < 0 ∧ Nat.gcd (rg mm.toNat).natAbs (rg a.toNat).natAbs ≠ 1)) (fun τ => 0 < rg mm.toNat ∧ (rg xe.toNat < 0 → Nat.gcd (rg mm.toNat).natAbs (rg a.toNat).natAbs = 1) ∧ ∃ bs : Nat, ((bs : Nat) : Int) < rg mm.toNat ∧ ((rg xe.toNat < 0 ∧ (rg mm.toNat) ∣ (rg a.toNat) * ((bs : Nat) : Int) - 1) ∨ (0 ≤ rg xe.toNat ∧ ((bs : Nat) : Int) = (rg a.toNat) % (rg mm.toNat))) ∧ τ = (va_up rg to.toNat (((bs ^ (rg xe.toNat).natAbs % (rg mm.toNat).natAbs : Nat) : Int)), ct, f, st, g)) (rg, ct, f, st, g) k σ1) :
    Met l yM_powerModulo (zws yM_powerModulo cM_powerModulo 7 none) { frames := 3, cells := 0, slots := 0, locals := 160 } (zPc E (zQM E B (rg, ct, f, st, g) t0) [.ref (B), .int (iZ (a)), .int (iZ (xe)), .int (iZ (mm)), .int (iZ (to))]) (va_Qv (fun (u : Unit) => True) (fun u t => zQM E B σ1 (tc k) t.heap ∧ zK E t) (zA B 15)) 0 0 (zA B 15) := by
  refine zof_v (P' := fun (u : Unit) H => zQM E B σ1 (tc k) H) (by decide) (Nat.le_of_ble_eq_true rfl) fun p e R s m args below meth c Q ls hR hx hb hml ht hown hK hZ hl hend => ?_
  have hS : va_S (zA B 15) s.heap s.heap [] := va_S.rf
  have hown : s.vm.findClass "WholeDeskModel" = some m.cls := hown
  have hl : lv_has ls 7 [(0, .ref (B)), (1, .int (iZ (a))), (2, .int (iZ (xe))), (3, .int (iZ (mm))), (4, .int (iZ (to)))] := hl
  obtain ⟨hok, w0, ⟨th, fa, le, be, fb, sb9, pr⟩, hZ, ⟨hMR, hle, hdr, hpr, hpa⟩, hth⟩ := hZ
  dsimp only at *
  rw [hle, hpr] at hZ
  clear hth hle hpr le pr
  refine lv_aload_n hx hb dM_powerModulo_0 rfl (lv_at hl 0 rfl) ?_
  refine lv_iload_n hx hb dM_powerModulo_1 rfl (lv_at hl 1 rfl) ?_
  refine zcS_i (P' := fun (u : (Nat → Nat → Nat) × zC) H => zMD E B u.1 u.2 H) 1 (As := [.int (iZ (a))]) (rest := [.ref (B)]) ⟨hx, hb, hml, hown, ht⟩ (mM_no l E B w0 (th, fa, ct, be, fb, sb9, (2049 - st)) (a) hz_a) tw_762 tw_760 tw_761 tw_6 qM_no (by rw [hR]; decide) hZ hK hl.1 rfl rfl (Nat.le_of_ble_eq_true rfl) dM_powerModulo_2 ⟨Nat.zero_le _, Nat.zero_le _⟩ hS (fun r9 u H locs hp hZ _ hS => ?_)
  obtain ⟨hu9, ba, hr1, hba⟩ := hp
  subst hr1
  rw [hu9] at hZ
  dsimp only at hZ
  clear hu9
  refine zr_if_ne (tgt := 30) hx hb (by have := bZ_01 ba; omega) dM_powerModulo_5 (by decide) (fun c_1 => ?_) (fun c_1 => ?_)
  · have hng : ¬ rok a := hba.mp (bZ_nf.mp (by assumption))
    refine lv_iconst (v := iZ (1)) hx hb dM_powerModulo_30 (by decide) ?_
    refine lv_goto (tgt := 47) hx hb dM_powerModulo_31 (by decide) ?_
    refine W.eq (g2 := F0 m 47 ls ([.int (iZ ((1 : Nat) : Int)), .ref B])) rfl ?_
    refine zm_put_thrown (x := 1) hx hb ht hown hK hZ hS tw_677 dM_powerModulo_47 (fun H locs hZ hS => ?_)
    have hZ : zMD E B w0 (1, fa, ct, be, fb, sb9, (2049 - st)) H := hZ
    refine lv_aload_n hx hb dM_powerModulo_50 rfl (lv_at hl 0 rfl) ?_
    refine zm_thrown hx hb ht hown hK hZ tw_677 dM_powerModulo_51 ?_
    refine zc_i (y := iZ (((1 : Nat) : Int))) rfl ?_
    refine zr_if_le (tgt := 58) hx hb (by decide) dM_powerModulo_54 (by decide) (fun c_2 => ?_) (fun c_2 => ?_)
    · exact absurd c_2 (by decide)
    · exact hend 57 () _ _ _ dM_powerModulo_57 trivial (by obtain ⟨hk, hs⟩ := SP_1 hsp (fun h9 => hng (by first | exact h9 | exact h9.1 | exact h9.2.1 | exact h9.2.2.1 | exact h9.2.2.2.1 | exact h9.2.2.2 | exact h9.2.2 | exact h9.2)); subst hk; subst hs; exact ⟨hok1, w0, (1, fa, ct, be, fb, sb9, (2049 - st)), hZ, ⟨hMR, rfl, hdr, rfl, hpa⟩, rfl⟩) hS
  · have hk_na : rok a := Classical.byContradiction (fun h9 => absurd (hba.mpr h9) (by rw [show ba = false from bZ_f.mp (by assumption)]; decide))
    obtain ⟨na, rfl⟩ : ∃ n9 : Nat, a = (n9 : Int) := ⟨a.toNat, by have := hk_na.1; omega⟩
    have h10_na : na < 10 := by have := hk_na.2; omega
    refine lv_iload_n hx hb dM_powerModulo_8 rfl (lv_at hl 2 rfl) ?_
    refine zcS_i (P' := fun (u : (Nat → Nat → Nat) × zC) H => zMD E B u.1 u.2 H) 1 (As := [.int (iZ (xe))]) (rest := [.ref (B)]) ⟨hx, hb, hml, hown, ht⟩ (mM_no l E B w0 (th, fa, ct, be, fb, sb9, (2049 - st)) (xe) hz_xe) tw_762 tw_760 tw_761 tw_6 qM_no (by rw [hR]; decide) hZ hK hl.1 rfl rfl (Nat.le_of_ble_eq_true rfl) dM_powerModulo_9 ⟨Nat.zero_le _, Nat.zero_le _⟩ hS (fun r9 u H locs hp hZ _ hS => ?_)
    obtain ⟨hu9, bxe, hr1, hbxe⟩ := hp
    subst hr1
    rw [hu9] at hZ
    dsimp only at hZ
    clear hu9
    refine zr_if_ne (tgt := 30) hx hb (by have := bZ_01 bxe; omega) dM_powerModulo_12 (by decide) (fun c_3 => ?_) (fun c_3 => ?_)
    · have hng : ¬ rok xe := hbxe.mp (bZ_nf.mp (by assumption))
      refine lv_iconst (v := iZ (1)) hx hb dM_powerModulo_30 (by decide) ?_
      refine lv_goto (tgt := 47) hx hb dM_powerModulo_31 (by decide) ?_
      refine W.eq (g2 := F0 m 47 ls ([.int (iZ ((1 : Nat) : Int)), .ref B])) rfl ?_
      refine zm_put_thrown (x := 1) hx hb ht hown hK hZ hS tw_677 dM_powerModulo_47 (fun H locs hZ hS => ?_)
      have hZ : zMD E B w0 (1, fa, ct, be, fb, sb9, (2049 - st)) H := hZ
      refine lv_aload_n hx hb dM_powerModulo_50 rfl (lv_at hl 0 rfl) ?_
      refine zm_thrown hx hb ht hown hK hZ tw_677 dM_powerModulo_51 ?_
      refine zc_i (y := iZ (((1 : Nat) : Int))) rfl ?_
      refine zr_if_le (tgt := 58) hx hb (by decide) dM_powerModulo_54 (by decide) (fun c_4 => ?_) (fun c_4 => ?_)
      · exact absurd c_4 (by decide)
      · exact hend 57 () _ _ _ dM_powerModulo_57 trivial (by obtain ⟨hk, hs⟩ := SP_1 hsp (fun h9 => hng (by first | exact h9 | exact h9.1 | exact h9.2.1 | exact h9.2.2.1 | exact h9.2.2.2.1 | exact h9.2.2.2 | exact h9.2.2 | exact h9.2)); subst hk; subst hs; exact ⟨hok1, w0, (1, fa, ct, be, fb, sb9, (2049 - st)), hZ, ⟨hMR, rfl, hdr, rfl, hpa⟩, rfl⟩) hS
    · have hk_nxe : rok xe := Classical.byContradiction (fun h9 => absurd (hbxe.mpr h9) (by rw [show bxe = false from bZ_f.mp (by assumption)]; decide))
      obtain ⟨nxe, rfl⟩ : ∃ n9 : Nat, xe = (n9 : Int) := ⟨xe.toNat, by have := hk_nxe.1; omega⟩
      have h10_nxe : nxe < 10 := by have := hk_nxe.2; omega
      refine lv_iload_n hx hb dM_powerModulo_15 rfl (lv_at hl 3 rfl) ?_
      refine zcS_i (P' := fun (u : (Nat → Nat → Nat) × zC) H => zMD E B u.1 u.2 H) 1 (As := [.int (iZ (mm))]) (rest := [.ref (B)]) ⟨hx, hb, hml, hown, ht⟩ (mM_no l E B w0 (th, fa, ct, be, fb, sb9, (2049 - st)) (mm) hz_mm) tw_762 tw_760 tw_761 tw_6 qM_no (by rw [hR]; decide) hZ hK hl.1 rfl rfl (Nat.le_of_ble_eq_true rfl) dM_powerModulo_16 ⟨Nat.zero_le _, Nat.zero_le _⟩ hS (fun r9 u H locs hp hZ _ hS => ?_)
      obtain ⟨hu9, bmm, hr1, hbmm⟩ := hp
      subst hr1
      rw [hu9] at hZ
      dsimp only at hZ
      clear hu9
      refine zr_if_ne (tgt := 30) hx hb (by have := bZ_01 bmm; omega) dM_powerModulo_19 (by decide) (fun c_5 => ?_) (fun c_5 => ?_)
      · have hng : ¬ rok mm := hbmm.mp (bZ_nf.mp (by assumption))
        refine lv_iconst (v := iZ (1)) hx hb dM_powerModulo_30 (by decide) ?_
        refine lv_goto (tgt := 47) hx hb dM_powerModulo_31 (by decide) ?_
        refine W.eq (g2 := F0 m 47 ls ([.int (iZ ((1 : Nat) : Int)), .ref B])) rfl ?_
        refine zm_put_thrown (x := 1) hx hb ht hown hK hZ hS tw_677 dM_powerModulo_47 (fun H locs hZ hS => ?_)
        have hZ : zMD E B w0 (1, fa, ct, be, fb, sb9, (2049 - st)) H := hZ
        refine lv_aload_n hx hb dM_powerModulo_50 rfl (lv_at hl 0 rfl) ?_
        refine zm_thrown hx hb ht hown hK hZ tw_677 dM_powerModulo_51 ?_
        refine zc_i (y := iZ (((1 : Nat) : Int))) rfl ?_
        refine zr_if_le (tgt := 58) hx hb (by decide) dM_powerModulo_54 (by decide) (fun c_6 => ?_) (fun c_6 => ?_)
        · exact absurd c_6 (by decide)
        · exact hend 57 () _ _ _ dM_powerModulo_57 trivial (by obtain ⟨hk, hs⟩ := SP_1 hsp (fun h9 => hng (by first | exact h9 | exact h9.1 | exact h9.2.1 | exact h9.2.2.1 | exact h9.2.2.2.1 | exact h9.2.2.2 | exact h9.2.2 | exact h9.2)); subst hk; subst hs; exact ⟨hok1, w0, (1, fa, ct, be, fb, sb9, (2049 - st)), hZ, ⟨hMR, rfl, hdr, rfl, hpa⟩, rfl⟩) hS
      · have hk_nmm : rok mm := Classical.byContradiction (fun h9 => absurd (hbmm.mpr h9) (by rw [show bmm = false from bZ_f.mp (by assumption)]; decide))
        obtain ⟨nmm, rfl⟩ : ∃ n9 : Nat, mm = (n9 : Int) := ⟨mm.toNat, by have := hk_nmm.1; omega⟩
        have h10_nmm : nmm < 10 := by have := hk_nmm.2; omega
        refine lv_iload hx hb dM_powerModulo_22 (lv_at hl 4 rfl) ?_
        refine zcS_i (P' := fun (u : (Nat → Nat → Nat) × zC) H => zMD E B u.1 u.2 H) 1 (As := [.int (iZ (to))]) (rest := [.ref (B)]) ⟨hx, hb, hml, hown, ht⟩ (mM_no l E B w0 (th, fa, ct, be, fb, sb9, (2049 - st)) (to) hz_to) tw_762 tw_760 tw_761 tw_6 qM_no (by rw [hR]; decide) hZ hK hl.1 rfl rfl (Nat.le_of_ble_eq_true rfl) dM_powerModulo_24 ⟨Nat.zero_le _, Nat.zero_le _⟩ hS (fun r9 u H locs hp hZ _ hS => ?_)
        obtain ⟨hu9, bto, hr1, hbto⟩ := hp
        subst hr1
        rw [hu9] at hZ
        dsimp only at hZ
        clear hu9
        refine zr_if_eq (tgt := 34) hx hb (by have := bZ_01 bto; omega) dM_powerModulo_27 (by decide) (fun c_7 => ?_) (fun c_7 => ?_)
        · have hk_nto : rok to := Classical.byContradiction (fun h9 => absurd (hbto.mpr h9) (by rw [show bto = false from bZ_f.mp (by assumption)]; decide))
          obtain ⟨nto, rfl⟩ : ∃ n9 : Nat, to = (n9 : Int) := ⟨to.toNat, by have := hk_nto.1; omega⟩
          have h10_nto : nto < 10 := by have := hk_nto.2; omega
          refine lv_aload_n hx hb dM_powerModulo_34 rfl (lv_at hl 0 rfl) ?_
          refine lv_iload_n hx hb dM_powerModulo_35 rfl (lv_at hl 3 rfl) ?_
          refine zcV_i (P' := fun (u : (Nat → Nat → Nat) × zC) H => zMD E B u.1 u.2 H) 1 (As := [.int (iZ (↑nmm))]) (rest := [.ref (B)]) rfl ⟨hx, hb, hml, hown, ht⟩ (mM_isAbove0 l E B w0 (th, fa, ct, be, fb, sb9, (2049 - st)) rg ct f st g hMR hdr hpa nmm h10_nmm) tw_832 tw_829 tw_831 tp_18 tw_6 qM_isAbove0 (by rw [hR]; decide) (zm_recv hK hZ) hZ hK hl.1 rfl rfl (Nat.le_of_ble_eq_true rfl) dM_powerModulo_36 ⟨Nat.zero_le _, Nat.zero_le _⟩ hS (fun r9 u H locs hp hZ _ hS => ?_)
          obtain ⟨_, hu9, bp, hr1, hbp⟩ := hp
          subst hr1
          rw [hu9] at hZ
          dsimp only at hZ
          clear hu9
          refine zr_if_ne (tgt := 46) hx hb (by have := bZ_01 bp; omega) dM_powerModulo_39 (by decide) (fun c_8 => ?_) (fun c_8 => ?_)
          · have hm0 : 0 < rg nmm := hbp.mp (bZ_nf.mp (by assumption))
            have hm128 := rP_big (hok.1 nmm h10_nmm)
            refine lv_iconst (v := iZ (0)) hx hb dM_powerModulo_46 (by decide) ?_
            refine W.eq (g2 := F0 m 47 ls ([.int (iZ ((0 : Nat) : Int)), .ref B])) rfl ?_
            refine zm_put_thrown (x := 0) hx hb ht hown hK hZ hS tw_677 dM_powerModulo_47 (fun H locs hZ hS => ?_)
            have hZ : zMD E B w0 (0, fa, ct, be, fb, sb9, (2049 - st)) H := hZ
            refine lv_aload_n hx hb dM_powerModulo_50 rfl (lv_at hl 0 rfl) ?_
            refine zm_thrown hx hb ht hown hK hZ tw_677 dM_powerModulo_51 ?_
            refine zc_i (y := iZ (((0 : Nat) : Int))) rfl ?_
            refine zr_if_le (tgt := 58) hx hb (by decide) dM_powerModulo_54 (by decide) (fun c_9 => ?_) (fun c_9 => ?_)
            · refine lv_aload_n hx hb dM_powerModulo_58 rfl (lv_at hl 0 rfl) ?_
              refine lv_iload_n hx hb dM_powerModulo_59 rfl (lv_at hl 3 rfl) ?_
              refine lv_aload_n hx hb dM_powerModulo_60 rfl (lv_at hl 0 rfl) ?_
              refine zm_modulus hx hb ht hown hK hZ tw_695 dM_powerModulo_61 ?_
              refine zcV_v (P' := fun (u : (Nat → Nat → Nat) × zC) H => zMD E B u.1 u.2 H) 2 (As := [.int (iZ (↑nmm)), .ref (B + 13)]) (rest := []) rfl ⟨hx, hb, hml, hown, ht⟩ (mM_take l E B w0 (0, fa, ct, be, fb, sb9, (2049 - st)) nmm h10_nmm 13 (by decide) 264 rfl (by decide)) tw_791 tw_788 tw_790 tp_13 tw_6 qM_take (by rw [hR]; decide) (zm_recv hK hZ) hZ hK hl.1 rfl rfl (Nat.le_of_ble_eq_true rfl) dM_powerModulo_64 ⟨Nat.zero_le _, Nat.zero_le _⟩ hS (fun u H locs hp hZ _ hS => ?_)
              obtain ⟨w, q9⟩ := u
              obtain ⟨ho, hq9, hcp⟩ := hp
              dsimp only at *
              rw [hq9] at hZ
              have htk := take_val hcp (hMR nmm h10_nmm).1
              replace hMR : MR w rg := MR_same (ho 2 (by decide)) (ho 3 (by decide)) hMR
              replace hdr : ∀ i, i < ct → w 1 i = f i := fun i hi => by rw [ho 1 (by decide)]; exact hdr i hi
              replace hpa : ∀ i, i < 2049 - st → w 14 i = g (st + i) := fun i hi => by rw [ho 14 (by decide)]; exact hpa i hi
              have hv_13 : rv (w 13) 264 = (rg nmm).natAbs := htk
              clear htk
              refine lv_aload_n hx hb dM_powerModulo_67 rfl (lv_at hl 0 rfl) ?_
              refine lv_iload_n hx hb dM_powerModulo_68 rfl (lv_at hl 1 rfl) ?_
              refine lv_aload_n hx hb dM_powerModulo_69 rfl (lv_at hl 0 rfl) ?_
              refine zm_one hx hb ht hown hK hZ tw_689 dM_powerModulo_70 ?_
              refine zcV_v (P' := fun (u : (Nat → Nat → Nat) × zC) H => zMD E B u.1 u.2 H) 2 (As := [.int (iZ (↑na)), .ref (B + 9)]) (rest := []) rfl ⟨hx, hb, hml, hown, ht⟩ (mM_reduce l E B w (0, fa, ct, be, fb, sb9, (2049 - st)) rg ct f st g hMR hdr hpa na h10_na ((rg nmm).natAbs) (by omega) (hm128) hv_13) tw_836 tw_833 tw_835 tp_19 tw_6 qM_reduce (by rw [hR]; decide) (zm_recv hK hZ) hZ hK hl.1 rfl rfl (Nat.le_of_ble_eq_true rfl) dM_powerModulo_73 ⟨Nat.zero_le _, Nat.zero_le _⟩ hS (fun u H locs hp hZ _ hS => ?_)
              obtain ⟨w, q9⟩ := u
              obtain ⟨ho, hq9, hrv⟩ := hp
              dsimp only at *
              rw [hq9] at hZ
              replace hMR : MR w rg := MR_same (ho 2 (by decide) (by decide) (by decide) (by decide)) (ho 3 (by decide) (by decide) (by decide) (by decide)) hMR
              replace hdr : ∀ i, i < ct → w 1 i = f i := fun i hi => by rw [ho 1 (by decide) (by decide) (by decide) (by decide)]; exact hdr i hi
              replace hpa : ∀ i, i < 2049 - st → w 14 i = g (st + i) := fun i hi => by rw [ho 14 (by decide) (by decide) (by decide) (by decide)]; exact hpa i hi
              replace hv_13 : rv (w 13) 264 = (rg nmm).natAbs := by rw [ho 13 (by decide) (by decide) (by decide) (by decide)]; exact hv_13
              have hre : rv (w 9) 264 = (rg na % (((rg nmm).natAbs : Nat) : Int)).toNat := by omega
              have hv_9 : rv (w 9) 264 = (rg na % (((rg nmm).natAbs : Nat) : Int)).toNat := hre
              clear hre
              have hme : (((rg nmm).natAbs : Nat) : Int) = rg nmm := by omega
              obtain ⟨md, hmd⟩ : ∃ q, q = (rg nmm).natAbs := ⟨_, rfl⟩
              obtain ⟨EE, hEE⟩ : ∃ q, q = (rg nxe).natAbs := ⟨_, rfl⟩
              have hE48 : EE < 2 ^ 2048 := by rw [hEE]; exact hok.1 nxe h10_nxe
              rw [← hmd] at hm128 hme hv_13 hv_9
              have J98 : ∀ (bs : Nat) (be : Bool) (fb : Bool) (sb9 : Bool) (w : Nat → Nat → Nat) (H : Heap) (locs : List Loc) (ls : Array Slot), (bs < md) → ((rg nxe < 0 ∧ rg nmm ∣ rg na * ((bs : Nat) : Int) - 1) ∨ (0 ≤ rg nxe ∧ ((bs : Nat) : Int) = rg na % rg nmm)) → (rg nxe < 0 → Nat.gcd (rg nmm).natAbs (rg na).natAbs = 1) → (MR w rg) → (∀ i, i < ct → w 1 i = f i) → (∀ i, i < 2049 - st → w 14 i = g (st + i)) → (rv (w 9) 264 = bs) → (rv (w 13) 264 = md) → zMD E B w (0, fa, ct, be, fb, sb9, (2049 - st)) H → va_S (zA B 15) s.heap H locs → lv_has ls 7 [(0, .ref (B)), (2, .int (iZ (↑nxe))), (4, .int (iZ (↑nto)))] → W p l e R s m args below meth c H locs 0 0 Q (F0 m 98 ls []) := by
                intro bs be fb sb9 w H locs ls hbs hrel hgx hMR hdr hpa hv_9 hv_13 hZ hS hl
                refine lv_aload_n hx hb dM_powerModulo_98 rfl (lv_at hl 0 rfl) ?_
                refine lv_aload_n hx hb dM_powerModulo_99 rfl (lv_at hl 0 rfl) ?_
                refine zm_two hx hb ht hown hK hZ tw_690 dM_powerModulo_100 ?_
                refine zcV_v (P' := fun (u : (Nat → Nat → Nat) × zC) H => zMD E B u.1 u.2 H) 1 (As := [.ref (B + 10)]) (rest := []) rfl ⟨hx, hb, hml, hown, ht⟩ (mM_setOne l E B w (0, fa, ct, be, fb, sb9, (2049 - st)) 10 (by decide) rfl) tw_844 tw_841 tw_843 tp_20 tw_6 qM_setOne (by rw [hR]; decide) (zm_recv hK hZ) hZ hK hl.1 rfl rfl (Nat.le_of_ble_eq_true rfl) dM_powerModulo_103 ⟨Nat.zero_le _, Nat.zero_le _⟩ hS (fun u H locs hp hZ _ hS => ?_)
                obtain ⟨w, q9⟩ := u
                obtain ⟨ho, hq9, hso⟩ := hp
                dsimp only at *
                rw [hq9] at hZ
                replace hMR : MR w rg := MR_same (ho 2 (by decide)) (ho 3 (by decide)) hMR
                replace hdr : ∀ i, i < ct → w 1 i = f i := fun i hi => by rw [ho 1 (by decide)]; exact hdr i hi
                replace hpa : ∀ i, i < 2049 - st → w 14 i = g (st + i) := fun i hi => by rw [ho 14 (by decide)]; exact hpa i hi
                replace hv_9 : rv (w 9) 264 = bs := by rw [ho 9 (by decide)]; exact hv_9
                replace hv_13 : rv (w 13) 264 = md := by rw [ho 13 (by decide)]; exact hv_13
                have hv_10 : rv (w 10) 264 = 1 := hso
                clear hso
                refine lv_aload_n hx hb dM_powerModulo_106 rfl (lv_at hl 0 rfl) ?_
                refine lv_aload_n hx hb dM_powerModulo_107 rfl (lv_at hl 0 rfl) ?_
                refine zm_two hx hb ht hown hK hZ tw_690 dM_powerModulo_108 ?_
                refine lv_aload_n hx hb dM_powerModulo_111 rfl (lv_at hl 0 rfl) ?_
                refine zm_modulus hx hb ht hown hK hZ tw_695 dM_powerModulo_112 ?_
                refine zcV_v (P' := fun (u : (Nat → Nat → Nat) × zC) H => zMD E B u.1 u.2 H) 2 (As := [.ref (B + 10), .ref (B + 13)]) (rest := []) rfl ⟨hx, hb, hml, hown, ht⟩ (mM_divideRows l E B w (0, fa, ct, be, fb, sb9, (2049 - st)) 10 (by decide) 13 (by decide) rfl rfl (by decide) (by decide) (by rw [hv_13]; omega) (by rw [hv_13]; exact Nat.lt_of_lt_of_le hm128 (rP_mono (by decide)))) tw_824 tw_821 tw_823 tp_17 tw_6 qM_divideRows (by rw [hR]; decide) (zm_recv hK hZ) hZ hK hl.1 rfl rfl (Nat.le_of_ble_eq_true rfl) dM_powerModulo_115 ⟨Nat.zero_le _, Nat.zero_le _⟩ hS (fun u H locs hp hZ _ hS => ?_)
                obtain ⟨w, q9⟩ := u
                obtain ⟨ho, hq9, hdq, hdr9⟩ := hp
                dsimp only at *
                rw [hq9] at hZ
                rw [hv_10, hv_13] at hdq hdr9
                replace hMR : MR w rg := MR_same (ho 2 (by decide) (by decide)) (ho 3 (by decide) (by decide)) hMR
                replace hdr : ∀ i, i < ct → w 1 i = f i := fun i hi => by rw [ho 1 (by decide) (by decide)]; exact hdr i hi
                replace hpa : ∀ i, i < 2049 - st → w 14 i = g (st + i) := fun i hi => by rw [ho 14 (by decide) (by decide)]; exact hpa i hi
                replace hv_9 : rv (w 9) 264 = bs := by rw [ho 9 (by decide) (by decide)]; exact hv_9
                replace hv_13 : rv (w 13) 264 = md := by rw [ho 13 (by decide) (by decide)]; exact hv_13
                replace hv_10 : rv (w 10) 264 = 1 := by rw [ho 10 (by decide) (by decide)]; exact hv_10
                have hv_8 : rv (w 8) 264 = (1) / (md) := hdq
                clear hdq
                have hv_7 : rv (w 7) 264 = (1) % (md) := hdr9
                clear hdr9
                refine lv_aload_n hx hb dM_powerModulo_118 rfl (lv_at hl 0 rfl) ?_
                refine zm_rest hx hb ht hown hK hZ tw_687 dM_powerModulo_119 ?_
                refine lv_aload_n hx hb dM_powerModulo_122 rfl (lv_at hl 0 rfl) ?_
                refine zm_two hx hb ht hown hK hZ tw_690 dM_powerModulo_123 ?_
                refine zcS_v (P' := fun (u : (Nat → Nat → Nat) × zC) H => zMD E B u.1 u.2 H) 2 (As := [.ref (B + 7), .ref (B + 10)]) (rest := []) ⟨hx, hb, hml, hown, ht⟩ (mM_copy l E B w (0, fa, ct, be, fb, sb9, (2049 - st)) 7 (by decide) 10 (by decide) 264 rfl (by decide) 264 rfl (by decide) (by decide)) tw_798 tw_796 tw_797 tw_6 qM_copy (by rw [hR]; decide) hZ hK hl.1 rfl rfl (Nat.le_of_ble_eq_true rfl) dM_powerModulo_126 ⟨Nat.zero_le _, Nat.zero_le _⟩ hS (fun u H locs hp hZ _ hS => ?_)
                obtain ⟨w, q9⟩ := u
                obtain ⟨ho, hq9, hcp⟩ := hp
                dsimp only at *
                rw [hq9] at hZ
                have hcv : rv (w 10) 264 = (1) % (md) := by rw [rv_congr (fun i hi => (hcp i hi).trans (if_pos hi))]; exact hv_7
                replace hMR : MR w rg := MR_same (ho 2 (by decide)) (ho 3 (by decide)) hMR
                replace hdr : ∀ i, i < ct → w 1 i = f i := fun i hi => by rw [ho 1 (by decide)]; exact hdr i hi
                replace hpa : ∀ i, i < 2049 - st → w 14 i = g (st + i) := fun i hi => by rw [ho 14 (by decide)]; exact hpa i hi
                replace hv_9 : rv (w 9) 264 = bs := by rw [ho 9 (by decide)]; exact hv_9
                replace hv_13 : rv (w 13) 264 = md := by rw [ho 13 (by decide)]; exact hv_13
                clear hv_10
                replace hv_8 : rv (w 8) 264 = (1) / (md) := by rw [ho 8 (by decide)]; exact hv_8
                replace hv_7 : rv (w 7) 264 = (1) % (md) := by rw [ho 7 (by decide)]; exact hv_7
                have hv_10 : rv (w 10) 264 = (1) % (md) := hcv
                clear hcv
                refine lv_sipush (v := iZ (2048)) hx hb dM_powerModulo_129 (by decide) ?_
                refine lv_istore (lv' := [(5, .int (iZ (2048))), (0, .ref (B)), (2, .int (iZ (↑nxe))), (4, .int (iZ (↑nto)))]) hx hb dM_powerModulo_132 hl (by decide) rfl (fun ls hl => ?_)
                have L134 : ∀ (fu : Nat) (nb : Nat) (w : Nat → Nat → Nat) (H : Heap) (locs : List Loc) (ls : Array Slot), nb < fu → (nb ≤ 2048) → (EE < 2 ^ nb) → (MR w rg) → (∀ i, i < ct → w 1 i = f i) → (∀ i, i < 2049 - st → w 14 i = g (st + i)) → (rv (w 9) 264 = bs) → (rv (w 13) 264 = md) → (rv (w 10) 264 = 1 % md) → zMD E B w (0, fa, ct, be, fb, sb9, (2049 - st)) H → va_S (zA B 15) s.heap H locs → lv_has ls 7 [(0, .ref (B)), (2, .int (iZ (↑nxe))), (4, .int (iZ (↑nto))), (5, .int (iZ (↑nb)))] → W p l e R s m args below meth c H locs 0 0 Q (F0 m 134 ls []) := by
                  intro fu
                  induction fu with
                  | zero => intro nb w H locs ls hm; exact absurd hm (Nat.not_lt_zero _)
                  | succ fu ihL134 =>
                    intro nb w H locs ls hm hnb hE1 hMR hdr hpa hv_9 hv_13 hv_10 hZ hS hl
                    refine lv_iload hx hb dM_powerModulo_134 (lv_at hl 3 rfl) ?_
                    refine zr_if_le (tgt := 176) hx hb (by unfold zi; omega) dM_powerModulo_136 (by decide) (fun c_10 => ?_) (fun c_10 => ?_)
                    · refine lv_iload hx hb dM_powerModulo_176 (lv_at hl 3 rfl) ?_
                      refine lv_iconst (v := iZ (1)) hx hb dM_powerModulo_178 (by decide) ?_
                      refine zr_isub hx hb dM_powerModulo_179 ?_
                      refine lv_istore (lv' := [(6, .int (iZ (↑nb - 1))), (0, .ref (B)), (2, .int (iZ (↑nxe))), (4, .int (iZ (↑nto))), (5, .int (iZ (↑nb)))]) hx hb dM_powerModulo_180 hl (by decide) rfl (fun ls hl => ?_)
                      have L182 : ∀ (fu : Nat) (b : Nat) (w : Nat → Nat → Nat) (H : Heap) (locs : List Loc) (ls : Array Slot), b < fu → (b ≤ 2048) → (MR w rg) → (∀ i, i < ct → w 1 i = f i) → (∀ i, i < 2049 - st → w 14 i = g (st + i)) → (rv (w 9) 264 = bs) → (rv (w 13) 264 = md) → (rv (w 10) 264 = bs ^ (EE / 2 ^ b) % md) → zMD E B w (0, fa, ct, be, fb, sb9, (2049 - st)) H → va_S (zA B 15) s.heap H locs → lv_has ls 7 [(0, .ref (B)), (2, .int (iZ (↑nxe))), (4, .int (iZ (↑nto))), (6, .int (iZ (↑b - 1)))] → W p l e R s m args below meth c H locs 0 0 Q (F0 m 182 ls []) := by
                        intro fu
                        induction fu with
                        | zero => intro b w H locs ls hm; exact absurd hm (Nat.not_lt_zero _)
                        | succ fu ihL182 =>
                          intro b w H locs ls hm hb48 hMR hdr hpa hv_9 hv_13 hv_10 hZ hS hl
                          refine lv_iload hx hb dM_powerModulo_182 (lv_at hl 3 rfl) ?_
                          refine zr_if_lt (tgt := 299) hx hb (by unfold zi; omega) dM_powerModulo_184 (by decide) (fun c_11 => ?_) (fun c_11 => ?_)
                          · rw [show b = 0 by omega, Nat.pow_zero, Nat.div_one] at hv_10
                            refine lv_aload_n hx hb dM_powerModulo_299 rfl (lv_at hl 0 rfl) ?_
                            refine zm_two hx hb ht hown hK hZ tw_690 dM_powerModulo_300 ?_
                            refine lv_aload_n hx hb dM_powerModulo_303 rfl (lv_at hl 0 rfl) ?_
                            refine zm_row hx hb ht hown hK hZ tw_683 dM_powerModulo_304 ?_
                            refine zcS_v (P' := fun (u : (Nat → Nat → Nat) × zC) H => zMD E B u.1 u.2 H) 2 (As := [.ref (B + 10), .ref (B + 4)]) (rest := []) ⟨hx, hb, hml, hown, ht⟩ (mM_copy l E B w (0, fa, ct, be, fb, sb9, (2049 - st)) 10 (by decide) 4 (by decide) 264 rfl (by decide) 264 rfl (by decide) (by decide)) tw_798 tw_796 tw_797 tw_6 qM_copy (by rw [hR]; decide) hZ hK hl.1 rfl rfl (Nat.le_of_ble_eq_true rfl) dM_powerModulo_307 ⟨Nat.zero_le _, Nat.zero_le _⟩ hS (fun u H locs hp hZ _ hS => ?_)
                            obtain ⟨w, q9⟩ := u
                            obtain ⟨ho, hq9, hcp⟩ := hp
                            dsimp only at *
                            rw [hq9] at hZ
                            have hcv : rv (w 4) 264 = bs ^ EE % md := by rw [rv_congr (fun i hi => (hcp i hi).trans (if_pos hi))]; exact hv_10
                            replace hMR : MR w rg := MR_same (ho 2 (by decide)) (ho 3 (by decide)) hMR
                            replace hdr : ∀ i, i < ct → w 1 i = f i := fun i hi => by rw [ho 1 (by decide)]; exact hdr i hi
                            replace hpa : ∀ i, i < 2049 - st → w 14 i = g (st + i) := fun i hi => by rw [ho 14 (by decide)]; exact hpa i hi
                            replace hv_9 : rv (w 9) 264 = bs := by rw [ho 9 (by decide)]; exact hv_9
                            replace hv_13 : rv (w 13) 264 = md := by rw [ho 13 (by decide)]; exact hv_13
                            replace hv_10 : rv (w 10) 264 = bs ^ EE % md := by rw [ho 10 (by decide)]; exact hv_10
                            have hv_4 : rv (w 4) 264 = bs ^ EE % md := hcv
                            clear hcv
                            refine lv_aload_n hx hb dM_powerModulo_310 rfl (lv_at hl 0 rfl) ?_
                            refine lv_iconst (v := iZ (0)) hx hb dM_powerModulo_311 (by decide) ?_
                            refine W.eq (g2 := F0 m 312 ls ([.int (iZ (bZ false)), .ref B])) rfl ?_
                            refine zm_put_below (x := false) hx hb ht hown hK hZ hS tw_684 dM_powerModulo_312 (fun H locs hZ hS => ?_)
                            have hZ : zMD E B w (0, fa, ct, false, fb, sb9, (2049 - st)) H := hZ
                            refine lv_aload_n hx hb dM_powerModulo_315 rfl (lv_at hl 0 rfl) ?_
                            refine lv_iload hx hb dM_powerModulo_316 (lv_at hl 2 rfl) ?_
                            refine zcV_v (P' := fun (u : (Nat → Nat → Nat) × zC) H => zMD E B u.1 u.2 H) 1 (As := [.int (iZ (↑nto))]) (rest := []) rfl ⟨hx, hb, hml, hown, ht⟩ (mM_store l E B w (0, fa, ct, false, fb, sb9, (2049 - st)) nto h10_nto rg hMR) tw_779 tw_776 tw_778 tp_12 tw_6 qM_store (by rw [hR]; decide) (zm_recv hK hZ) hZ hK hl.1 rfl rfl (Nat.le_of_ble_eq_true rfl) dM_powerModulo_318 ⟨Nat.zero_le _, Nat.zero_le _⟩ hS (fun u H locs hp hZ _ hS => ?_)
                            obtain ⟨w, q9⟩ := u
                            obtain ⟨ho, hbig, hfit⟩ := hp
                            dsimp only at *
                            rw [hv_4] at hbig hfit
                            have hzz : (if false = true then -(((bs ^ EE % md : Nat) : Int)) else ((bs ^ EE % md : Nat) : Int)) = ((bs ^ EE % md : Nat) : Int) := by rw [if_neg (by decide)]
                            have hzX : zX (((bs ^ EE % md : Nat) : Int)) ↔ bs ^ EE % md < rP 128 := by rw [← hzz]; exact zX_if
                            rcases Nat.lt_or_ge (bs ^ EE % md) (rP 128) with hX | hX
                            · obtain ⟨hq9, hMR9⟩ := hfit hX
                              rw [hq9] at hZ
                              rw [hzz] at hMR9
                              have hzx := hzX.mpr hX
                              replace hdr : ∀ i, i < ct → w 1 i = f i := fun i hi => by rw [ho 1 (by decide) (by decide)]; exact hdr i hi
                              replace hpa : ∀ i, i < 2049 - st → w 14 i = g (st + i) := fun i hi => by rw [ho 14 (by decide) (by decide)]; exact hpa i hi
                              replace hv_9 : rv (w 9) 264 = bs := by rw [ho 9 (by decide) (by decide)]; exact hv_9
                              replace hv_13 : rv (w 13) 264 = md := by rw [ho 13 (by decide) (by decide)]; exact hv_13
                              replace hv_10 : rv (w 10) 264 = bs ^ EE % md := by rw [ho 10 (by decide) (by decide)]; exact hv_10
                              replace hv_4 : rv (w 4) 264 = bs ^ EE % md := by rw [ho 4 (by decide) (by decide)]; exact hv_4
                              have hMR : MR w (va_up rg nto (((bs ^ EE % md : Nat) : Int))) := hMR9
                              exact hend 321 () _ _ _ dM_powerModulo_321 trivial (by rcases SP_g hsp ⟨hk_na, hk_nxe, hk_nmm, hk_nto⟩ with ⟨_, h, _⟩ | ⟨_, h, _⟩ | ⟨hk, _, _, b8, h1, h2, hs⟩; exact h.elim; (rcases h with h | h; exact absurd hm0 h; exact absurd (hgx h.1) h.2); have hzq : bs = b8 := pw_eq hm0 (by omega) h1 hrel h2; subst hzq; rw [hEE, hmd] at hMR; subst hk; subst hs; exact ⟨hok1, w, (0, fa, ct, false, fb, sb9, (2049 - st)), hZ, ⟨hMR, rfl, hdr, rfl, hpa⟩, rfl⟩) hS
                            · obtain ⟨e1, e2⟩ := Prod.mk.inj (hbig hX)
                              rw [e2] at hZ
                              rw [← e1] at hMR hdr hpa
                              have hzx : ¬ zX (((bs ^ EE % md : Nat) : Int)) := fun h9 => absurd (hzX.mp h9) (Nat.not_lt.mpr hX)
                              have hZ : zMD E B w (fa, fa, ct, false, fb, sb9, (2049 - st)) H := hZ
                              exact absurd (zX_le (hok.1 nmm h10_nmm) (by rw [Int.natAbs_natCast, ← hmd]; exact Nat.le_of_lt (Nat.mod_lt _ (by omega)))) hzx
                          · have hpl : bs ^ (EE / 2 ^ b) % md < rP 128 := Nat.lt_trans (Nat.mod_lt _ (by omega)) hm128
                            refine lv_aload_n hx hb dM_powerModulo_187 rfl (lv_at hl 0 rfl) ?_
                            refine lv_aload_n hx hb dM_powerModulo_188 rfl (lv_at hl 0 rfl) ?_
                            refine zm_two hx hb ht hown hK hZ tw_690 dM_powerModulo_189 ?_
                            refine lv_aload_n hx hb dM_powerModulo_192 rfl (lv_at hl 0 rfl) ?_
                            refine zm_two hx hb ht hown hK hZ tw_690 dM_powerModulo_193 ?_
                            refine lv_aload_n hx hb dM_powerModulo_196 rfl (lv_at hl 0 rfl) ?_
                            refine zm_first hx hb ht hown hK hZ tw_691 dM_powerModulo_197 ?_
                            refine zcV_v (P' := fun (u : (Nat → Nat → Nat) × zC) H => zMD E B u.1 u.2 H) 3 (As := [.ref (B + 10), .ref (B + 10), .ref (B + 11)]) (rest := []) rfl ⟨hx, hb, hml, hown, ht⟩ (mM_multiplyRows l E B w (0, fa, ct, be, fb, sb9, (2049 - st)) 10 (by decide) 10 (by decide) 11 (by decide) rfl rfl rfl (by decide) (by decide) (by decide)) tw_812 tw_809 tw_811 tp_15 tw_6 qM_multiplyRows (by rw [hR]; decide) (zm_recv hK hZ) hZ hK hl.1 rfl rfl (Nat.le_of_ble_eq_true rfl) dM_powerModulo_200 ⟨Nat.zero_le _, Nat.zero_le _⟩ hS (fun u H locs hp hZ _ hS => ?_)
                            obtain ⟨w, q9⟩ := u
                            obtain ⟨ho, hq9, hmv⟩ := hp
                            dsimp only at *
                            rw [hq9] at hZ
                            rw [hv_10] at hmv
                            replace hMR : MR w rg := MR_same (ho 2 (by decide) (by decide)) (ho 3 (by decide) (by decide)) hMR
                            replace hdr : ∀ i, i < ct → w 1 i = f i := fun i hi => by rw [ho 1 (by decide) (by decide)]; exact hdr i hi
                            replace hpa : ∀ i, i < 2049 - st → w 14 i = g (st + i) := fun i hi => by rw [ho 14 (by decide) (by decide)]; exact hpa i hi
                            replace hv_9 : rv (w 9) 264 = bs := by rw [ho 9 (by decide) (by decide)]; exact hv_9
                            replace hv_13 : rv (w 13) 264 = md := by rw [ho 13 (by decide) (by decide)]; exact hv_13
                            replace hv_10 : rv (w 10) 264 = bs ^ (EE / 2 ^ b) % md := by rw [ho 10 (by decide) (by decide)]; exact hv_10
                            have hv_11 : rv (w 11) 264 = bs ^ (EE / 2 ^ b) % md * (bs ^ (EE / 2 ^ b) % md) := by rw [hmv]; exact Nat.mod_eq_of_lt (rP_mul128 hpl hpl)
                            refine lv_aload_n hx hb dM_powerModulo_203 rfl (lv_at hl 0 rfl) ?_
                            refine lv_aload_n hx hb dM_powerModulo_204 rfl (lv_at hl 0 rfl) ?_
                            refine zm_first hx hb ht hown hK hZ tw_691 dM_powerModulo_205 ?_
                            refine lv_aload_n hx hb dM_powerModulo_208 rfl (lv_at hl 0 rfl) ?_
                            refine zm_modulus hx hb ht hown hK hZ tw_695 dM_powerModulo_209 ?_
                            refine zcV_v (P' := fun (u : (Nat → Nat → Nat) × zC) H => zMD E B u.1 u.2 H) 2 (As := [.ref (B + 11), .ref (B + 13)]) (rest := []) rfl ⟨hx, hb, hml, hown, ht⟩ (mM_divideRows l E B w (0, fa, ct, be, fb, sb9, (2049 - st)) 11 (by decide) 13 (by decide) rfl rfl (by decide) (by decide) (by rw [hv_13]; omega) (by rw [hv_13]; exact Nat.lt_of_lt_of_le hm128 (rP_mono (by decide)))) tw_824 tw_821 tw_823 tp_17 tw_6 qM_divideRows (by rw [hR]; decide) (zm_recv hK hZ) hZ hK hl.1 rfl rfl (Nat.le_of_ble_eq_true rfl) dM_powerModulo_212 ⟨Nat.zero_le _, Nat.zero_le _⟩ hS (fun u H locs hp hZ _ hS => ?_)
                            obtain ⟨w, q9⟩ := u
                            obtain ⟨ho, hq9, hdq, hdr9⟩ := hp
                            dsimp only at *
                            rw [hq9] at hZ
                            rw [hv_11, hv_13] at hdq hdr9
                            replace hMR : MR w rg := MR_same (ho 2 (by decide) (by decide)) (ho 3 (by decide) (by decide)) hMR
                            replace hdr : ∀ i, i < ct → w 1 i = f i := fun i hi => by rw [ho 1 (by decide) (by decide)]; exact hdr i hi
                            replace hpa : ∀ i, i < 2049 - st → w 14 i = g (st + i) := fun i hi => by rw [ho 14 (by decide) (by decide)]; exact hpa i hi
                            replace hv_9 : rv (w 9) 264 = bs := by rw [ho 9 (by decide) (by decide)]; exact hv_9
                            replace hv_13 : rv (w 13) 264 = md := by rw [ho 13 (by decide) (by decide)]; exact hv_13
                            replace hv_10 : rv (w 10) 264 = bs ^ (EE / 2 ^ b) % md := by rw [ho 10 (by decide) (by decide)]; exact hv_10
                            replace hv_11 : rv (w 11) 264 = bs ^ (EE / 2 ^ b) % md * (bs ^ (EE / 2 ^ b) % md) := by rw [ho 11 (by decide) (by decide)]; exact hv_11
                            have hv_8 : rv (w 8) 264 = (bs ^ (EE / 2 ^ b) % md * (bs ^ (EE / 2 ^ b) % md)) / (md) := hdq
                            clear hdq
                            have hv_7 : rv (w 7) 264 = (bs ^ (EE / 2 ^ b) % md * (bs ^ (EE / 2 ^ b) % md)) % (md) := hdr9
                            clear hdr9
                            refine lv_aload_n hx hb dM_powerModulo_215 rfl (lv_at hl 0 rfl) ?_
                            refine zm_rest hx hb ht hown hK hZ tw_687 dM_powerModulo_216 ?_
                            refine lv_aload_n hx hb dM_powerModulo_219 rfl (lv_at hl 0 rfl) ?_
                            refine zm_two hx hb ht hown hK hZ tw_690 dM_powerModulo_220 ?_
                            refine zcS_v (P' := fun (u : (Nat → Nat → Nat) × zC) H => zMD E B u.1 u.2 H) 2 (As := [.ref (B + 7), .ref (B + 10)]) (rest := []) ⟨hx, hb, hml, hown, ht⟩ (mM_copy l E B w (0, fa, ct, be, fb, sb9, (2049 - st)) 7 (by decide) 10 (by decide) 264 rfl (by decide) 264 rfl (by decide) (by decide)) tw_798 tw_796 tw_797 tw_6 qM_copy (by rw [hR]; decide) hZ hK hl.1 rfl rfl (Nat.le_of_ble_eq_true rfl) dM_powerModulo_223 ⟨Nat.zero_le _, Nat.zero_le _⟩ hS (fun u H locs hp hZ _ hS => ?_)
                            obtain ⟨w, q9⟩ := u
                            obtain ⟨ho, hq9, hcp⟩ := hp
                            dsimp only at *
                            rw [hq9] at hZ
                            have hcv : rv (w 10) 264 = (bs ^ (EE / 2 ^ b) % md * (bs ^ (EE / 2 ^ b) % md)) % (md) := by rw [rv_congr (fun i hi => (hcp i hi).trans (if_pos hi))]; exact hv_7
                            replace hMR : MR w rg := MR_same (ho 2 (by decide)) (ho 3 (by decide)) hMR
                            replace hdr : ∀ i, i < ct → w 1 i = f i := fun i hi => by rw [ho 1 (by decide)]; exact hdr i hi
                            replace hpa : ∀ i, i < 2049 - st → w 14 i = g (st + i) := fun i hi => by rw [ho 14 (by decide)]; exact hpa i hi
                            replace hv_9 : rv (w 9) 264 = bs := by rw [ho 9 (by decide)]; exact hv_9
                            replace hv_13 : rv (w 13) 264 = md := by rw [ho 13 (by decide)]; exact hv_13
                            clear hv_10
                            replace hv_11 : rv (w 11) 264 = bs ^ (EE / 2 ^ b) % md * (bs ^ (EE / 2 ^ b) % md) := by rw [ho 11 (by decide)]; exact hv_11
                            replace hv_8 : rv (w 8) 264 = (bs ^ (EE / 2 ^ b) % md * (bs ^ (EE / 2 ^ b) % md)) / (md) := by rw [ho 8 (by decide)]; exact hv_8
                            replace hv_7 : rv (w 7) 264 = (bs ^ (EE / 2 ^ b) % md * (bs ^ (EE / 2 ^ b) % md)) % (md) := by rw [ho 7 (by decide)]; exact hv_7
                            have hv_10 : rv (w 10) 264 = (bs ^ (EE / 2 ^ b) % md * (bs ^ (EE / 2 ^ b) % md)) % (md) := hcv
                            clear hcv
                            refine lv_aload_n hx hb dM_powerModulo_226 rfl (lv_at hl 0 rfl) ?_
                            refine zm_kept hx hb ht hown hK hZ tw_681 dM_powerModulo_227 ?_
                            refine lv_sipush (v := iZ (128)) hx hb dM_powerModulo_230 (by decide) ?_
                            refine lv_iload_n hx hb dM_powerModulo_233 rfl (lv_at hl 1 rfl) ?_
                            refine zr_imul hx hb dM_powerModulo_234 ?_
                            refine lv_iload hx hb dM_powerModulo_235 (lv_at hl 3 rfl) ?_
                            refine lv_bipush (v := iZ (16)) hx hb dM_powerModulo_237 (by decide) ?_
                            refine zr_idiv hx hb (by unfold zi; omega) (by unfold zi; omega) (by omega) (by omega) dM_powerModulo_239 ?_
                            refine zr_iadd hx hb dM_powerModulo_240 ?_
                            rw [show ((128 * ↑nxe) + ((↑b - 1) / 16) : Int) = ((128 * nxe + (b - 1) / 16 : Nat) : Int) by omega]
                            refine zm_ld (k := 2) (i := 128 * nxe + (b - 1) / 16) hx hb hK hZ (by decide) (by show 128 * nxe + (b - 1) / 16 < 1280; omega) dM_powerModulo_241 ?_
                            refine lv_iload hx hb dM_powerModulo_242 (lv_at hl 3 rfl) ?_
                            refine lv_bipush (v := iZ (16)) hx hb dM_powerModulo_244 (by decide) ?_
                            refine zr_irem hx hb (by unfold zi; omega) (by unfold zi; omega) (by omega) (by omega) dM_powerModulo_246 ?_
                            have hlk := hZ.2 2 (128 * nxe + (b - 1) / 16)
                            refine zc_i (y := iZ (((b - 1) % 16 : Nat) : Int)) (congrArg iZ (by omega)) ?_
                            refine zr_ishr hx hb (by omega) (by omega) dM_powerModulo_247 ?_
                            refine lv_iconst (v := iZ (1)) hx hb dM_powerModulo_248 (by decide) ?_
                            have hle9 := Nat.div_le_self (w 2 (128 * nxe + (b - 1) / 16)) (2 ^ ((b - 1) % 16))
                            refine zr_iand hx hb 1 (by omega) rfl dM_powerModulo_249 ?_
                            rw [show (2 : Nat) ^ 1 = 2 from rfl, show w 2 (128 * nxe + (b - 1) / 16) / 2 ^ ((b - 1) % 16) % 2 = EE / 2 ^ (b - 1) % 2 from rbit (d := fun q => w 2 (128 * nxe + q)) (fun q => hZ.2 2 _) (by omega) (by rw [hEE]; exact (hMR nxe h10_nxe).1)]
                            obtain ⟨bt, hbt⟩ : ∃ q, q = EE / 2 ^ (b - 1) % 2 := ⟨_, rfl⟩
                            rw [← hbt]
                            have hbt2 : bt < 2 := by rw [hbt]; exact Nat.mod_lt _ (by decide)
                            refine lv_iconst (v := iZ (1)) hx hb dM_powerModulo_250 (by decide) ?_
                            refine zr_icmp_ne (tgt := 293) hx hb (by unfold zi; omega) (by unfold zi; omega) dM_powerModulo_251 (by decide) (fun c_12 => ?_) (fun c_12 => ?_)
                            · refine lv_iinc (v := iZ (↑b - 1 - 1)) (lv' := [(6, .int (iZ (↑b - 1 - 1))), (0, .ref (B)), (2, .int (iZ (↑nxe))), (4, .int (iZ (↑nto)))]) hx hb dM_powerModulo_293 hl (k := 3) rfl (iZ_dec _ _) (by decide) rfl (fun ls hl => ?_)
                              refine lv_goto (tgt := 182) hx hb dM_powerModulo_296 (by decide) ?_
                              rw [show (↑b - 1 - 1 : Int) = ↑(b - 1) - 1 from by omega] at hl
                              exact ihL182 (b - 1) w _ _ _ (by omega) (by omega) hMR hdr hpa hv_9 hv_13 (by rw [bin_step (by omega), ← hbt, show bt = 0 by omega, Nat.two_mul, Nat.add_zero]; rw [pmn] at hv_10; exact hv_10) hZ hS (lv_sub hl [1, 2, 3, 0] rfl)
                            · have hpl2 : bs ^ (EE / 2 ^ b) % md * (bs ^ (EE / 2 ^ b) % md) % md < rP 128 := Nat.lt_trans (Nat.mod_lt _ (by omega)) hm128
                              refine lv_aload_n hx hb dM_powerModulo_254 rfl (lv_at hl 0 rfl) ?_
                              refine lv_aload_n hx hb dM_powerModulo_255 rfl (lv_at hl 0 rfl) ?_
                              refine zm_two hx hb ht hown hK hZ tw_690 dM_powerModulo_256 ?_
                              refine lv_aload_n hx hb dM_powerModulo_259 rfl (lv_at hl 0 rfl) ?_
                              refine zm_one hx hb ht hown hK hZ tw_689 dM_powerModulo_260 ?_
                              refine lv_aload_n hx hb dM_powerModulo_263 rfl (lv_at hl 0 rfl) ?_
                              refine zm_first hx hb ht hown hK hZ tw_691 dM_powerModulo_264 ?_
                              refine zcV_v (P' := fun (u : (Nat → Nat → Nat) × zC) H => zMD E B u.1 u.2 H) 3 (As := [.ref (B + 10), .ref (B + 9), .ref (B + 11)]) (rest := []) rfl ⟨hx, hb, hml, hown, ht⟩ (mM_multiplyRows l E B w (0, fa, ct, be, fb, sb9, (2049 - st)) 10 (by decide) 9 (by decide) 11 (by decide) rfl rfl rfl (by decide) (by decide) (by decide)) tw_812 tw_809 tw_811 tp_15 tw_6 qM_multiplyRows (by rw [hR]; decide) (zm_recv hK hZ) hZ hK hl.1 rfl rfl (Nat.le_of_ble_eq_true rfl) dM_powerModulo_267 ⟨Nat.zero_le _, Nat.zero_le _⟩ hS (fun u H locs hp hZ _ hS => ?_)
                              obtain ⟨w, q9⟩ := u
                              obtain ⟨ho, hq9, hmv⟩ := hp
                              dsimp only at *
                              rw [hq9] at hZ
                              rw [hv_10, hv_9] at hmv
                              replace hMR : MR w rg := MR_same (ho 2 (by decide) (by decide)) (ho 3 (by decide) (by decide)) hMR
                              replace hdr : ∀ i, i < ct → w 1 i = f i := fun i hi => by rw [ho 1 (by decide) (by decide)]; exact hdr i hi
                              replace hpa : ∀ i, i < 2049 - st → w 14 i = g (st + i) := fun i hi => by rw [ho 14 (by decide) (by decide)]; exact hpa i hi
                              replace hv_9 : rv (w 9) 264 = bs := by rw [ho 9 (by decide) (by decide)]; exact hv_9
                              replace hv_13 : rv (w 13) 264 = md := by rw [ho 13 (by decide) (by decide)]; exact hv_13
                              replace hv_10 : rv (w 10) 264 = (bs ^ (EE / 2 ^ b) % md * (bs ^ (EE / 2 ^ b) % md)) % (md) := by rw [ho 10 (by decide) (by decide)]; exact hv_10
                              have hv_11 : rv (w 11) 264 = bs ^ (EE / 2 ^ b) % md * (bs ^ (EE / 2 ^ b) % md) % md * bs := by rw [hmv]; exact Nat.mod_eq_of_lt (rP_mul128 hpl2 (Nat.lt_trans hbs hm128))
                              refine lv_aload_n hx hb dM_powerModulo_270 rfl (lv_at hl 0 rfl) ?_
                              refine lv_aload_n hx hb dM_powerModulo_271 rfl (lv_at hl 0 rfl) ?_
                              refine zm_first hx hb ht hown hK hZ tw_691 dM_powerModulo_272 ?_
                              refine lv_aload_n hx hb dM_powerModulo_275 rfl (lv_at hl 0 rfl) ?_
                              refine zm_modulus hx hb ht hown hK hZ tw_695 dM_powerModulo_276 ?_
                              refine zcV_v (P' := fun (u : (Nat → Nat → Nat) × zC) H => zMD E B u.1 u.2 H) 2 (As := [.ref (B + 11), .ref (B + 13)]) (rest := []) rfl ⟨hx, hb, hml, hown, ht⟩ (mM_divideRows l E B w (0, fa, ct, be, fb, sb9, (2049 - st)) 11 (by decide) 13 (by decide) rfl rfl (by decide) (by decide) (by rw [hv_13]; omega) (by rw [hv_13]; exact Nat.lt_of_lt_of_le hm128 (rP_mono (by decide)))) tw_824 tw_821 tw_823 tp_17 tw_6 qM_divideRows (by rw [hR]; decide) (zm_recv hK hZ) hZ hK hl.1 rfl rfl (Nat.le_of_ble_eq_true rfl) dM_powerModulo_279 ⟨Nat.zero_le _, Nat.zero_le _⟩ hS (fun u H locs hp hZ _ hS => ?_)
                              obtain ⟨w, q9⟩ := u
                              obtain ⟨ho, hq9, hdq, hdr9⟩ := hp
                              dsimp only at *
                              rw [hq9] at hZ
                              rw [hv_11, hv_13] at hdq hdr9
                              replace hMR : MR w rg := MR_same (ho 2 (by decide) (by decide)) (ho 3 (by decide) (by decide)) hMR
                              replace hdr : ∀ i, i < ct → w 1 i = f i := fun i hi => by rw [ho 1 (by decide) (by decide)]; exact hdr i hi
                              replace hpa : ∀ i, i < 2049 - st → w 14 i = g (st + i) := fun i hi => by rw [ho 14 (by decide) (by decide)]; exact hpa i hi
                              replace hv_9 : rv (w 9) 264 = bs := by rw [ho 9 (by decide) (by decide)]; exact hv_9
                              replace hv_13 : rv (w 13) 264 = md := by rw [ho 13 (by decide) (by decide)]; exact hv_13
                              replace hv_10 : rv (w 10) 264 = (bs ^ (EE / 2 ^ b) % md * (bs ^ (EE / 2 ^ b) % md)) % (md) := by rw [ho 10 (by decide) (by decide)]; exact hv_10
                              replace hv_11 : rv (w 11) 264 = bs ^ (EE / 2 ^ b) % md * (bs ^ (EE / 2 ^ b) % md) % md * bs := by rw [ho 11 (by decide) (by decide)]; exact hv_11
                              have hv_8 : rv (w 8) 264 = (bs ^ (EE / 2 ^ b) % md * (bs ^ (EE / 2 ^ b) % md) % md * bs) / (md) := hdq
                              clear hdq
                              have hv_7 : rv (w 7) 264 = (bs ^ (EE / 2 ^ b) % md * (bs ^ (EE / 2 ^ b) % md) % md * bs) % (md) := hdr9
                              clear hdr9
                              refine lv_aload_n hx hb dM_powerModulo_282 rfl (lv_at hl 0 rfl) ?_
                              refine zm_rest hx hb ht hown hK hZ tw_687 dM_powerModulo_283 ?_
                              refine lv_aload_n hx hb dM_powerModulo_286 rfl (lv_at hl 0 rfl) ?_
                              refine zm_two hx hb ht hown hK hZ tw_690 dM_powerModulo_287 ?_
                              refine zcS_v (P' := fun (u : (Nat → Nat → Nat) × zC) H => zMD E B u.1 u.2 H) 2 (As := [.ref (B + 7), .ref (B + 10)]) (rest := []) ⟨hx, hb, hml, hown, ht⟩ (mM_copy l E B w (0, fa, ct, be, fb, sb9, (2049 - st)) 7 (by decide) 10 (by decide) 264 rfl (by decide) 264 rfl (by decide) (by decide)) tw_798 tw_796 tw_797 tw_6 qM_copy (by rw [hR]; decide) hZ hK hl.1 rfl rfl (Nat.le_of_ble_eq_true rfl) dM_powerModulo_290 ⟨Nat.zero_le _, Nat.zero_le _⟩ hS (fun u H locs hp hZ _ hS => ?_)
                              obtain ⟨w, q9⟩ := u
                              obtain ⟨ho, hq9, hcp⟩ := hp
                              dsimp only at *
                              rw [hq9] at hZ
                              have hcv : rv (w 10) 264 = (bs ^ (EE / 2 ^ b) % md * (bs ^ (EE / 2 ^ b) % md) % md * bs) % (md) := by rw [rv_congr (fun i hi => (hcp i hi).trans (if_pos hi))]; exact hv_7
                              replace hMR : MR w rg := MR_same (ho 2 (by decide)) (ho 3 (by decide)) hMR
                              replace hdr : ∀ i, i < ct → w 1 i = f i := fun i hi => by rw [ho 1 (by decide)]; exact hdr i hi
                              replace hpa : ∀ i, i < 2049 - st → w 14 i = g (st + i) := fun i hi => by rw [ho 14 (by decide)]; exact hpa i hi
                              replace hv_9 : rv (w 9) 264 = bs := by rw [ho 9 (by decide)]; exact hv_9
                              replace hv_13 : rv (w 13) 264 = md := by rw [ho 13 (by decide)]; exact hv_13
                              clear hv_10
                              replace hv_11 : rv (w 11) 264 = bs ^ (EE / 2 ^ b) % md * (bs ^ (EE / 2 ^ b) % md) % md * bs := by rw [ho 11 (by decide)]; exact hv_11
                              replace hv_8 : rv (w 8) 264 = (bs ^ (EE / 2 ^ b) % md * (bs ^ (EE / 2 ^ b) % md) % md * bs) / (md) := by rw [ho 8 (by decide)]; exact hv_8
                              replace hv_7 : rv (w 7) 264 = (bs ^ (EE / 2 ^ b) % md * (bs ^ (EE / 2 ^ b) % md) % md * bs) % (md) := by rw [ho 7 (by decide)]; exact hv_7
                              have hv_10 : rv (w 10) 264 = (bs ^ (EE / 2 ^ b) % md * (bs ^ (EE / 2 ^ b) % md) % md * bs) % (md) := hcv
                              clear hcv
                              refine lv_iinc (v := iZ (↑b - 1 - 1)) (lv' := [(6, .int (iZ (↑b - 1 - 1))), (0, .ref (B)), (2, .int (iZ (↑nxe))), (4, .int (iZ (↑nto)))]) hx hb dM_powerModulo_293 hl (k := 3) rfl (iZ_dec _ _) (by decide) rfl (fun ls hl => ?_)
                              refine lv_goto (tgt := 182) hx hb dM_powerModulo_296 (by decide) ?_
                              rw [show (↑b - 1 - 1 : Int) = ↑(b - 1) - 1 from by omega] at hl
                              exact ihL182 (b - 1) w _ _ _ (by omega) (by omega) hMR hdr hpa hv_9 hv_13 (by rw [bin_step (by omega), ← hbt, show bt = 1 by omega, Nat.two_mul]; rw [pmn, pmn1 hbs] at hv_10; exact hv_10) hZ hS (lv_sub hl [1, 2, 3, 0] rfl)
                      exact L182 _ nb w _ _ _ (Nat.lt_succ_self _) (by omega) hMR hdr hpa hv_9 hv_13 (by rw [Nat.div_eq_of_lt hE1, Nat.pow_zero]; exact hv_10) hZ hS (lv_sub hl [1, 2, 3, 0] rfl)
                    · refine lv_aload_n hx hb dM_powerModulo_139 rfl (lv_at hl 0 rfl) ?_
                      refine zm_kept hx hb ht hown hK hZ tw_681 dM_powerModulo_140 ?_
                      refine lv_sipush (v := iZ (128)) hx hb dM_powerModulo_143 (by decide) ?_
                      refine lv_iload_n hx hb dM_powerModulo_146 rfl (lv_at hl 1 rfl) ?_
                      refine zr_imul hx hb dM_powerModulo_147 ?_
                      refine lv_iload hx hb dM_powerModulo_148 (lv_at hl 3 rfl) ?_
                      refine lv_iconst (v := iZ (1)) hx hb dM_powerModulo_150 (by decide) ?_
                      refine zr_isub hx hb dM_powerModulo_151 ?_
                      refine lv_bipush (v := iZ (16)) hx hb dM_powerModulo_152 (by decide) ?_
                      refine zr_idiv hx hb (by unfold zi; omega) (by unfold zi; omega) (by omega) (by omega) dM_powerModulo_154 ?_
                      refine zr_iadd hx hb dM_powerModulo_155 ?_
                      rw [show ((128 * ↑nxe) + ((↑nb - 1) / 16) : Int) = ((128 * nxe + (nb - 1) / 16 : Nat) : Int) by omega]
                      refine zm_ld (k := 2) (i := 128 * nxe + (nb - 1) / 16) hx hb hK hZ (by decide) (by show 128 * nxe + (nb - 1) / 16 < 1280; omega) dM_powerModulo_156 ?_
                      refine lv_iload hx hb dM_powerModulo_157 (lv_at hl 3 rfl) ?_
                      refine lv_iconst (v := iZ (1)) hx hb dM_powerModulo_159 (by decide) ?_
                      refine zr_isub hx hb dM_powerModulo_160 ?_
                      refine lv_bipush (v := iZ (16)) hx hb dM_powerModulo_161 (by decide) ?_
                      refine zr_irem hx hb (by unfold zi; omega) (by unfold zi; omega) (by omega) (by omega) dM_powerModulo_163 ?_
                      have hlk := hZ.2 2 (128 * nxe + (nb - 1) / 16)
                      refine zc_i (y := iZ (((nb - 1) % 16 : Nat) : Int)) (congrArg iZ (by omega)) ?_
                      refine zr_ishr hx hb (by omega) (by omega) dM_powerModulo_164 ?_
                      refine lv_iconst (v := iZ (1)) hx hb dM_powerModulo_165 (by decide) ?_
                      have hle9 := Nat.div_le_self (w 2 (128 * nxe + (nb - 1) / 16)) (2 ^ ((nb - 1) % 16))
                      refine zr_iand hx hb 1 (by omega) rfl dM_powerModulo_166 ?_
                      rw [show (2 : Nat) ^ 1 = 2 from rfl, show w 2 (128 * nxe + (nb - 1) / 16) / 2 ^ ((nb - 1) % 16) % 2 = EE / 2 ^ (nb - 1) % 2 from rbit (d := fun q => w 2 (128 * nxe + q)) (fun q => hZ.2 2 _) (by omega) (by rw [hEE]; exact (hMR nxe h10_nxe).1)]
                      obtain ⟨bt, hbt⟩ : ∃ q, q = EE / 2 ^ (nb - 1) % 2 := ⟨_, rfl⟩
                      rw [← hbt]
                      have hbt2 : bt < 2 := by rw [hbt]; exact Nat.mod_lt _ (by decide)
                      refine zr_if_ne (tgt := 176) hx hb (by unfold zi; omega) dM_powerModulo_167 (by decide) (fun c_13 => ?_) (fun c_13 => ?_)
                      · refine lv_iload hx hb dM_powerModulo_176 (lv_at hl 3 rfl) ?_
                        refine lv_iconst (v := iZ (1)) hx hb dM_powerModulo_178 (by decide) ?_
                        refine zr_isub hx hb dM_powerModulo_179 ?_
                        refine lv_istore (lv' := [(6, .int (iZ (↑nb - 1))), (0, .ref (B)), (2, .int (iZ (↑nxe))), (4, .int (iZ (↑nto))), (5, .int (iZ (↑nb)))]) hx hb dM_powerModulo_180 hl (by decide) rfl (fun ls hl => ?_)
                        have L182 : ∀ (fu : Nat) (b : Nat) (w : Nat → Nat → Nat) (H : Heap) (locs : List Loc) (ls : Array Slot), b < fu → (b ≤ 2048) → (MR w rg) → (∀ i, i < ct → w 1 i = f i) → (∀ i, i < 2049 - st → w 14 i = g (st + i)) → (rv (w 9) 264 = bs) → (rv (w 13) 264 = md) → (rv (w 10) 264 = bs ^ (EE / 2 ^ b) % md) → zMD E B w (0, fa, ct, be, fb, sb9, (2049 - st)) H → va_S (zA B 15) s.heap H locs → lv_has ls 7 [(0, .ref (B)), (2, .int (iZ (↑nxe))), (4, .int (iZ (↑nto))), (6, .int (iZ (↑b - 1)))] → W p l e R s m args below meth c H locs 0 0 Q (F0 m 182 ls []) := by
                          intro fu
                          induction fu with
                          | zero => intro b w H locs ls hm; exact absurd hm (Nat.not_lt_zero _)
                          | succ fu ihL182 =>
                            intro b w H locs ls hm hb48 hMR hdr hpa hv_9 hv_13 hv_10 hZ hS hl
                            refine lv_iload hx hb dM_powerModulo_182 (lv_at hl 3 rfl) ?_
                            refine zr_if_lt (tgt := 299) hx hb (by unfold zi; omega) dM_powerModulo_184 (by decide) (fun c_14 => ?_) (fun c_14 => ?_)
                            · rw [show b = 0 by omega, Nat.pow_zero, Nat.div_one] at hv_10
                              refine lv_aload_n hx hb dM_powerModulo_299 rfl (lv_at hl 0 rfl) ?_
                              refine zm_two hx hb ht hown hK hZ tw_690 dM_powerModulo_300 ?_
                              refine lv_aload_n hx hb dM_powerModulo_303 rfl (lv_at hl 0 rfl) ?_
                              refine zm_row hx hb ht hown hK hZ tw_683 dM_powerModulo_304 ?_
                              refine zcS_v (P' := fun (u : (Nat → Nat → Nat) × zC) H => zMD E B u.1 u.2 H) 2 (As := [.ref (B + 10), .ref (B + 4)]) (rest := []) ⟨hx, hb, hml, hown, ht⟩ (mM_copy l E B w (0, fa, ct, be, fb, sb9, (2049 - st)) 10 (by decide) 4 (by decide) 264 rfl (by decide) 264 rfl (by decide) (by decide)) tw_798 tw_796 tw_797 tw_6 qM_copy (by rw [hR]; decide) hZ hK hl.1 rfl rfl (Nat.le_of_ble_eq_true rfl) dM_powerModulo_307 ⟨Nat.zero_le _, Nat.zero_le _⟩ hS (fun u H locs hp hZ _ hS => ?_)
                              obtain ⟨w, q9⟩ := u
                              obtain ⟨ho, hq9, hcp⟩ := hp
                              dsimp only at *
                              rw [hq9] at hZ
                              have hcv : rv (w 4) 264 = bs ^ EE % md := by rw [rv_congr (fun i hi => (hcp i hi).trans (if_pos hi))]; exact hv_10
                              replace hMR : MR w rg := MR_same (ho 2 (by decide)) (ho 3 (by decide)) hMR
                              replace hdr : ∀ i, i < ct → w 1 i = f i := fun i hi => by rw [ho 1 (by decide)]; exact hdr i hi
                              replace hpa : ∀ i, i < 2049 - st → w 14 i = g (st + i) := fun i hi => by rw [ho 14 (by decide)]; exact hpa i hi
                              replace hv_9 : rv (w 9) 264 = bs := by rw [ho 9 (by decide)]; exact hv_9
                              replace hv_13 : rv (w 13) 264 = md := by rw [ho 13 (by decide)]; exact hv_13
                              replace hv_10 : rv (w 10) 264 = bs ^ EE % md := by rw [ho 10 (by decide)]; exact hv_10
                              have hv_4 : rv (w 4) 264 = bs ^ EE % md := hcv
                              clear hcv
                              refine lv_aload_n hx hb dM_powerModulo_310 rfl (lv_at hl 0 rfl) ?_
                              refine lv_iconst (v := iZ (0)) hx hb dM_powerModulo_311 (by decide) ?_
                              refine W.eq (g2 := F0 m 312 ls ([.int (iZ (bZ false)), .ref B])) rfl ?_
                              refine zm_put_below (x := false) hx hb ht hown hK hZ hS tw_684 dM_powerModulo_312 (fun H locs hZ hS => ?_)
                              have hZ : zMD E B w (0, fa, ct, false, fb, sb9, (2049 - st)) H := hZ
                              refine lv_aload_n hx hb dM_powerModulo_315 rfl (lv_at hl 0 rfl) ?_
                              refine lv_iload hx hb dM_powerModulo_316 (lv_at hl 2 rfl) ?_
                              refine zcV_v (P' := fun (u : (Nat → Nat → Nat) × zC) H => zMD E B u.1 u.2 H) 1 (As := [.int (iZ (↑nto))]) (rest := []) rfl ⟨hx, hb, hml, hown, ht⟩ (mM_store l E B w (0, fa, ct, false, fb, sb9, (2049 - st)) nto h10_nto rg hMR) tw_779 tw_776 tw_778 tp_12 tw_6 qM_store (by rw [hR]; decide) (zm_recv hK hZ) hZ hK hl.1 rfl rfl (Nat.le_of_ble_eq_true rfl) dM_powerModulo_318 ⟨Nat.zero_le _, Nat.zero_le _⟩ hS (fun u H locs hp hZ _ hS => ?_)
                              obtain ⟨w, q9⟩ := u
                              obtain ⟨ho, hbig, hfit⟩ := hp
                              dsimp only at *
                              rw [hv_4] at hbig hfit
                              have hzz : (if false = true then -(((bs ^ EE % md : Nat) : Int)) else ((bs ^ EE % md : Nat) : Int)) = ((bs ^ EE % md : Nat) : Int) := by rw [if_neg (by decide)]
                              have hzX : zX (((bs ^ EE % md : Nat) : Int)) ↔ bs ^ EE % md < rP 128 := by rw [← hzz]; exact zX_if
                              rcases Nat.lt_or_ge (bs ^ EE % md) (rP 128) with hX | hX
                              · obtain ⟨hq9, hMR9⟩ := hfit hX
                                rw [hq9] at hZ
                                rw [hzz] at hMR9
                                have hzx := hzX.mpr hX
                                replace hdr : ∀ i, i < ct → w 1 i = f i := fun i hi => by rw [ho 1 (by decide) (by decide)]; exact hdr i hi
                                replace hpa : ∀ i, i < 2049 - st → w 14 i = g (st + i) := fun i hi => by rw [ho 14 (by decide) (by decide)]; exact hpa i hi
                                replace hv_9 : rv (w 9) 264 = bs := by rw [ho 9 (by decide) (by decide)]; exact hv_9
                                replace hv_13 : rv (w 13) 264 = md := by rw [ho 13 (by decide) (by decide)]; exact hv_13
                                replace hv_10 : rv (w 10) 264 = bs ^ EE % md := by rw [ho 10 (by decide) (by decide)]; exact hv_10
                                replace hv_4 : rv (w 4) 264 = bs ^ EE % md := by rw [ho 4 (by decide) (by decide)]; exact hv_4
                                have hMR : MR w (va_up rg nto (((bs ^ EE % md : Nat) : Int))) := hMR9
                                exact hend 321 () _ _ _ dM_powerModulo_321 trivial (by rcases SP_g hsp ⟨hk_na, hk_nxe, hk_nmm, hk_nto⟩ with ⟨_, h, _⟩ | ⟨_, h, _⟩ | ⟨hk, _, _, b8, h1, h2, hs⟩; exact h.elim; (rcases h with h | h; exact absurd hm0 h; exact absurd (hgx h.1) h.2); have hzq : bs = b8 := pw_eq hm0 (by omega) h1 hrel h2; subst hzq; rw [hEE, hmd] at hMR; subst hk; subst hs; exact ⟨hok1, w, (0, fa, ct, false, fb, sb9, (2049 - st)), hZ, ⟨hMR, rfl, hdr, rfl, hpa⟩, rfl⟩) hS
                              · obtain ⟨e1, e2⟩ := Prod.mk.inj (hbig hX)
                                rw [e2] at hZ
                                rw [← e1] at hMR hdr hpa
                                have hzx : ¬ zX (((bs ^ EE % md : Nat) : Int)) := fun h9 => absurd (hzX.mp h9) (Nat.not_lt.mpr hX)
                                have hZ : zMD E B w (fa, fa, ct, false, fb, sb9, (2049 - st)) H := hZ
                                exact absurd (zX_le (hok.1 nmm h10_nmm) (by rw [Int.natAbs_natCast, ← hmd]; exact Nat.le_of_lt (Nat.mod_lt _ (by omega)))) hzx
                            · have hpl : bs ^ (EE / 2 ^ b) % md < rP 128 := Nat.lt_trans (Nat.mod_lt _ (by omega)) hm128
                              refine lv_aload_n hx hb dM_powerModulo_187 rfl (lv_at hl 0 rfl) ?_
                              refine lv_aload_n hx hb dM_powerModulo_188 rfl (lv_at hl 0 rfl) ?_
                              refine zm_two hx hb ht hown hK hZ tw_690 dM_powerModulo_189 ?_
                              refine lv_aload_n hx hb dM_powerModulo_192 rfl (lv_at hl 0 rfl) ?_
                              refine zm_two hx hb ht hown hK hZ tw_690 dM_powerModulo_193 ?_
                              refine lv_aload_n hx hb dM_powerModulo_196 rfl (lv_at hl 0 rfl) ?_
                              refine zm_first hx hb ht hown hK hZ tw_691 dM_powerModulo_197 ?_
                              refine zcV_v (P' := fun (u : (Nat → Nat → Nat) × zC) H => zMD E B u.1 u.2 H) 3 (As := [.ref (B + 10), .ref (B + 10), .ref (B + 11)]) (rest := []) rfl ⟨hx, hb, hml, hown, ht⟩ (mM_multiplyRows l E B w (0, fa, ct, be, fb, sb9, (2049 - st)) 10 (by decide) 10 (by decide) 11 (by decide) rfl rfl rfl (by decide) (by decide) (by decide)) tw_812 tw_809 tw_811 tp_15 tw_6 qM_multiplyRows (by rw [hR]; decide) (zm_recv hK hZ) hZ hK hl.1 rfl rfl (Nat.le_of_ble_eq_true rfl) dM_powerModulo_200 ⟨Nat.zero_le _, Nat.zero_le _⟩ hS (fun u H locs hp hZ _ hS => ?_)
                              obtain ⟨w, q9⟩ := u
                              obtain ⟨ho, hq9, hmv⟩ := hp
                              dsimp only at *
                              rw [hq9] at hZ
                              rw [hv_10] at hmv
                              replace hMR : MR w rg := MR_same (ho 2 (by decide) (by decide)) (ho 3 (by decide) (by decide)) hMR
                              replace hdr : ∀ i, i < ct → w 1 i = f i := fun i hi => by rw [ho 1 (by decide) (by decide)]; exact hdr i hi
                              replace hpa : ∀ i, i < 2049 - st → w 14 i = g (st + i) := fun i hi => by rw [ho 14 (by decide) (by decide)]; exact hpa i hi
                              replace hv_9 : rv (w 9) 264 = bs := by rw [ho 9 (by decide) (by decide)]; exact hv_9
                              replace hv_13 : rv (w 13) 264 = md := by rw [ho 13 (by decide) (by decide)]; exact hv_13
                              replace hv_10 : rv (w 10) 264 = bs ^ (EE / 2 ^ b) % md := by rw [ho 10 (by decide) (by decide)]; exact hv_10
                              have hv_11 : rv (w 11) 264 = bs ^ (EE / 2 ^ b) % md * (bs ^ (EE / 2 ^ b) % md) := by rw [hmv]; exact Nat.mod_eq_of_lt (rP_mul128 hpl hpl)
                              refine lv_aload_n hx hb dM_powerModulo_203 rfl (lv_at hl 0 rfl) ?_
                              refine lv_aload_n hx hb dM_powerModulo_204 rfl (lv_at hl 0 rfl) ?_
                              refine zm_first hx hb ht hown hK hZ tw_691 dM_powerModulo_205 ?_
                              refine lv_aload_n hx hb dM_powerModulo_208 rfl (lv_at hl 0 rfl) ?_
                              refine zm_modulus hx hb ht hown hK hZ tw_695 dM_powerModulo_209 ?_
                              refine zcV_v (P' := fun (u : (Nat → Nat → Nat) × zC) H => zMD E B u.1 u.2 H) 2 (As := [.ref (B + 11), .ref (B + 13)]) (rest := []) rfl ⟨hx, hb, hml, hown, ht⟩ (mM_divideRows l E B w (0, fa, ct, be, fb, sb9, (2049 - st)) 11 (by decide) 13 (by decide) rfl rfl (by decide) (by decide) (by rw [hv_13]; omega) (by rw [hv_13]; exact Nat.lt_of_lt_of_le hm128 (rP_mono (by decide)))) tw_824 tw_821 tw_823 tp_17 tw_6 qM_divideRows (by rw [hR]; decide) (zm_recv hK hZ) hZ hK hl.1 rfl rfl (Nat.le_of_ble_eq_true rfl) dM_powerModulo_212 ⟨Nat.zero_le _, Nat.zero_le _⟩ hS (fun u H locs hp hZ _ hS => ?_)
                              obtain ⟨w, q9⟩ := u
                              obtain ⟨ho, hq9, hdq, hdr9⟩ := hp
                              dsimp only at *
                              rw [hq9] at hZ
                              rw [hv_11, hv_13] at hdq hdr9
                              replace hMR : MR w rg := MR_same (ho 2 (by decide) (by decide)) (ho 3 (by decide) (by decide)) hMR
                              replace hdr : ∀ i, i < ct → w 1 i = f i := fun i hi => by rw [ho 1 (by decide) (by decide)]; exact hdr i hi
                              replace hpa : ∀ i, i < 2049 - st → w 14 i = g (st + i) := fun i hi => by rw [ho 14 (by decide) (by decide)]; exact hpa i hi
                              replace hv_9 : rv (w 9) 264 = bs := by rw [ho 9 (by decide) (by decide)]; exact hv_9
                              replace hv_13 : rv (w 13) 264 = md := by rw [ho 13 (by decide) (by decide)]; exact hv_13
                              replace hv_10 : rv (w 10) 264 = bs ^ (EE / 2 ^ b) % md := by rw [ho 10 (by decide) (by decide)]; exact hv_10
                              replace hv_11 : rv (w 11) 264 = bs ^ (EE / 2 ^ b) % md * (bs ^ (EE / 2 ^ b) % md) := by rw [ho 11 (by decide) (by decide)]; exact hv_11
                              have hv_8 : rv (w 8) 264 = (bs ^ (EE / 2 ^ b) % md * (bs ^ (EE / 2 ^ b) % md)) / (md) := hdq
                              clear hdq
                              have hv_7 : rv (w 7) 264 = (bs ^ (EE / 2 ^ b) % md * (bs ^ (EE / 2 ^ b) % md)) % (md) := hdr9
                              clear hdr9
                              refine lv_aload_n hx hb dM_powerModulo_215 rfl (lv_at hl 0 rfl) ?_
                              refine zm_rest hx hb ht hown hK hZ tw_687 dM_powerModulo_216 ?_
                              refine lv_aload_n hx hb dM_powerModulo_219 rfl (lv_at hl 0 rfl) ?_
                              refine zm_two hx hb ht hown hK hZ tw_690 dM_powerModulo_220 ?_
                              refine zcS_v (P' := fun (u : (Nat → Nat → Nat) × zC) H => zMD E B u.1 u.2 H) 2 (As := [.ref (B + 7), .ref (B + 10)]) (rest := []) ⟨hx, hb, hml, hown, ht⟩ (mM_copy l E B w (0, fa, ct, be, fb, sb9, (2049 - st)) 7 (by decide) 10 (by decide) 264 rfl (by decide) 264 rfl (by decide) (by decide)) tw_798 tw_796 tw_797 tw_6 qM_copy (by rw [hR]; decide) hZ hK hl.1 rfl rfl (Nat.le_of_ble_eq_true rfl) dM_powerModulo_223 ⟨Nat.zero_le _, Nat.zero_le _⟩ hS (fun u H locs hp hZ _ hS => ?_)
                              obtain ⟨w, q9⟩ := u
                              obtain ⟨ho, hq9, hcp⟩ := hp
                              dsimp only at *
                              rw [hq9] at hZ
                              have hcv : rv (w 10) 264 = (bs ^ (EE / 2 ^ b) % md * (bs ^ (EE / 2 ^ b) % md)) % (md) := by rw [rv_congr (fun i hi => (hcp i hi).trans (if_pos hi))]; exact hv_7
                              replace hMR : MR w rg := MR_same (ho 2 (by decide)) (ho 3 (by decide)) hMR
                              replace hdr : ∀ i, i < ct → w 1 i = f i := fun i hi => by rw [ho 1 (by decide)]; exact hdr i hi
                              replace hpa : ∀ i, i < 2049 - st → w 14 i = g (st + i) := fun i hi => by rw [ho 14 (by decide)]; exact hpa i hi
                              replace hv_9 : rv (w 9) 264 = bs := by rw [ho 9 (by decide)]; exact hv_9
                              replace hv_13 : rv (w 13) 264 = md := by rw [ho 13 (by decide)]; exact hv_13
                              clear hv_10
                              replace hv_11 : rv (w 11) 264 = bs ^ (EE / 2 ^ b) % md * (bs ^ (EE / 2 ^ b) % md) := by rw [ho 11 (by decide)]; exact hv_11
                              replace hv_8 : rv (w 8) 264 = (bs ^ (EE / 2 ^ b) % md * (bs ^ (EE / 2 ^ b) % md)) / (md) := by rw [ho 8 (by decide)]; exact hv_8
                              replace hv_7 : rv (w 7) 264 = (bs ^ (EE / 2 ^ b) % md * (bs ^ (EE / 2 ^ b) % md)) % (md) := by rw [ho 7 (by decide)]; exact hv_7
                              have hv_10 : rv (w 10) 264 = (bs ^ (EE / 2 ^ b) % md * (bs ^ (EE / 2 ^ b) % md)) % (md) := hcv
                              clear hcv
                              refine lv_aload_n hx hb dM_powerModulo_226 rfl (lv_at hl 0 rfl) ?_
                              refine zm_kept hx hb ht hown hK hZ tw_681 dM_powerModulo_227 ?_
                              refine lv_sipush (v := iZ (128)) hx hb dM_powerModulo_230 (by decide) ?_
                              refine lv_iload_n hx hb dM_powerModulo_233 rfl (lv_at hl 1 rfl) ?_
                              refine zr_imul hx hb dM_powerModulo_234 ?_
                              refine lv_iload hx hb dM_powerModulo_235 (lv_at hl 3 rfl) ?_
                              refine lv_bipush (v := iZ (16)) hx hb dM_powerModulo_237 (by decide) ?_
                              refine zr_idiv hx hb (by unfold zi; omega) (by unfold zi; omega) (by omega) (by omega) dM_powerModulo_239 ?_
                              refine zr_iadd hx hb dM_powerModulo_240 ?_
                              rw [show ((128 * ↑nxe) + ((↑b - 1) / 16) : Int) = ((128 * nxe + (b - 1) / 16 : Nat) : Int) by omega]
                              refine zm_ld (k := 2) (i := 128 * nxe + (b - 1) / 16) hx hb hK hZ (by decide) (by show 128 * nxe + (b - 1) / 16 < 1280; omega) dM_powerModulo_241 ?_
                              refine lv_iload hx hb dM_powerModulo_242 (lv_at hl 3 rfl) ?_
                              refine lv_bipush (v := iZ (16)) hx hb dM_powerModulo_244 (by decide) ?_
                              refine zr_irem hx hb (by unfold zi; omega) (by unfold zi; omega) (by omega) (by omega) dM_powerModulo_246 ?_
                              have hlk := hZ.2 2 (128 * nxe + (b - 1) / 16)
                              refine zc_i (y := iZ (((b - 1) % 16 : Nat) : Int)) (congrArg iZ (by omega)) ?_
                              refine zr_ishr hx hb (by omega) (by omega) dM_powerModulo_247 ?_
                              refine lv_iconst (v := iZ (1)) hx hb dM_powerModulo_248 (by decide) ?_
                              have hle9 := Nat.div_le_self (w 2 (128 * nxe + (b - 1) / 16)) (2 ^ ((b - 1) % 16))
                              refine zr_iand hx hb 1 (by omega) rfl dM_powerModulo_249 ?_
                              rw [show (2 : Nat) ^ 1 = 2 from rfl, show w 2 (128 * nxe + (b - 1) / 16) / 2 ^ ((b - 1) % 16) % 2 = EE / 2 ^ (b - 1) % 2 from rbit (d := fun q => w 2 (128 * nxe + q)) (fun q => hZ.2 2 _) (by omega) (by rw [hEE]; exact (hMR nxe h10_nxe).1)]
                              obtain ⟨bt, hbt⟩ : ∃ q, q = EE / 2 ^ (b - 1) % 2 := ⟨_, rfl⟩
                              rw [← hbt]
                              have hbt2 : bt < 2 := by rw [hbt]; exact Nat.mod_lt _ (by decide)
                              refine lv_iconst (v := iZ (1)) hx hb dM_powerModulo_250 (by decide) ?_
                              refine zr_icmp_ne (tgt := 293) hx hb (by unfold zi; omega) (by unfold zi; omega) dM_powerModulo_251 (by decide) (fun c_15 => ?_) (fun c_15 => ?_)
                              · refine lv_iinc (v := iZ (↑b - 1 - 1)) (lv' := [(6, .int (iZ (↑b - 1 - 1))), (0, .ref (B)), (2, .int (iZ (↑nxe))), (4, .int (iZ (↑nto)))]) hx hb dM_powerModulo_293 hl (k := 3) rfl (iZ_dec _ _) (by decide) rfl (fun ls hl => ?_)
                                refine lv_goto (tgt := 182) hx hb dM_powerModulo_296 (by decide) ?_
                                rw [show (↑b - 1 - 1 : Int) = ↑(b - 1) - 1 from by omega] at hl
                                exact ihL182 (b - 1) w _ _ _ (by omega) (by omega) hMR hdr hpa hv_9 hv_13 (by rw [bin_step (by omega), ← hbt, show bt = 0 by omega, Nat.two_mul, Nat.add_zero]; rw [pmn] at hv_10; exact hv_10) hZ hS (lv_sub hl [1, 2, 3, 0] rfl)
                              · have hpl2 : bs ^ (EE / 2 ^ b) % md * (bs ^ (EE / 2 ^ b) % md) % md < rP 128 := Nat.lt_trans (Nat.mod_lt _ (by omega)) hm128
                                refine lv_aload_n hx hb dM_powerModulo_254 rfl (lv_at hl 0 rfl) ?_
                                refine lv_aload_n hx hb dM_powerModulo_255 rfl (lv_at hl 0 rfl) ?_
                                refine zm_two hx hb ht hown hK hZ tw_690 dM_powerModulo_256 ?_
                                refine lv_aload_n hx hb dM_powerModulo_259 rfl (lv_at hl 0 rfl) ?_
                                refine zm_one hx hb ht hown hK hZ tw_689 dM_powerModulo_260 ?_
                                refine lv_aload_n hx hb dM_powerModulo_263 rfl (lv_at hl 0 rfl) ?_
                                refine zm_first hx hb ht hown hK hZ tw_691 dM_powerModulo_264 ?_
                                refine zcV_v (P' := fun (u : (Nat → Nat → Nat) × zC) H => zMD E B u.1 u.2 H) 3 (As := [.ref (B + 10), .ref (B + 9), .ref (B + 11)]) (rest := []) rfl ⟨hx, hb, hml, hown, ht⟩ (mM_multiplyRows l E B w (0, fa, ct, be, fb, sb9, (2049 - st)) 10 (by decide) 9 (by decide) 11 (by decide) rfl rfl rfl (by decide) (by decide) (by decide)) tw_812 tw_809 tw_811 tp_15 tw_6 qM_multiplyRows (by rw [hR]; decide) (zm_recv hK hZ) hZ hK hl.1 rfl rfl (Nat.le_of_ble_eq_true rfl) dM_powerModulo_267 ⟨Nat.zero_le _, Nat.zero_le _⟩ hS (fun u H locs hp hZ _ hS => ?_)
                                obtain ⟨w, q9⟩ := u
                                obtain ⟨ho, hq9, hmv⟩ := hp
                                dsimp only at *
                                rw [hq9] at hZ
                                rw [hv_10, hv_9] at hmv
                                replace hMR : MR w rg := MR_same (ho 2 (by decide) (by decide)) (ho 3 (by decide) (by decide)) hMR
                                replace hdr : ∀ i, i < ct → w 1 i = f i := fun i hi => by rw [ho 1 (by decide) (by decide)]; exact hdr i hi
                                replace hpa : ∀ i, i < 2049 - st → w 14 i = g (st + i) := fun i hi => by rw [ho 14 (by decide) (by decide)]; exact hpa i hi
                                replace hv_9 : rv (w 9) 264 = bs := by rw [ho 9 (by decide) (by decide)]; exact hv_9
                                replace hv_13 : rv (w 13) 264 = md := by rw [ho 13 (by decide) (by decide)]; exact hv_13
                                replace hv_10 : rv (w 10) 264 = (bs ^ (EE / 2 ^ b) % md * (bs ^ (EE / 2 ^ b) % md)) % (md) := by rw [ho 10 (by decide) (by decide)]; exact hv_10
                                have hv_11 : rv (w 11) 264 = bs ^ (EE / 2 ^ b) % md * (bs ^ (EE / 2 ^ b) % md) % md * bs := by rw [hmv]; exact Nat.mod_eq_of_lt (rP_mul128 hpl2 (Nat.lt_trans hbs hm128))
                                refine lv_aload_n hx hb dM_powerModulo_270 rfl (lv_at hl 0 rfl) ?_
                                refine lv_aload_n hx hb dM_powerModulo_271 rfl (lv_at hl 0 rfl) ?_
                                refine zm_first hx hb ht hown hK hZ tw_691 dM_powerModulo_272 ?_
                                refine lv_aload_n hx hb dM_powerModulo_275 rfl (lv_at hl 0 rfl) ?_
                                refine zm_modulus hx hb ht hown hK hZ tw_695 dM_powerModulo_276 ?_
                                refine zcV_v (P' := fun (u : (Nat → Nat → Nat) × zC) H => zMD E B u.1 u.2 H) 2 (As := [.ref (B + 11), .ref (B + 13)]) (rest := []) rfl ⟨hx, hb, hml, hown, ht⟩ (mM_divideRows l E B w (0, fa, ct, be, fb, sb9, (2049 - st)) 11 (by decide) 13 (by decide) rfl rfl (by decide) (by decide) (by rw [hv_13]; omega) (by rw [hv_13]; exact Nat.lt_of_lt_of_le hm128 (rP_mono (by decide)))) tw_824 tw_821 tw_823 tp_17 tw_6 qM_divideRows (by rw [hR]; decide) (zm_recv hK hZ) hZ hK hl.1 rfl rfl (Nat.le_of_ble_eq_true rfl) dM_powerModulo_279 ⟨Nat.zero_le _, Nat.zero_le _⟩ hS (fun u H locs hp hZ _ hS => ?_)
                                obtain ⟨w, q9⟩ := u
                                obtain ⟨ho, hq9, hdq, hdr9⟩ := hp
                                dsimp only at *
                                rw [hq9] at hZ
                                rw [hv_11, hv_13] at hdq hdr9
                                replace hMR : MR w rg := MR_same (ho 2 (by decide) (by decide)) (ho 3 (by decide) (by decide)) hMR
                                replace hdr : ∀ i, i < ct → w 1 i = f i := fun i hi => by rw [ho 1 (by decide) (by decide)]; exact hdr i hi
                                replace hpa : ∀ i, i < 2049 - st → w 14 i = g (st + i) := fun i hi => by rw [ho 14 (by decide) (by decide)]; exact hpa i hi
                                replace hv_9 : rv (w 9) 264 = bs := by rw [ho 9 (by decide) (by decide)]; exact hv_9
                                replace hv_13 : rv (w 13) 264 = md := by rw [ho 13 (by decide) (by decide)]; exact hv_13
                                replace hv_10 : rv (w 10) 264 = (bs ^ (EE / 2 ^ b) % md * (bs ^ (EE / 2 ^ b) % md)) % (md) := by rw [ho 10 (by decide) (by decide)]; exact hv_10
                                replace hv_11 : rv (w 11) 264 = bs ^ (EE / 2 ^ b) % md * (bs ^ (EE / 2 ^ b) % md) % md * bs := by rw [ho 11 (by decide) (by decide)]; exact hv_11
                                have hv_8 : rv (w 8) 264 = (bs ^ (EE / 2 ^ b) % md * (bs ^ (EE / 2 ^ b) % md) % md * bs) / (md) := hdq
                                clear hdq
                                have hv_7 : rv (w 7) 264 = (bs ^ (EE / 2 ^ b) % md * (bs ^ (EE / 2 ^ b) % md) % md * bs) % (md) := hdr9
                                clear hdr9
                                refine lv_aload_n hx hb dM_powerModulo_282 rfl (lv_at hl 0 rfl) ?_
                                refine zm_rest hx hb ht hown hK hZ tw_687 dM_powerModulo_283 ?_
                                refine lv_aload_n hx hb dM_powerModulo_286 rfl (lv_at hl 0 rfl) ?_
                                refine zm_two hx hb ht hown hK hZ tw_690 dM_powerModulo_287 ?_
                                refine zcS_v (P' := fun (u : (Nat → Nat → Nat) × zC) H => zMD E B u.1 u.2 H) 2 (As := [.ref (B + 7), .ref (B + 10)]) (rest := []) ⟨hx, hb, hml, hown, ht⟩ (mM_copy l E B w (0, fa, ct, be, fb, sb9, (2049 - st)) 7 (by decide) 10 (by decide) 264 rfl (by decide) 264 rfl (by decide) (by decide)) tw_798 tw_796 tw_797 tw_6 qM_copy (by rw [hR]; decide) hZ hK hl.1 rfl rfl (Nat.le_of_ble_eq_true rfl) dM_powerModulo_290 ⟨Nat.zero_le _, Nat.zero_le _⟩ hS (fun u H locs hp hZ _ hS => ?_)
                                obtain ⟨w, q9⟩ := u
                                obtain ⟨ho, hq9, hcp⟩ := hp
                                dsimp only at *
                                rw [hq9] at hZ
                                have hcv : rv (w 10) 264 = (bs ^ (EE / 2 ^ b) % md * (bs ^ (EE / 2 ^ b) % md) % md * bs) % (md) := by rw [rv_congr (fun i hi => (hcp i hi).trans (if_pos hi))]; exact hv_7
                                replace hMR : MR w rg := MR_same (ho 2 (by decide)) (ho 3 (by decide)) hMR
                                replace hdr : ∀ i, i < ct → w 1 i = f i := fun i hi => by rw [ho 1 (by decide)]; exact hdr i hi
                                replace hpa : ∀ i, i < 2049 - st → w 14 i = g (st + i) := fun i hi => by rw [ho 14 (by decide)]; exact hpa i hi
                                replace hv_9 : rv (w 9) 264 = bs := by rw [ho 9 (by decide)]; exact hv_9
                                replace hv_13 : rv (w 13) 264 = md := by rw [ho 13 (by decide)]; exact hv_13
                                clear hv_10
                                replace hv_11 : rv (w 11) 264 = bs ^ (EE / 2 ^ b) % md * (bs ^ (EE / 2 ^ b) % md) % md * bs := by rw [ho 11 (by decide)]; exact hv_11
                                replace hv_8 : rv (w 8) 264 = (bs ^ (EE / 2 ^ b) % md * (bs ^ (EE / 2 ^ b) % md) % md * bs) / (md) := by rw [ho 8 (by decide)]; exact hv_8
                                replace hv_7 : rv (w 7) 264 = (bs ^ (EE / 2 ^ b) % md * (bs ^ (EE / 2 ^ b) % md) % md * bs) % (md) := by rw [ho 7 (by decide)]; exact hv_7
                                have hv_10 : rv (w 10) 264 = (bs ^ (EE / 2 ^ b) % md * (bs ^ (EE / 2 ^ b) % md) % md * bs) % (md) := hcv
                                clear hcv
                                refine lv_iinc (v := iZ (↑b - 1 - 1)) (lv' := [(6, .int (iZ (↑b - 1 - 1))), (0, .ref (B)), (2, .int (iZ (↑nxe))), (4, .int (iZ (↑nto)))]) hx hb dM_powerModulo_293 hl (k := 3) rfl (iZ_dec _ _) (by decide) rfl (fun ls hl => ?_)
                                refine lv_goto (tgt := 182) hx hb dM_powerModulo_296 (by decide) ?_
                                rw [show (↑b - 1 - 1 : Int) = ↑(b - 1) - 1 from by omega] at hl
                                exact ihL182 (b - 1) w _ _ _ (by omega) (by omega) hMR hdr hpa hv_9 hv_13 (by rw [bin_step (by omega), ← hbt, show bt = 1 by omega, Nat.two_mul]; rw [pmn, pmn1 hbs] at hv_10; exact hv_10) hZ hS (lv_sub hl [1, 2, 3, 0] rfl)
                        exact L182 _ nb w _ _ _ (Nat.lt_succ_self _) (by omega) hMR hdr hpa hv_9 hv_13 (by rw [Nat.div_eq_of_lt hE1, Nat.pow_zero]; exact hv_10) hZ hS (lv_sub hl [1, 2, 3, 0] rfl)
                      · have hbit0 : EE / 2 ^ (nb - 1) % 2 = 0 := by rw [← hbt]; omega
                        refine lv_iinc (v := iZ (↑nb - 1)) (lv' := [(5, .int (iZ (↑nb - 1))), (0, .ref (B)), (2, .int (iZ (↑nxe))), (4, .int (iZ (↑nto)))]) hx hb dM_powerModulo_170 hl (k := 3) rfl (iZ_dec _ _) (by decide) rfl (fun ls hl => ?_)
                        refine lv_goto (tgt := 134) hx hb dM_powerModulo_173 (by decide) ?_
                        rw [show (↑nb - 1 : Int) = ↑(nb - 1) from by omega] at hl
                        exact ihL134 (nb - 1) w _ _ _ (by omega) (by omega) (top_bit (by omega) hE1 hbit0) hMR hdr hpa hv_9 hv_13 hv_10 hZ hS (lv_sub hl [1, 2, 3, 0] rfl)
                exact L134 _ 2048 w _ _ _ (Nat.lt_succ_self _) (by decide) (hE48) hMR hdr hpa hv_9 hv_13 hv_10 hZ hS (lv_sub hl [1, 2, 3, 0] rfl)
              refine lv_aload_n hx hb dM_powerModulo_76 rfl (lv_at hl 0 rfl) ?_
              refine zm_minus hx hb ht hown hK hZ tw_682 dM_powerModulo_77 ?_
              refine lv_iload_n hx hb dM_powerModulo_80 rfl (lv_at hl 2 rfl) ?_
              refine zm_ldz (i := nxe) hx hb hK hZ (by omega) dM_powerModulo_81 ?_
              rw [show ((w 3 nxe : Nat) : Int) = bZ (decide (rg nxe < 0)) from by rw [show w 3 nxe = bN (decide (rg nxe < 0)) from (hMR nxe h10_nxe).2, bN_Z]]
              refine zr_if_eq (tgt := 98) hx hb (by have := bZ_01 (decide (rg nxe < 0)); omega) dM_powerModulo_82 (by decide) (fun c_16 => ?_) (fun c_16 => ?_)
              · exact J98 ((rg na % ((md : Nat) : Int)).toNat) be fb sb9 w _ _ _ (by have h9 := Int.emod_lt_of_pos (rg na) (show (0 : Int) < md by omega); have h8 := Int.emod_nonneg (rg na) (show (md : Int) ≠ 0 by omega); omega) (Or.inr ⟨by have h9 : ¬ rg nxe < 0 := of_decide_eq_false (bZ_f.mp (by assumption)); omega, by rw [hme]; have h8 := Int.emod_nonneg (rg na) (show rg nmm ≠ 0 by omega); omega⟩) (fun h9 => absurd h9 (of_decide_eq_false (bZ_f.mp (by assumption)))) hMR hdr hpa hv_9 hv_13 hZ hS (lv_sub hl [0, 2, 4] rfl)
              · have hxn : rg nxe < 0 := of_decide_eq_true (bZ_nf.mp (by assumption))
                refine lv_aload_n hx hb dM_powerModulo_85 rfl (lv_at hl 0 rfl) ?_
                refine zcV_i (P' := fun (u : (Nat → Nat → Nat) × zC) H => zMD E B u.1 u.2 H) 0 (As := []) (rest := []) rfl ⟨hx, hb, hml, hown, ht⟩ (mM_inverts l E B w (0, fa, ct, be, fb, sb9, (2049 - st)) rg ct f st g hMR hdr hpa (rg na) (md) (by omega) hm128 hv_9 hv_13) tw_864 tw_861 tw_863 tp_22 tw_6 qM_inverts (by rw [hR]; decide) (zm_recv hK hZ) hZ hK hl.1 rfl rfl (Nat.le_of_ble_eq_true rfl) dM_powerModulo_86 ⟨Nat.zero_le _, Nat.zero_le _⟩ hS (fun r9 u H locs hp hZ _ hS => ?_)
                obtain ⟨w, q9⟩ := u
                obtain ⟨ho, ⟨be9, fb9, sc9, hq9⟩, bi, hr1, hbt, hbf⟩ := hp
                dsimp only at *
                subst hr1
                rw [hq9] at hZ
                replace hMR : MR w rg := MR_same (ho 2 (by decide) (by decide) (by decide) (by decide) (by decide) (by decide) (by decide) (by decide) (by decide)) (ho 3 (by decide) (by decide) (by decide) (by decide) (by decide) (by decide) (by decide) (by decide) (by decide)) hMR
                replace hdr : ∀ i, i < ct → w 1 i = f i := fun i hi => by rw [ho 1 (by decide) (by decide) (by decide) (by decide) (by decide) (by decide) (by decide) (by decide) (by decide)]; exact hdr i hi
                replace hpa : ∀ i, i < 2049 - st → w 14 i = g (st + i) := fun i hi => by rw [ho 14 (by decide) (by decide) (by decide) (by decide) (by decide) (by decide) (by decide) (by decide) (by decide)]; exact hpa i hi
                replace hv_13 : rv (w 13) 264 = md := by rw [ho 13 (by decide) (by decide) (by decide) (by decide) (by decide) (by decide) (by decide) (by decide) (by decide)]; exact hv_13
                clear hv_9
                have hZ : zMD E B w (0, fa, ct, be9, fb9, sc9, (2049 - st)) H := hZ
                refine zr_if_ne (tgt := 98) hx hb (by have := bZ_01 bi; omega) dM_powerModulo_89 (by decide) (fun c_17 => ?_) (fun c_17 => ?_)
                · obtain ⟨hg1, z9, hz1, hz2, hv_9⟩ := hbt (bZ_nf.mp c_17)
                  rw [hme] at hz2
                  exact J98 z9 be9 fb9 sc9 w _ _ _ (hz1) (Or.inl ⟨hxn, hz2⟩) (fun _ => by rw [← hmd]; exact hg1) hMR hdr hpa hv_9 hv_13 hZ hS (lv_sub hl [0, 2, 4] rfl)
                · have c89 := c_17
                  have hgn := hbf (bZ_f.mp (by assumption))
                  rw [hmd] at hgn
                  refine lv_aload_n hx hb dM_powerModulo_92 rfl (lv_at hl 0 rfl) ?_
                  refine lv_iconst (v := iZ (2)) hx hb dM_powerModulo_93 (by decide) ?_
                  refine W.eq (g2 := F0 m 94 ls ([.int (iZ ((2 : Nat) : Int)), .ref B])) rfl ?_
                  refine zm_put_thrown (x := 2) hx hb ht hown hK hZ hS tw_677 dM_powerModulo_94 (fun H locs hZ hS => ?_)
                  have hZ : zMD E B w (2, fa, ct, be9, fb9, sc9, (2049 - st)) H := hZ
                  exact hend 97 () _ _ _ dM_powerModulo_97 trivial (by rcases SP_g hsp ⟨hk_na, hk_nxe, hk_nmm, hk_nto⟩ with ⟨_, h, _⟩ | ⟨hk, h, hs⟩ | ⟨_, h⟩; exact h.elim; subst hk; subst hs; exact ⟨hok1, w, (2, fa, ct, be9, fb9, sc9, (2049 - st)), hZ, ⟨hMR, rfl, hdr, rfl, hpa⟩, rfl⟩; exact absurd (h.2.1 hxn) hgn) hS
            · exact absurd c_9 (by decide)
          · have hm0 : ¬ 0 < rg nmm := fun h9 => absurd (hbp.mpr h9) (by rw [show bp = false from bZ_f.mp (by assumption)]; decide)
            refine lv_iconst (v := iZ (2)) hx hb dM_powerModulo_42 (by decide) ?_
            refine lv_goto (tgt := 47) hx hb dM_powerModulo_43 (by decide) ?_
            refine W.eq (g2 := F0 m 47 ls ([.int (iZ ((2 : Nat) : Int)), .ref B])) rfl ?_
            refine zm_put_thrown (x := 2) hx hb ht hown hK hZ hS tw_677 dM_powerModulo_47 (fun H locs hZ hS => ?_)
            have hZ : zMD E B w0 (2, fa, ct, be, fb, sb9, (2049 - st)) H := hZ
            refine lv_aload_n hx hb dM_powerModulo_50 rfl (lv_at hl 0 rfl) ?_
            refine zm_thrown hx hb ht hown hK hZ tw_677 dM_powerModulo_51 ?_
            refine zc_i (y := iZ (((2 : Nat) : Int))) rfl ?_
            refine zr_if_le (tgt := 58) hx hb (by decide) dM_powerModulo_54 (by decide) (fun c_18 => ?_) (fun c_18 => ?_)
            · exact absurd c_18 (by decide)
            · exact hend 57 () _ _ _ dM_powerModulo_57 trivial (by rcases SP_g hsp ⟨hk_na, hk_nxe, hk_nmm, hk_nto⟩ with ⟨_, h, _⟩ | ⟨hk, h, hs⟩ | ⟨_, h⟩; exact h.elim; subst hk; subst hs; exact ⟨hok1, w0, (2, fa, ct, be, fb, sb9, (2049 - st)), hZ, ⟨hMR, rfl, hdr, rfl, hpa⟩, rfl⟩; exact absurd h.1 hm0) hS
        · have hng : ¬ rok to := hbto.mp (bZ_nf.mp (by assumption))
          refine lv_iconst (v := iZ (1)) hx hb dM_powerModulo_30 (by decide) ?_
          refine lv_goto (tgt := 47) hx hb dM_powerModulo_31 (by decide) ?_
          refine W.eq (g2 := F0 m 47 ls ([.int (iZ ((1 : Nat) : Int)), .ref B])) rfl ?_
          refine zm_put_thrown (x := 1) hx hb ht hown hK hZ hS tw_677 dM_powerModulo_47 (fun H locs hZ hS => ?_)
          have hZ : zMD E B w0 (1, fa, ct, be, fb, sb9, (2049 - st)) H := hZ
          refine lv_aload_n hx hb dM_powerModulo_50 rfl (lv_at hl 0 rfl) ?_
          refine zm_thrown hx hb ht hown hK hZ tw_677 dM_powerModulo_51 ?_
          refine zc_i (y := iZ (((1 : Nat) : Int))) rfl ?_
          refine zr_if_le (tgt := 58) hx hb (by decide) dM_powerModulo_54 (by decide) (fun c_19 => ?_) (fun c_19 => ?_)
          · exact absurd c_19 (by decide)
          · exact hend 57 () _ _ _ dM_powerModulo_57 trivial (by obtain ⟨hk, hs⟩ := SP_1 hsp (fun h9 => hng (by first | exact h9 | exact h9.1 | exact h9.2.1 | exact h9.2.2.1 | exact h9.2.2.2.1 | exact h9.2.2.2 | exact h9.2.2 | exact h9.2)); subst hk; subst hs; exact ⟨hok1, w0, (1, fa, ct, be, fb, sb9, (2049 - st)), hZ, ⟨hMR, rfl, hdr, rfl, hpa⟩, rfl⟩) hS
