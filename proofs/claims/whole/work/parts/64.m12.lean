theorem tl_tb (x : Int) (k : Nat) {j : Nat} (hj : j < 16) : (tl x k).testBit j = tbz x (16 * k + j) := by
  have e : ∀ U : Nat, (U / rP k % 65536).testBit j = U.testBit (16 * k + j) := fun U => by
    rw [rP_two, show (65536 : Nat) = 2 ^ 16 from rfl, Nat.testBit_mod_two_pow, decide_eq_true hj, Bool.true_and, Nat.testBit_div_two_pow, Nat.add_comm]
  unfold tl
  by_cases hx : x < 0
  · rw [if_pos hx, tbz_neg hx, show 65535 - zu x / rP k % 65536 = 2 ^ 16 - (zu x / rP k % 65536 + 1) by omega, Nat.testBit_two_pow_sub_succ (Nat.mod_lt _ (by decide)), decide_eq_true hj, Bool.true_and, e]
  · rw [if_neg hx, tbz_pos hx, e]
theorem tbz_far {x : Int} (hX : zX x) {j : Nat} (hj : 2048 ≤ j) : tbz x j = decide (x < 0) := by
  have h1 : (zu x).testBit j = false := Nat.testBit_lt_two_pow (Nat.lt_of_lt_of_le (zX_u hX) (Nat.pow_le_pow_right (by decide) hj))
  unfold tbz
  rw [h1]
  cases decide (x < 0) <;> rfl
theorem bN_tb (b : Bool) : ((b.toNat : Nat) : Int) = bZ b := by cases b <;> rfl
theorem tl_bit (x : Int) {i : Nat} : tl x (i / 16) / 2 ^ (i % 16) % 2 = (tbz x i).toNat := by
  rw [tb_dm, tl_tb x (i / 16) (Nat.mod_lt _ (by decide)), Nat.div_add_mod]
set_option maxHeartbeats 4000000 in
set_option maxRecDepth 100000 in
theorem mM_bit (l : Launch) (E : zE) (B : Nat) (rg : Nat → Int) (ct : Nat) (f : Nat → Nat) (st : Nat) (g : Nat → Nat) (t0 : Nat) (a : Int) (hz_a : zi a) (i : Int) (hz_i : zi i) (k : Nat) (σ1 : zS) (hok1 : okS σ1) (hsp : SP (rok a ∧ 0 ≤ i) (False) (False) (fun τ => τ = (rg, ct, f, st, g)) (rg, ct, f, st, g) k σ1) :
    Met l yM_bit (zws yM_bit cM_bit 3 (some .int)) { frames := 1, cells := 0, slots := 0, locals := 40 } (zPc E (zQM E B (rg, ct, f, st, g) t0) [.ref (B), .int (iZ (a)), .int (iZ (i))]) (va_Qi (fun (r : Int32) (u : Unit) => k = 0 → r = iZ (bZ (tbz (rg a.toNat) i.toNat))) (fun u t => zQM E B σ1 (tc k) t.heap ∧ zK E t) (zA B 15)) 0 0 (zA B 15) := by
  refine zof_i (P' := fun (u : Unit) H => zQM E B σ1 (tc k) H) (by decide) (Nat.le_of_ble_eq_true rfl) fun p e R s m args below meth c Q ls hR hx hb hml ht hown hK hZ hl hend => ?_
  have hS : va_S (zA B 15) s.heap s.heap [] := va_S.rf
  have hown : s.vm.findClass "WholeDeskModel" = some m.cls := hown
  have hl : lv_has ls 3 [(0, .ref (B)), (1, .int (iZ (a))), (2, .int (iZ (i)))] := hl
  obtain ⟨hok, w0, ⟨th, fa, le, be, fb, sb9, pr⟩, hZ, ⟨hMR, hle, hdr, hpr, hpa⟩, hth⟩ := hZ
  dsimp only at *
  rw [hle, hpr] at hZ
  clear hth hle hpr le pr
  refine lv_aload_n hx hb dM_bit_0 rfl (lv_at hl 0 rfl) ?_
  refine lv_iload_n hx hb dM_bit_1 rfl (lv_at hl 1 rfl) ?_
  refine zcS_i (P' := fun (u : (Nat → Nat → Nat) × zC) H => zMD E B u.1 u.2 H) 1 (As := [.int (iZ (a))]) (rest := [.ref (B)]) ⟨hx, hb, hml, hown, ht⟩ (mM_no l E B w0 (th, fa, ct, be, fb, sb9, (2049 - st)) (a) hz_a) tw_762 tw_760 tw_761 tw_6 qM_no (by rw [hR]; decide) hZ hK hl.1 rfl rfl (Nat.le_of_ble_eq_true rfl) dM_bit_2 ⟨Nat.zero_le _, Nat.zero_le _⟩ hS (fun r9 u H locs hp hZ _ hS => ?_)
  obtain ⟨hu9, ba, hr1, hba⟩ := hp
  subst hr1
  rw [hu9] at hZ
  dsimp only at hZ
  clear hu9
  refine zr_if_ne (tgt := 12) hx hb (by have := bZ_01 ba; omega) dM_bit_5 (by decide) (fun c_1 => ?_) (fun c_1 => ?_)
  · have hng : ¬ rok a := hba.mp (bZ_nf.mp (by assumption))
    refine lv_iconst (v := iZ (1)) hx hb dM_bit_12 (by decide) ?_
    refine lv_goto (tgt := 17) hx hb dM_bit_13 (by decide) ?_
    refine W.eq (g2 := F0 m 17 ls ([.int (iZ ((1 : Nat) : Int)), .ref B])) rfl ?_
    refine zm_put_thrown (x := 1) hx hb ht hown hK hZ hS tw_677 dM_bit_17 (fun H locs hZ hS => ?_)
    have hZ : zMD E B w0 (1, fa, ct, be, fb, sb9, (2049 - st)) H := hZ
    refine lv_aload_n hx hb dM_bit_20 rfl (lv_at hl 0 rfl) ?_
    refine zm_thrown hx hb ht hown hK hZ tw_677 dM_bit_21 ?_
    refine zc_i (y := iZ (((1 : Nat) : Int))) rfl ?_
    refine zr_if_le (tgt := 31) hx hb (by decide) dM_bit_24 (by decide) (fun c_2 => ?_) (fun c_2 => ?_)
    · exact absurd c_2 (by decide)
    · refine lv_iconst (v := iZ (0)) hx hb dM_bit_27 (by decide) ?_
      refine lv_goto (tgt := 63) hx hb dM_bit_28 (by decide) ?_
      exact hend 63 _ () _ _ _ dM_bit_63 (fun h9 => by obtain ⟨hk, _⟩ := SP_1 hsp (fun h9 => hng (by first | exact h9.1 | exact h9.2)); omega) (by obtain ⟨hk, hs⟩ := SP_1 hsp (fun h9 => hng (by first | exact h9 | exact h9.1 | exact h9.2.1 | exact h9.2.2.1 | exact h9.2.2.2.1 | exact h9.2.2.2 | exact h9.2.2 | exact h9.2)); subst hk; subst hs; exact ⟨hok1, w0, (1, fa, ct, be, fb, sb9, (2049 - st)), hZ, ⟨hMR, rfl, hdr, rfl, hpa⟩, rfl⟩) hS
  · have hk_na : rok a := Classical.byContradiction (fun h9 => absurd (hba.mpr h9) (by rw [show ba = false from bZ_f.mp (by assumption)]; decide))
    obtain ⟨na, rfl⟩ : ∃ n9 : Nat, a = (n9 : Int) := ⟨a.toNat, by have := hk_na.1; omega⟩
    have h10_na : na < 10 := by have := hk_na.2; omega
    refine lv_iload_n hx hb dM_bit_8 rfl (lv_at hl 2 rfl) ?_
    refine zr_if_ge (tgt := 16) hx hb (hz_i) dM_bit_9 (by decide) (fun c_3 => ?_) (fun c_3 => ?_)
    · have h0i : 0 ≤ i := by omega
      obtain ⟨ni, rfl⟩ : ∃ n9 : Nat, i = (n9 : Int) := ⟨i.toNat, by omega⟩
      have hi31 : ni < 2147483648 := by unfold zi at hz_i; omega
      refine lv_iconst (v := iZ (0)) hx hb dM_bit_16 (by decide) ?_
      refine W.eq (g2 := F0 m 17 ls ([.int (iZ ((0 : Nat) : Int)), .ref B])) rfl ?_
      refine zm_put_thrown (x := 0) hx hb ht hown hK hZ hS tw_677 dM_bit_17 (fun H locs hZ hS => ?_)
      have hZ : zMD E B w0 (0, fa, ct, be, fb, sb9, (2049 - st)) H := hZ
      refine lv_aload_n hx hb dM_bit_20 rfl (lv_at hl 0 rfl) ?_
      refine zm_thrown hx hb ht hown hK hZ tw_677 dM_bit_21 ?_
      refine zc_i (y := iZ (((0 : Nat) : Int))) rfl ?_
      refine zr_if_le (tgt := 31) hx hb (by decide) dM_bit_24 (by decide) (fun c_4 => ?_) (fun c_4 => ?_)
      · refine lv_aload_n hx hb dM_bit_31 rfl (lv_at hl 0 rfl) ?_
        refine lv_iload_n hx hb dM_bit_32 rfl (lv_at hl 1 rfl) ?_
        refine lv_iload_n hx hb dM_bit_33 rfl (lv_at hl 2 rfl) ?_
        refine lv_bipush (v := iZ (16)) hx hb dM_bit_34 (by decide) ?_
        refine zr_idiv hx hb (by unfold zi; omega) (by unfold zi; omega) (by omega) (by omega) dM_bit_36 ?_
        refine lv_sipush (v := iZ (128)) hx hb dM_bit_37 (by decide) ?_
        refine zr_icmp_le (tgt := 49) hx hb (by unfold zi; omega) (by unfold zi; omega) dM_bit_40 (by decide) (fun c_5 => ?_) (fun c_5 => ?_)
        · refine lv_iload_n hx hb dM_bit_49 rfl (lv_at hl 2 rfl) ?_
          refine lv_bipush (v := iZ (16)) hx hb dM_bit_50 (by decide) ?_
          refine zr_idiv hx hb (by unfold zi; omega) (by unfold zi; omega) (by omega) (by omega) dM_bit_52 ?_
          refine zc_i (y := iZ ((ni / 16 : Nat) : Int)) (congrArg iZ (by omega)) ?_
          refine zcV_i (P' := fun (u : (Nat → Nat → Nat) × zC) H => zMD E B u.1 u.2 H) 2 (As := [.int (iZ (↑na)), .int (iZ ((((ni / 16) : Nat) : Int)))]) (rest := []) rfl ⟨hx, hb, hml, hown, ht⟩ (mM_limb l E B w0 (0, fa, ct, be, fb, sb9, (2049 - st)) rg ct f st g hMR hdr hpa na h10_na (hok.1 na h10_na) (ni / 16) (by omega)) tw_876 tw_873 tw_875 tp_23 tw_6 qM_limb (by rw [hR]; decide) (zm_recv hK hZ) hZ hK hl.1 rfl rfl (Nat.le_of_ble_eq_true rfl) dM_bit_53 ⟨Nat.zero_le _, Nat.zero_le _⟩ hS (fun r9 u H locs hp hZ _ hS => ?_)
          obtain ⟨_, hu9, hr1⟩ := hp
          subst hr1
          rw [hu9] at hZ
          dsimp only at hZ
          clear hu9
          refine lv_iload_n hx hb dM_bit_56 rfl (lv_at hl 2 rfl) ?_
          refine lv_bipush (v := iZ (16)) hx hb dM_bit_57 (by decide) ?_
          refine zr_irem hx hb (by unfold zi; omega) (by unfold zi; omega) (by omega) (by omega) dM_bit_59 ?_
          refine zc_i (y := iZ (((ni) % 16 : Nat) : Int)) (congrArg iZ (by omega)) ?_
          have htl := tl_lt (rg na) (ni / 16)
          refine zr_ishr hx hb (by omega) (by omega) dM_bit_60 ?_
          refine lv_iconst (v := iZ (1)) hx hb dM_bit_61 (by decide) ?_
          have hle9 := Nat.div_le_self (tl (rg na) (ni / 16)) (2 ^ ((ni) % 16))
          refine zr_iand hx hb 1 (by omega) rfl dM_bit_62 ?_
          rw [show (2 : Nat) ^ 1 = 2 from rfl]
          refine zc_i (y := iZ (bZ (tbz (rg na) ni))) (congrArg iZ (by rw [tl_bit]; exact bN_tb _)) ?_
          exact hend 63 _ () _ _ _ dM_bit_63 (fun _ => rfl) (by rcases SP_g hsp ⟨hk_na, h0i⟩ with ⟨_, h, _⟩ | ⟨_, h, _⟩ | ⟨hk, hs⟩; exact h.elim; exact h.elim; subst hk; subst hs; exact ⟨hok1, w0, (0, fa, ct, be, fb, sb9, (2049 - st)), hZ, ⟨hMR, rfl, hdr, rfl, hpa⟩, rfl⟩) hS
        · refine lv_sipush (v := iZ (128)) hx hb dM_bit_43 (by decide) ?_
          refine lv_goto (tgt := 53) hx hb dM_bit_46 (by decide) ?_
          refine zc_i (y := iZ ((128 : Nat) : Int)) rfl ?_
          refine zcV_i (P' := fun (u : (Nat → Nat → Nat) × zC) H => zMD E B u.1 u.2 H) 2 (As := [.int (iZ (↑na)), .int (iZ (((128 : Nat) : Int)))]) (rest := []) rfl ⟨hx, hb, hml, hown, ht⟩ (mM_limb l E B w0 (0, fa, ct, be, fb, sb9, (2049 - st)) rg ct f st g hMR hdr hpa na h10_na (hok.1 na h10_na) 128 (by omega)) tw_876 tw_873 tw_875 tp_23 tw_6 qM_limb (by rw [hR]; decide) (zm_recv hK hZ) hZ hK hl.1 rfl rfl (Nat.le_of_ble_eq_true rfl) dM_bit_53 ⟨Nat.zero_le _, Nat.zero_le _⟩ hS (fun r9 u H locs hp hZ _ hS => ?_)
          obtain ⟨_, hu9, hr1⟩ := hp
          subst hr1
          rw [hu9] at hZ
          dsimp only at hZ
          clear hu9
          refine lv_iload_n hx hb dM_bit_56 rfl (lv_at hl 2 rfl) ?_
          refine lv_bipush (v := iZ (16)) hx hb dM_bit_57 (by decide) ?_
          refine zr_irem hx hb (by unfold zi; omega) (by unfold zi; omega) (by omega) (by omega) dM_bit_59 ?_
          refine zc_i (y := iZ (((ni) % 16 : Nat) : Int)) (congrArg iZ (by omega)) ?_
          have htl := tl_lt (rg na) 128
          refine zr_ishr hx hb (by omega) (by omega) dM_bit_60 ?_
          refine lv_iconst (v := iZ (1)) hx hb dM_bit_61 (by decide) ?_
          have hle9 := Nat.div_le_self (tl (rg na) 128) (2 ^ ((ni) % 16))
          refine zr_iand hx hb 1 (by omega) rfl dM_bit_62 ?_
          rw [show (2 : Nat) ^ 1 = 2 from rfl]
          refine zc_i (y := iZ (bZ (tbz (rg na) ni))) (congrArg iZ (by rw [tb_dm, tl_tb _ _ (Nat.mod_lt _ (by decide)), tbz_far (hok.1 na h10_na) (by omega), tbz_far (hok.1 na h10_na) (show 2048 ≤ ni by omega)]; exact bN_tb _)) ?_
          exact hend 63 _ () _ _ _ dM_bit_63 (fun _ => rfl) (by rcases SP_g hsp ⟨hk_na, h0i⟩ with ⟨_, h, _⟩ | ⟨_, h, _⟩ | ⟨hk, hs⟩; exact h.elim; exact h.elim; subst hk; subst hs; exact ⟨hok1, w0, (0, fa, ct, be, fb, sb9, (2049 - st)), hZ, ⟨hMR, rfl, hdr, rfl, hpa⟩, rfl⟩) hS
      · exact absurd c_4 (by decide)
    · have hng : ¬ 0 ≤ i := by omega
      refine lv_iconst (v := iZ (1)) hx hb dM_bit_12 (by decide) ?_
      refine lv_goto (tgt := 17) hx hb dM_bit_13 (by decide) ?_
      refine W.eq (g2 := F0 m 17 ls ([.int (iZ ((1 : Nat) : Int)), .ref B])) rfl ?_
      refine zm_put_thrown (x := 1) hx hb ht hown hK hZ hS tw_677 dM_bit_17 (fun H locs hZ hS => ?_)
      have hZ : zMD E B w0 (1, fa, ct, be, fb, sb9, (2049 - st)) H := hZ
      refine lv_aload_n hx hb dM_bit_20 rfl (lv_at hl 0 rfl) ?_
      refine zm_thrown hx hb ht hown hK hZ tw_677 dM_bit_21 ?_
      refine zc_i (y := iZ (((1 : Nat) : Int))) rfl ?_
      refine zr_if_le (tgt := 31) hx hb (by decide) dM_bit_24 (by decide) (fun c_6 => ?_) (fun c_6 => ?_)
      · exact absurd c_6 (by decide)
      · refine lv_iconst (v := iZ (0)) hx hb dM_bit_27 (by decide) ?_
        refine lv_goto (tgt := 63) hx hb dM_bit_28 (by decide) ?_
        exact hend 63 _ () _ _ _ dM_bit_63 (fun h9 => by obtain ⟨hk, _⟩ := SP_1 hsp (fun h9 => hng (by first | exact h9.1 | exact h9.2)); omega) (by obtain ⟨hk, hs⟩ := SP_1 hsp (fun h9 => hng (by first | exact h9 | exact h9.1 | exact h9.2.1 | exact h9.2.2.1 | exact h9.2.2.2.1 | exact h9.2.2.2 | exact h9.2.2 | exact h9.2)); subst hk; subst hs; exact ⟨hok1, w0, (1, fa, ct, be, fb, sb9, (2049 - st)), hZ, ⟨hMR, rfl, hdr, rfl, hpa⟩, rfl⟩) hS
