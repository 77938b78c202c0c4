theorem shu_fin {X i nn o : Nat} (h : X / rP i % 65536 = o) : X % rP i * 2 ^ nn + o * 2 ^ (nn % 16) * rP (i + nn / 16) = X % rP (i + 1) * 2 ^ nn := by
  rw [rP_s, Nat.mul_comm 65536 (rP i), Nat.mod_mul, h, Nat.add_mul, rP_add, Nat.mul_assoc o, Nat.mul_left_comm (2 ^ (nn % 16)), rP_pow, ← Nat.mul_assoc o, Nat.mul_comm o (rP i)]
set_option maxHeartbeats 4000000 in
set_option maxRecDepth 100000 in
theorem mM_shift (l : Launch) (E : zE) (B : Nat) (rg : Nat → Int) (ct : Nat) (f : Nat → Nat) (st : Nat) (g : Nat → Nat) (t0 : Nat) (a : Int) (hz_a : zi a) (n : Int) (hz_n : zi n) (to : Int) (hz_to : zi to) (k : Nat) (σ1 : zS) (hok1 : okS σ1) (hsp : SP (rok a ∧ rok to) (False) (¬ zX (shz (rg a.toNat) n)) (fun τ => zX (shz (rg a.toNat) n) ∧ τ = (va_up rg to.toNat (shz (rg a.toNat) n), ct, f, st, g)) (rg, ct, f, st, g) k σ1) :
    Met l yM_shift (zws yM_shift cM_shift 9 none) { frames := 2, cells := 0, slots := 0, locals := 60 } (zPc E (zQM E B (rg, ct, f, st, g) t0) [.ref (B), .int (iZ (a)), .int (iZ (n)), .int (iZ (to))]) (va_Qv (fun (u : Unit) => True) (fun u t => zQM E B σ1 (tc k) t.heap ∧ zK E t) (zA B 15)) 0 0 (zA B 15) := by
  refine zof_v (P' := fun (u : Unit) H => zQM E B σ1 (tc k) H) (by decide) (Nat.le_of_ble_eq_true rfl) fun p e R s m args below meth c Q ls hR hx hb hml ht hown hK hZ hl hend => ?_
  have hS : va_S (zA B 15) s.heap s.heap [] := va_S.rf
  have hown : s.vm.findClass "WholeDeskModel" = some m.cls := hown
  have hl : lv_has ls 9 [(0, .ref (B)), (1, .int (iZ (a))), (2, .int (iZ (n))), (3, .int (iZ (to)))] := hl
  obtain ⟨hok, w0, ⟨th, fa, le, be, fb, sb9, pr⟩, hZ, ⟨hMR, hle, hdr, hpr, hpa⟩, hth⟩ := hZ
  dsimp only at *
  rw [hle, hpr] at hZ
  clear hth hle hpr le pr
  refine lv_aload_n hx hb dM_shift_0 rfl (lv_at hl 0 rfl) ?_
  refine lv_iload_n hx hb dM_shift_1 rfl (lv_at hl 1 rfl) ?_
  refine zcS_i (P' := fun (u : (Nat → Nat → Nat) × zC) H => zMD E B u.1 u.2 H) 1 (As := [.int (iZ (a))]) (rest := [.ref (B)]) ⟨hx, hb, hml, hown, ht⟩ (mM_no l E B w0 (th, fa, ct, be, fb, sb9, (2049 - st)) (a) hz_a) tw_762 tw_760 tw_761 tw_6 qM_no (by rw [hR]; decide) hZ hK hl.1 rfl rfl (Nat.le_of_ble_eq_true rfl) dM_shift_2 ⟨Nat.zero_le _, Nat.zero_le _⟩ hS (fun r9 u H locs hp hZ _ hS => ?_)
  obtain ⟨hu9, ba, hr1, hba⟩ := hp
  subst hr1
  rw [hu9] at hZ
  dsimp only at hZ
  clear hu9
  refine zr_if_ne (tgt := 15) hx hb (by have := bZ_01 ba; omega) dM_shift_5 (by decide) (fun c_1 => ?_) (fun c_1 => ?_)
  · have hng : ¬ rok a := hba.mp (bZ_nf.mp (by assumption))
    refine lv_iconst (v := iZ (1)) hx hb dM_shift_15 (by decide) ?_
    refine lv_goto (tgt := 20) hx hb dM_shift_16 (by decide) ?_
    refine W.eq (g2 := F0 m 20 ls ([.int (iZ ((1 : Nat) : Int)), .ref B])) rfl ?_
    refine zm_put_thrown (x := 1) hx hb ht hown hK hZ hS tw_677 dM_shift_20 (fun H locs hZ hS => ?_)
    have hZ : zMD E B w0 (1, fa, ct, be, fb, sb9, (2049 - st)) H := hZ
    refine lv_aload_n hx hb dM_shift_23 rfl (lv_at hl 0 rfl) ?_
    refine zm_thrown hx hb ht hown hK hZ tw_677 dM_shift_24 ?_
    refine zc_i (y := iZ (((1 : Nat) : Int))) rfl ?_
    refine zr_if_le (tgt := 31) hx hb (by decide) dM_shift_27 (by decide) (fun c_2 => ?_) (fun c_2 => ?_)
    · exact absurd c_2 (by decide)
    · exact hend 30 () _ _ _ dM_shift_30 trivial (by obtain ⟨hk, hs⟩ := SP_1 hsp (fun h9 => hng (by first | exact h9 | exact h9.1 | exact h9.2.1 | exact h9.2.2.1 | exact h9.2.2.2.1 | exact h9.2.2.2 | exact h9.2.2 | exact h9.2)); subst hk; subst hs; exact ⟨hok1, w0, (1, fa, ct, be, fb, sb9, (2049 - st)), hZ, ⟨hMR, rfl, hdr, rfl, hpa⟩, rfl⟩) hS
  · have hk_na : rok a := Classical.byContradiction (fun h9 => absurd (hba.mpr h9) (by rw [show ba = false from bZ_f.mp (by assumption)]; decide))
    obtain ⟨na, rfl⟩ : ∃ n9 : Nat, a = (n9 : Int) := ⟨a.toNat, by have := hk_na.1; omega⟩
    have h10_na : na < 10 := by have := hk_na.2; omega
    refine lv_iload_n hx hb dM_shift_8 rfl (lv_at hl 3 rfl) ?_
    refine zcS_i (P' := fun (u : (Nat → Nat → Nat) × zC) H => zMD E B u.1 u.2 H) 1 (As := [.int (iZ (to))]) (rest := [.ref (B)]) ⟨hx, hb, hml, hown, ht⟩ (mM_no l E B w0 (th, fa, ct, be, fb, sb9, (2049 - st)) (to) hz_to) tw_762 tw_760 tw_761 tw_6 qM_no (by rw [hR]; decide) hZ hK hl.1 rfl rfl (Nat.le_of_ble_eq_true rfl) dM_shift_9 ⟨Nat.zero_le _, Nat.zero_le _⟩ hS (fun r9 u H locs hp hZ _ hS => ?_)
    obtain ⟨hu9, bto, hr1, hbto⟩ := hp
    subst hr1
    rw [hu9] at hZ
    dsimp only at hZ
    clear hu9
    refine zr_if_eq (tgt := 19) hx hb (by have := bZ_01 bto; omega) dM_shift_12 (by decide) (fun c_3 => ?_) (fun c_3 => ?_)
    · have hk_nto : rok to := Classical.byContradiction (fun h9 => absurd (hbto.mpr h9) (by rw [show bto = false from bZ_f.mp (by assumption)]; decide))
      obtain ⟨nto, rfl⟩ : ∃ n9 : Nat, to = (n9 : Int) := ⟨to.toNat, by have := hk_nto.1; omega⟩
      have h10_nto : nto < 10 := by have := hk_nto.2; omega
      refine lv_iconst (v := iZ (0)) hx hb dM_shift_19 (by decide) ?_
      refine W.eq (g2 := F0 m 20 ls ([.int (iZ ((0 : Nat) : Int)), .ref B])) rfl ?_
      refine zm_put_thrown (x := 0) hx hb ht hown hK hZ hS tw_677 dM_shift_20 (fun H locs hZ hS => ?_)
      have hZ : zMD E B w0 (0, fa, ct, be, fb, sb9, (2049 - st)) H := hZ
      refine lv_aload_n hx hb dM_shift_23 rfl (lv_at hl 0 rfl) ?_
      refine zm_thrown hx hb ht hown hK hZ tw_677 dM_shift_24 ?_
      refine zc_i (y := iZ (((0 : Nat) : Int))) rfl ?_
      refine zr_if_le (tgt := 31) hx hb (by decide) dM_shift_27 (by decide) (fun c_4 => ?_) (fun c_4 => ?_)
      · refine lv_aload_n hx hb dM_shift_31 rfl (lv_at hl 0 rfl) ?_
        refine lv_iconst (v := iZ (2)) hx hb dM_shift_32 (by decide) ?_
        refine W.eq (g2 := F0 m 33 ls ([.int (iZ ((2 : Nat) : Int)), .ref B])) rfl ?_
        refine zm_put_fault (x := 2) hx hb ht hown hK hZ hS tw_678 dM_shift_33 (fun H locs hZ hS => ?_)
        have hZ : zMD E B w0 (0, 2, ct, be, fb, sb9, (2049 - st)) H := hZ
        refine lv_aload_n hx hb dM_shift_36 rfl (lv_at hl 0 rfl) ?_
        refine lv_iload_n hx hb dM_shift_37 rfl (lv_at hl 1 rfl) ?_
        refine lv_aload_n hx hb dM_shift_38 rfl (lv_at hl 0 rfl) ?_
        refine zm_one hx hb ht hown hK hZ tw_689 dM_shift_39 ?_
        refine zcV_v (P' := fun (u : (Nat → Nat → Nat) × zC) H => zMD E B u.1 u.2 H) 2 (As := [.int (iZ (↑na)), .ref (B + 9)]) (rest := []) rfl ⟨hx, hb, hml, hown, ht⟩ (mM_take l E B w0 (0, 2, ct, be, fb, sb9, (2049 - st)) na h10_na 9 (by decide) 264 rfl (by decide)) tw_791 tw_788 tw_790 tp_13 tw_6 qM_take (by rw [hR]; decide) (zm_recv hK hZ) hZ hK hl.1 rfl rfl (Nat.le_of_ble_eq_true rfl) dM_shift_42 ⟨Nat.zero_le _, Nat.zero_le _⟩ hS (fun u H locs hp hZ _ hS => ?_)
        obtain ⟨w, q9⟩ := u
        obtain ⟨ho, hq9, hcp⟩ := hp
        dsimp only at *
        rw [hq9] at hZ
        have htk := take_val hcp (hMR na h10_na).1
        replace hMR : MR w rg := MR_same (ho 2 (by decide)) (ho 3 (by decide)) hMR
        replace hdr : ∀ i, i < ct → w 1 i = f i := fun i hi => by rw [ho 1 (by decide)]; exact hdr i hi
        replace hpa : ∀ i, i < 2049 - st → w 14 i = g (st + i) := fun i hi => by rw [ho 14 (by decide)]; exact hpa i hi
        have hv_9 : rv (w 9) 264 = (rg na).natAbs := htk
        clear htk
        refine lv_aload_n hx hb dM_shift_45 rfl (lv_at hl 0 rfl) ?_
        refine lv_aload_n hx hb dM_shift_46 rfl (lv_at hl 0 rfl) ?_
        refine zm_minus hx hb ht hown hK hZ tw_682 dM_shift_47 ?_
        refine lv_iload_n hx hb dM_shift_50 rfl (lv_at hl 1 rfl) ?_
        refine zm_ldz (i := na) hx hb hK hZ (by omega) dM_shift_51 ?_
        rw [show ((w 3 na : Nat) : Int) = bZ (decide (rg na < 0)) from by rw [show w 3 na = bN (decide (rg na < 0)) from (hMR na h10_na).2, bN_Z]]
        refine zm_put_below (x := (decide (rg na < 0))) hx hb ht hown hK hZ hS tw_684 dM_shift_52 (fun H locs hZ hS => ?_)
        have hZ : zMD E B w (0, 2, ct, (decide (rg na < 0)), fb, sb9, (2049 - st)) H := hZ
        refine lv_aload_n hx hb dM_shift_55 rfl (lv_at hl 0 rfl) ?_
        refine zm_row hx hb ht hown hK hZ tw_683 dM_shift_56 ?_
        refine zcS_v (P' := fun (u : (Nat → Nat → Nat) × zC) H => zMD E B u.1 u.2 H) 1 (As := [.ref (B + 4)]) (rest := []) ⟨hx, hb, hml, hown, ht⟩ (mM_clear l E B w (0, 2, ct, (decide (rg na < 0)), fb, sb9, (2049 - st)) 4 (by decide) 264 rfl (by decide)) tw_768 tw_766 tw_767 tw_6 qM_clear (by rw [hR]; decide) hZ hK hl.1 rfl rfl (Nat.le_of_ble_eq_true rfl) dM_shift_59 ⟨Nat.zero_le _, Nat.zero_le _⟩ hS (fun u H locs hp hZ _ hS => ?_)
        obtain ⟨w, q9⟩ := u
        obtain ⟨ho, hq9, hcl⟩ := hp
        dsimp only at *
        rw [hq9] at hZ
        replace hMR : MR w rg := MR_same (ho 2 (by decide)) (ho 3 (by decide)) hMR
        replace hdr : ∀ i, i < ct → w 1 i = f i := fun i hi => by rw [ho 1 (by decide)]; exact hdr i hi
        replace hpa : ∀ i, i < 2049 - st → w 14 i = g (st + i) := fun i hi => by rw [ho 14 (by decide)]; exact hpa i hi
        replace hv_9 : rv (w 9) 264 = (rg na).natAbs := by rw [ho 9 (by decide)]; exact hv_9
        have hv_4 : rv (w 4) 264 = 0 := by rw [rv_drop (m := 0) (Nat.zero_le _) (fun i _ h => hcl i h)]; rfl
        have hcl4 := hcl
        obtain ⟨X, hX⟩ : ∃ q, q = (rg na).natAbs := ⟨_, rfl⟩
        rw [← hX] at hv_9
        have hX2 : X < 2 ^ 2048 := by rw [hX]; exact hok.1 na h10_na
        have hX128 : X < rP 128 := by rw [rP_128]; exact hX2
        have hzn := hz_n
        unfold zi at hzn
        refine lv_iload_n hx hb dM_shift_62 rfl (lv_at hl 2 rfl) ?_
        refine zr_if_lt (tgt := 183) hx hb (hz_n) dM_shift_63 (by decide) (fun c_5 => ?_) (fun c_5 => ?_)
        · obtain ⟨N, rfl⟩ : ∃ n9 : Nat, n = -(n9 : Int) := ⟨(-n).toNat, by omega⟩
          have hN1 : 1 ≤ N := by omega
          have hN31 : N ≤ 2147483648 := by omega
          clear hv_4
          refine lv_iconst (v := iZ (0)) hx hb dM_shift_183 (by decide) ?_
          refine zc_i (y := iZ (bZ (sdS X N 0))) (congrArg iZ (by rw [(sd_0 X N).2]; rfl)) ?_
          refine lv_istore (lv' := [(4, .int (iZ (bZ (sdS X N 0)))), (0, .ref (B)), (1, .int (iZ (↑na))), (2, .int (iZ (-((N : Nat) : Int)))), (3, .int (iZ (↑nto)))]) hx hb dM_shift_184 hl (by decide) rfl (fun ls hl => ?_)
          refine lv_iconst (v := iZ (0)) hx hb dM_shift_186 (by decide) ?_
          refine lv_istore (lv' := [(5, .int (iZ (0))), (4, .int (iZ (bZ (sdS X N 0)))), (0, .ref (B)), (1, .int (iZ (↑na))), (2, .int (iZ (-((N : Nat) : Int)))), (3, .int (iZ (↑nto)))]) hx hb dM_shift_187 hl (by decide) rfl (fun ls hl => ?_)
          have L189 : ∀ (fu : Nat) (i : Nat) (w : Nat → Nat → Nat) (H : Heap) (locs : List Loc) (ls : Array Slot), 2048 - i < fu → (i ≤ 2048) → (rv (w 4) 264 = sdV X N i) → (MR w rg) → (∀ i, i < ct → w 1 i = f i) → (∀ i, i < 2049 - st → w 14 i = g (st + i)) → (rv (w 9) 264 = X) → zMD E B w (0, 2, ct, decide (rg na < 0), fb, sb9, (2049 - st)) H → va_S (zA B 15) s.heap H locs → lv_has ls 9 [(0, .ref (B)), (2, .int (iZ (-((N : Nat) : Int)))), (3, .int (iZ (↑nto))), (4, .int (iZ (bZ (sdS X N i)))), (5, .int (iZ (↑i)))] → W p l e R s m args below meth c H locs 0 0 Q (F0 m 189 ls []) := by
            intro fu
            induction fu with
            | zero => intro i w H locs ls hm; exact absurd hm (Nat.not_lt_zero _)
            | succ fu ihL189 =>
              intro i w H locs ls hm hi h4v hMR hdr hpa hv_9 hZ hS hl
              refine lv_iload hx hb dM_shift_189 (lv_at hl 4 rfl) ?_
              refine lv_sipush (v := iZ (2048)) hx hb dM_shift_191 (by decide) ?_
              refine zr_icmp_ge (tgt := 295) hx hb (by unfold zi; omega) (by unfold zi; omega) dM_shift_194 (by decide) (fun c_6 => ?_) (fun c_6 => ?_)
              · have hi9 : i = 2048 := by omega
                rw [hi9] at h4v hl
                obtain ⟨he1, he2⟩ := sd_end (N := N) hX2
                rw [he1] at h4v
                obtain ⟨sm, hsm⟩ : ∃ q, q = sdS X N 2048 := ⟨_, rfl⟩
                rw [← hsm] at hl he2
                have hv_4 := h4v
                have hV9 : X / 2 ^ N < rP 128 := Nat.lt_of_le_of_lt (Nat.div_le_self _ _) hX128
                obtain ⟨Vq, hVq⟩ : ∃ q, q = X / 2 ^ N := ⟨_, rfl⟩
                rw [← hVq] at hv_4 hV9
                refine lv_aload_n hx hb dM_shift_295 rfl (lv_at hl 0 rfl) ?_
                refine zm_below hx hb ht hown hK hZ tw_684 dM_shift_296 ?_
                refine zc_i (y := iZ (bZ (decide (rg na < 0)))) rfl ?_
                refine zr_if_eq (tgt := 329) hx hb (by have := bZ_01 (decide (rg na < 0)); omega) dM_shift_299 (by decide) (fun c_7 => ?_) (fun c_7 => ?_)
                · have hv_4 : rv (w 4) 264 = Vq + (decide (rg na < 0) && sm).toNat := by rw [show (decide (rg na < 0) && sm) = false from by first | (rw [show decide (rg na < 0) = false from bZ_f.mp (by assumption), Bool.false_and]) | (rw [show sm = false from bZ_f.mp (by assumption), Bool.and_false])]; exact hv_4
                  refine lv_aload_n hx hb dM_shift_329 rfl (lv_at hl 0 rfl) ?_
                  refine lv_iload_n hx hb dM_shift_330 rfl (lv_at hl 2 rfl) ?_
                  refine zcV_v (P' := fun (u : (Nat → Nat → Nat) × zC) H => zMD E B u.1 u.2 H) 1 (As := [.int (iZ (↑nto))]) (rest := []) rfl ⟨hx, hb, hml, hown, ht⟩ (mM_store l E B w (0, 2, ct, decide (rg na < 0), fb, sb9, (2049 - st)) nto h10_nto rg hMR) tw_779 tw_776 tw_778 tp_12 tw_6 qM_store (by rw [hR]; decide) (zm_recv hK hZ) hZ hK hl.1 rfl rfl (Nat.le_of_ble_eq_true rfl) dM_shift_331 ⟨Nat.zero_le _, Nat.zero_le _⟩ hS (fun u H locs hp hZ _ hS => ?_)
                  obtain ⟨w, q9⟩ := u
                  obtain ⟨ho, hbig, hfit⟩ := hp
                  dsimp only at *
                  rw [hv_4] at hbig hfit
                  have hzz : (if decide (rg na < 0) = true then -(((Vq + (decide (rg na < 0) && sm).toNat : Nat) : Int)) else ((Vq + (decide (rg na < 0) && sm).toNat : Nat) : Int)) = shz (rg na) (-((N : Nat) : Int)) := by rw [hVq, hX]; exact shz_dn (hok.1 na h10_na) hN1 (by rw [he2, hX])
                  have hzX : zX (shz (rg na) (-((N : Nat) : Int))) ↔ Vq + (decide (rg na < 0) && sm).toNat < rP 128 := by rw [← hzz]; exact zX_if
                  rcases Nat.lt_or_ge (Vq + (decide (rg na < 0) && sm).toNat) (rP 128) with hX | hX
                  · obtain ⟨hq9, hMR9⟩ := hfit hX
                    rw [hq9] at hZ
                    rw [hzz] at hMR9
                    have hzx := hzX.mpr hX
                    replace hdr : ∀ i, i < ct → w 1 i = f i := fun i hi => by rw [ho 1 (by decide) (by decide)]; exact hdr i hi
                    replace hpa : ∀ i, i < 2049 - st → w 14 i = g (st + i) := fun i hi => by rw [ho 14 (by decide) (by decide)]; exact hpa i hi
                    replace hv_9 : rv (w 9) 264 = X := by rw [ho 9 (by decide) (by decide)]; exact hv_9
                    replace hv_4 : rv (w 4) 264 = Vq + (decide (rg na < 0) && sm).toNat := by rw [ho 4 (by decide) (by decide)]; exact hv_4
                    have hMR : MR w (va_up rg nto (shz (rg na) (-((N : Nat) : Int)))) := hMR9
                    exact hend 334 () _ _ _ dM_shift_334 trivial (by rcases SP_g hsp ⟨hk_na, hk_nto⟩ with ⟨_, h, _⟩ | ⟨_, h, _⟩ | ⟨hk, _, hs⟩; exact h.elim; exact absurd hzx h; subst hk; subst hs; exact ⟨hok1, w, (0, 2, ct, decide (rg na < 0), fb, sb9, (2049 - st)), hZ, ⟨hMR, rfl, hdr, rfl, hpa⟩, rfl⟩) hS
                  · obtain ⟨e1, e2⟩ := Prod.mk.inj (hbig hX)
                    rw [e2] at hZ
                    rw [← e1] at hMR hdr hpa
                    have hzx : ¬ zX (shz (rg na) (-((N : Nat) : Int))) := fun h9 => absurd (hzX.mp h9) (Nat.not_lt.mpr hX)
                    have hZ : zMD E B w (2, 2, ct, decide (rg na < 0), fb, sb9, (2049 - st)) H := hZ
                    exact hend 334 () _ _ _ dM_shift_334 trivial (by rcases SP_g hsp ⟨hk_na, hk_nto⟩ with ⟨_, h, _⟩ | ⟨hk, h, hs⟩ | ⟨_, h, _⟩; exact h.elim; subst hk; subst hs; exact ⟨hok1, w, (2, 2, ct, decide (rg na < 0), fb, sb9, (2049 - st)), hZ, ⟨hMR, rfl, hdr, rfl, hpa⟩, rfl⟩; exact absurd h hzx) hS
                · have hneg : decide (rg na < 0) = true := bZ_nf.mp (by assumption)
                  refine lv_iload hx hb dM_shift_302 (lv_at hl 3 rfl) ?_
                  refine zr_if_eq (tgt := 329) hx hb (by have := bZ_01 sm; omega) dM_shift_304 (by decide) (fun c_8 => ?_) (fun c_8 => ?_)
                  · have hv_4 : rv (w 4) 264 = Vq + (decide (rg na < 0) && sm).toNat := by rw [show (decide (rg na < 0) && sm) = false from by first | (rw [show decide (rg na < 0) = false from bZ_f.mp (by assumption), Bool.false_and]) | (rw [show sm = false from bZ_f.mp (by assumption), Bool.and_false])]; exact hv_4
                    refine lv_aload_n hx hb dM_shift_329 rfl (lv_at hl 0 rfl) ?_
                    refine lv_iload_n hx hb dM_shift_330 rfl (lv_at hl 2 rfl) ?_
                    refine zcV_v (P' := fun (u : (Nat → Nat → Nat) × zC) H => zMD E B u.1 u.2 H) 1 (As := [.int (iZ (↑nto))]) (rest := []) rfl ⟨hx, hb, hml, hown, ht⟩ (mM_store l E B w (0, 2, ct, decide (rg na < 0), fb, sb9, (2049 - st)) nto h10_nto rg hMR) tw_779 tw_776 tw_778 tp_12 tw_6 qM_store (by rw [hR]; decide) (zm_recv hK hZ) hZ hK hl.1 rfl rfl (Nat.le_of_ble_eq_true rfl) dM_shift_331 ⟨Nat.zero_le _, Nat.zero_le _⟩ hS (fun u H locs hp hZ _ hS => ?_)
                    obtain ⟨w, q9⟩ := u
                    obtain ⟨ho, hbig, hfit⟩ := hp
                    dsimp only at *
                    rw [hv_4] at hbig hfit
                    have hzz : (if decide (rg na < 0) = true then -(((Vq + (decide (rg na < 0) && sm).toNat : Nat) : Int)) else ((Vq + (decide (rg na < 0) && sm).toNat : Nat) : Int)) = shz (rg na) (-((N : Nat) : Int)) := by rw [hVq, hX]; exact shz_dn (hok.1 na h10_na) hN1 (by rw [he2, hX])
                    have hzX : zX (shz (rg na) (-((N : Nat) : Int))) ↔ Vq + (decide (rg na < 0) && sm).toNat < rP 128 := by rw [← hzz]; exact zX_if
                    rcases Nat.lt_or_ge (Vq + (decide (rg na < 0) && sm).toNat) (rP 128) with hX | hX
                    · obtain ⟨hq9, hMR9⟩ := hfit hX
                      rw [hq9] at hZ
                      rw [hzz] at hMR9
                      have hzx := hzX.mpr hX
                      replace hdr : ∀ i, i < ct → w 1 i = f i := fun i hi => by rw [ho 1 (by decide) (by decide)]; exact hdr i hi
                      replace hpa : ∀ i, i < 2049 - st → w 14 i = g (st + i) := fun i hi => by rw [ho 14 (by decide) (by decide)]; exact hpa i hi
                      replace hv_9 : rv (w 9) 264 = X := by rw [ho 9 (by decide) (by decide)]; exact hv_9
                      replace hv_4 : rv (w 4) 264 = Vq + (decide (rg na < 0) && sm).toNat := by rw [ho 4 (by decide) (by decide)]; exact hv_4
                      have hMR : MR w (va_up rg nto (shz (rg na) (-((N : Nat) : Int)))) := hMR9
                      exact hend 334 () _ _ _ dM_shift_334 trivial (by rcases SP_g hsp ⟨hk_na, hk_nto⟩ with ⟨_, h, _⟩ | ⟨_, h, _⟩ | ⟨hk, _, hs⟩; exact h.elim; exact absurd hzx h; subst hk; subst hs; exact ⟨hok1, w, (0, 2, ct, decide (rg na < 0), fb, sb9, (2049 - st)), hZ, ⟨hMR, rfl, hdr, rfl, hpa⟩, rfl⟩) hS
                    · obtain ⟨e1, e2⟩ := Prod.mk.inj (hbig hX)
                      rw [e2] at hZ
                      rw [← e1] at hMR hdr hpa
                      have hzx : ¬ zX (shz (rg na) (-((N : Nat) : Int))) := fun h9 => absurd (hzX.mp h9) (Nat.not_lt.mpr hX)
                      have hZ : zMD E B w (2, 2, ct, decide (rg na < 0), fb, sb9, (2049 - st)) H := hZ
                      exact hend 334 () _ _ _ dM_shift_334 trivial (by rcases SP_g hsp ⟨hk_na, hk_nto⟩ with ⟨_, h, _⟩ | ⟨hk, h, hs⟩ | ⟨_, h, _⟩; exact h.elim; subst hk; subst hs; exact ⟨hok1, w, (2, 2, ct, decide (rg na < 0), fb, sb9, (2049 - st)), hZ, ⟨hMR, rfl, hdr, rfl, hpa⟩, rfl⟩; exact absurd h hzx) hS
                  · have hsm1 : sm = true := bZ_nf.mp (by assumption)
                    refine lv_aload_n hx hb dM_shift_307 rfl (lv_at hl 0 rfl) ?_
                    refine lv_aload_n hx hb dM_shift_308 rfl (lv_at hl 0 rfl) ?_
                    refine zm_other hx hb ht hown hK hZ tw_685 dM_shift_309 ?_
                    refine zcV_v (P' := fun (u : (Nat → Nat → Nat) × zC) H => zMD E B u.1 u.2 H) 1 (As := [.ref (B + 5)]) (rest := []) rfl ⟨hx, hb, hml, hown, ht⟩ (mM_setOne l E B w (0, 2, ct, decide (rg na < 0), fb, sb9, (2049 - st)) 5 (by decide) rfl) tw_844 tw_841 tw_843 tp_20 tw_6 qM_setOne (by rw [hR]; decide) (zm_recv hK hZ) hZ hK hl.1 rfl rfl (Nat.le_of_ble_eq_true rfl) dM_shift_312 ⟨Nat.zero_le _, Nat.zero_le _⟩ hS (fun u H locs hp hZ _ hS => ?_)
                    obtain ⟨w, q9⟩ := u
                    obtain ⟨ho, hq9, hso⟩ := hp
                    dsimp only at *
                    rw [hq9] at hZ
                    replace hMR : MR w rg := MR_same (ho 2 (by decide)) (ho 3 (by decide)) hMR
                    replace hdr : ∀ i, i < ct → w 1 i = f i := fun i hi => by rw [ho 1 (by decide)]; exact hdr i hi
                    replace hpa : ∀ i, i < 2049 - st → w 14 i = g (st + i) := fun i hi => by rw [ho 14 (by decide)]; exact hpa i hi
                    replace hv_9 : rv (w 9) 264 = X := by rw [ho 9 (by decide)]; exact hv_9
                    replace hv_4 : rv (w 4) 264 = Vq := by rw [ho 4 (by decide)]; exact hv_4
                    have hv_5 : rv (w 5) 264 = 1 := hso
                    clear hso
                    refine lv_aload_n hx hb dM_shift_315 rfl (lv_at hl 0 rfl) ?_
                    refine zm_row hx hb ht hown hK hZ tw_683 dM_shift_316 ?_
                    refine lv_aload_n hx hb dM_shift_319 rfl (lv_at hl 0 rfl) ?_
                    refine zm_other hx hb ht hown hK hZ tw_685 dM_shift_320 ?_
                    refine lv_iconst (v := iZ (1)) hx hb dM_shift_323 (by decide) ?_
                    refine lv_lconst (v := lZ (1)) hx hb dM_shift_324 (by decide) ?_
                    refine lv_iconst (v := iZ (0)) hx hb dM_shift_325 (by decide) ?_
                    refine W.eq (g2 := F0 m 326 ls (.int (iZ (bZ false)) :: .long (lZ ((1 : Nat) : Int)) :: .int (iZ ((1 : Nat) : Int)) :: .ref (B + 5) :: .ref (B + 4) :: [])) rfl ?_
                    refine zcS_v (P' := fun (u : (Nat → Nat → Nat) × zC) H => zMD E B u.1 u.2 H) 5 (As := [.ref (B + 4), .ref (B + 5), .int (iZ ((1 : Nat) : Int)), .long (lZ ((1 : Nat) : Int)), .int (iZ (bZ false))]) (rest := []) ⟨hx, hb, hml, hown, ht⟩ (mM_join l E B w (0, 2, ct, decide (rg na < 0), fb, sb9, (2049 - st)) 4 (by decide) 5 (by decide) rfl rfl (by decide) 1 (by omega) 1 (by decide) false (fun q h1 h2 => rv_zeros (hZ.2 5) (by rw [hv_5]; decide) h1 h2) (by rw [hv_4, hv_5]; rw [if_neg (by decide)]; omega) (by rw [hv_4, hv_5]; rw [if_neg (by decide)]; have h9 := rP_mono (show 129 ≤ 264 by decide); rw [rP_s] at h9; omega)) tw_801 tw_799 tw_800 tw_6 qM_join (by rw [hR]; decide) hZ hK hl.1 rfl rfl (Nat.le_of_ble_eq_true rfl) dM_shift_326 ⟨Nat.zero_le _, Nat.zero_le _⟩ hS (fun u H locs hp hZ _ hS => ?_)
                    obtain ⟨w, q9⟩ := u
                    obtain ⟨ho, hq9, hjn⟩ := hp
                    dsimp only at ho hq9 hZ hjn
                    rw [hq9] at hZ
                    rw [if_neg (by decide), hv_4, hv_5] at hjn
                    have hjv : rv (w 4) 264 = Vq + 1 := by omega
                    replace hMR : MR w rg := MR_same (ho 2 (by decide)) (ho 3 (by decide)) hMR
                    replace hdr : ∀ i, i < ct → w 1 i = f i := fun i hi => by rw [ho 1 (by decide)]; exact hdr i hi
                    replace hpa : ∀ i, i < 2049 - st → w 14 i = g (st + i) := fun i hi => by rw [ho 14 (by decide)]; exact hpa i hi
                    replace hv_9 : rv (w 9) 264 = X := by rw [ho 9 (by decide)]; exact hv_9
                    clear hv_4
                    replace hv_5 : rv (w 5) 264 = 1 := by rw [ho 5 (by decide)]; exact hv_5
                    have hv_4 : rv (w 4) 264 = Vq + 1 := hjv
                    clear hjv
                    have hv_4 : rv (w 4) 264 = Vq + (decide (rg na < 0) && sm).toNat := by rw [hneg, hsm1]; exact hv_4
                    refine lv_aload_n hx hb dM_shift_329 rfl (lv_at hl 0 rfl) ?_
                    refine lv_iload_n hx hb dM_shift_330 rfl (lv_at hl 2 rfl) ?_
                    refine zcV_v (P' := fun (u : (Nat → Nat → Nat) × zC) H => zMD E B u.1 u.2 H) 1 (As := [.int (iZ (↑nto))]) (rest := []) rfl ⟨hx, hb, hml, hown, ht⟩ (mM_store l E B w (0, 2, ct, decide (rg na < 0), fb, sb9, (2049 - st)) nto h10_nto rg hMR) tw_779 tw_776 tw_778 tp_12 tw_6 qM_store (by rw [hR]; decide) (zm_recv hK hZ) hZ hK hl.1 rfl rfl (Nat.le_of_ble_eq_true rfl) dM_shift_331 ⟨Nat.zero_le _, Nat.zero_le _⟩ hS (fun u H locs hp hZ _ hS => ?_)
                    obtain ⟨w, q9⟩ := u
                    obtain ⟨ho, hbig, hfit⟩ := hp
                    dsimp only at *
                    rw [hv_4] at hbig hfit
                    have hzz : (if decide (rg na < 0) = true then -(((Vq + (decide (rg na < 0) && sm).toNat : Nat) : Int)) else ((Vq + (decide (rg na < 0) && sm).toNat : Nat) : Int)) = shz (rg na) (-((N : Nat) : Int)) := by rw [hVq, hX]; exact shz_dn (hok.1 na h10_na) hN1 (by rw [he2, hX])
                    have hzX : zX (shz (rg na) (-((N : Nat) : Int))) ↔ Vq + (decide (rg na < 0) && sm).toNat < rP 128 := by rw [← hzz]; exact zX_if
                    rcases Nat.lt_or_ge (Vq + (decide (rg na < 0) && sm).toNat) (rP 128) with hX | hX
                    · obtain ⟨hq9, hMR9⟩ := hfit hX
                      rw [hq9] at hZ
                      rw [hzz] at hMR9
                      have hzx := hzX.mpr hX
                      replace hdr : ∀ i, i < ct → w 1 i = f i := fun i hi => by rw [ho 1 (by decide) (by decide)]; exact hdr i hi
                      replace hpa : ∀ i, i < 2049 - st → w 14 i = g (st + i) := fun i hi => by rw [ho 14 (by decide) (by decide)]; exact hpa i hi
                      replace hv_9 : rv (w 9) 264 = X := by rw [ho 9 (by decide) (by decide)]; exact hv_9
                      replace hv_5 : rv (w 5) 264 = 1 := by rw [ho 5 (by decide) (by decide)]; exact hv_5
                      replace hv_4 : rv (w 4) 264 = Vq + (decide (rg na < 0) && sm).toNat := by rw [ho 4 (by decide) (by decide)]; exact hv_4
                      have hMR : MR w (va_up rg nto (shz (rg na) (-((N : Nat) : Int)))) := hMR9
                      exact hend 334 () _ _ _ dM_shift_334 trivial (by rcases SP_g hsp ⟨hk_na, hk_nto⟩ with ⟨_, h, _⟩ | ⟨_, h, _⟩ | ⟨hk, _, hs⟩; exact h.elim; exact absurd hzx h; subst hk; subst hs; exact ⟨hok1, w, (0, 2, ct, decide (rg na < 0), fb, sb9, (2049 - st)), hZ, ⟨hMR, rfl, hdr, rfl, hpa⟩, rfl⟩) hS
                    · obtain ⟨e1, e2⟩ := Prod.mk.inj (hbig hX)
                      rw [e2] at hZ
                      rw [← e1] at hMR hdr hpa
                      have hzx : ¬ zX (shz (rg na) (-((N : Nat) : Int))) := fun h9 => absurd (hzX.mp h9) (Nat.not_lt.mpr hX)
                      have hZ : zMD E B w (2, 2, ct, decide (rg na < 0), fb, sb9, (2049 - st)) H := hZ
                      exact hend 334 () _ _ _ dM_shift_334 trivial (by rcases SP_g hsp ⟨hk_na, hk_nto⟩ with ⟨_, h, _⟩ | ⟨hk, h, hs⟩ | ⟨_, h, _⟩; exact h.elim; subst hk; subst hs; exact ⟨hok1, w, (2, 2, ct, decide (rg na < 0), fb, sb9, (2049 - st)), hZ, ⟨hMR, rfl, hdr, rfl, hpa⟩, rfl⟩; exact absurd h hzx) hS
              · refine lv_aload_n hx hb dM_shift_197 rfl (lv_at hl 0 rfl) ?_
                refine zm_one hx hb ht hown hK hZ tw_689 dM_shift_198 ?_
                refine lv_iload hx hb dM_shift_201 (lv_at hl 4 rfl) ?_
                refine lv_bipush (v := iZ (16)) hx hb dM_shift_203 (by decide) ?_
                refine zr_idiv hx hb (by unfold zi; omega) (by unfold zi; omega) (by omega) (by omega) dM_shift_205 ?_
                rw [show (↑i / 16 : Int) = ((i / 16 : Nat) : Int) by omega]
                refine zm_ld (k := 9) (i := i / 16) hx hb hK hZ (by decide) (by show i / 16 < 264; omega) dM_shift_206 ?_
                refine lv_iload hx hb dM_shift_207 (lv_at hl 4 rfl) ?_
                refine lv_bipush (v := iZ (16)) hx hb dM_shift_209 (by decide) ?_
                refine zr_irem hx hb (by unfold zi; omega) (by unfold zi; omega) (by omega) (by omega) dM_shift_211 ?_
                refine zc_i (y := iZ ((i % 16 : Nat) : Int)) (congrArg iZ (by omega)) ?_
                have hl9 := hZ.2 9 (i / 16)
                refine zr_ishr hx hb (by omega) (by omega) dM_shift_212 ?_
                refine lv_iconst (v := iZ (1)) hx hb dM_shift_213 (by decide) ?_
                have hle9 := Nat.div_le_self (w 9 (i / 16)) (2 ^ (i % 16))
                refine zr_iand hx hb 1 (by omega) rfl dM_shift_214 ?_
                rw [show (2 : Nat) ^ 1 = 2 from rfl]
                obtain ⟨b, hbv⟩ : ∃ q, q = X.testBit i := ⟨_, rfl⟩
                have hbb : (w 9 (i / 16)).testBit (i % 16) = b := by rw [← rv_tb (hZ.2 9) (n := 264) (by omega), hv_9, hbv]
                refine zc_i (y := iZ (bZ b)) (congrArg iZ (by rw [tb_dm, hbb]; exact bN_tb _)) ?_
                refine lv_istore (lv' := [(6, .int (iZ (bZ b))), (0, .ref (B)), (2, .int (iZ (-((N : Nat) : Int)))), (3, .int (iZ (↑nto))), (4, .int (iZ (bZ (sdS X N i)))), (5, .int (iZ (↑i)))]) hx hb dM_shift_215 hl (by decide) rfl (fun ls hl => ?_)
                refine lv_iload hx hb dM_shift_217 (lv_at hl 5 rfl) ?_
                refine zr_i2l hx hb (by unfold zi; omega) dM_shift_219 ?_
                refine lv_iload_n hx hb dM_shift_220 rfl (lv_at hl 2 rfl) ?_
                refine zr_i2l hx hb (by unfold zi; omega) dM_shift_221 ?_
                refine zr_ladd hx hb dM_shift_222 ?_
                refine lv_lstore (lv' := [(7, .long (lZ (↑i + (-((N : Nat) : Int))))), (6, .int (iZ (bZ b))), (0, .ref (B)), (2, .int (iZ (-((N : Nat) : Int)))), (3, .int (iZ (↑nto))), (4, .int (iZ (bZ (sdS X N i)))), (5, .int (iZ (↑i)))]) hx hb dM_shift_223 hl (by decide) rfl (fun ls hl => ?_)
                refine lv_iload hx hb dM_shift_225 (lv_at hl 5 rfl) ?_
                refine zr_if_ne (tgt := 243) hx hb (by have := bZ_01 (sdS X N i); omega) dM_shift_227 (by decide) (fun c_9 => ?_) (fun c_9 => ?_)
                · have hst : sdS X N i = true := bZ_nf.mp (by assumption)
                  have hs1 : sdS X N (i + 1) = true := by rcases Nat.lt_or_ge i N with h9 | h9; rw [sd_S1 h9, hst, Bool.true_or]; rw [sd_S2 h9, hst]
                  refine lv_iconst (v := iZ (1)) hx hb dM_shift_243 (by decide) ?_
                  refine lv_goto (tgt := 248) hx hb dM_shift_244 (by decide) ?_
                  refine zc_i (y := iZ (bZ (sdS X N (i + 1)))) (congrArg iZ (by rw [hs1]; rfl)) ?_
                  refine lv_istore (lv' := [(4, .int (iZ (bZ (sdS X N (i + 1))))), (7, .long (lZ (↑i + (-((N : Nat) : Int))))), (6, .int (iZ (bZ b))), (0, .ref (B)), (2, .int (iZ (-((N : Nat) : Int)))), (3, .int (iZ (↑nto))), (5, .int (iZ (↑i)))]) hx hb dM_shift_248 hl (by decide) rfl (fun ls hl => ?_)
                  refine lv_lload hx hb dM_shift_250 (lv_at hl 1 rfl) ?_
                  refine lv_lconst (v := lZ (0)) hx hb dM_shift_252 (by decide) ?_
                  refine zr_lcmp_lt (tgt := 289) hx hb (by unfold zl; omega) (by unfold zl; omega) dM_shift_253 dM_shift_254 (by decide) (fun c_10 => ?_) (fun c_10 => ?_)
                  · have hnv : rv (w 4) 264 = sdV X N (i + 1) := by rw [sd_V1 (by omega)]; exact h4v
                    refine lv_iinc (v := iZ (↑i + 1)) (lv' := [(5, .int (iZ (↑i + 1))), (4, .int (iZ (bZ (sdS X N (i + 1))))), (7, .long (lZ (↑i + (-((N : Nat) : Int))))), (6, .int (iZ (bZ b))), (0, .ref (B)), (2, .int (iZ (-((N : Nat) : Int)))), (3, .int (iZ (↑nto)))]) hx hb dM_shift_289 hl (k := 6) rfl (iZ_add _ _) (by decide) rfl (fun ls hl => ?_)
                    refine lv_goto (tgt := 189) hx hb dM_shift_292 (by decide) ?_
                    rw [show (↑i + 1 : Int) = ↑(i + 1) from by omega] at hl
                    exact ihL189 (i + 1) w _ _ _ (by omega) (by omega) (hnv) hMR hdr hpa hv_9 hZ hS (lv_sub hl [4, 5, 6, 1, 0] rfl)
                  · have hge : N ≤ i := by omega
                    obtain ⟨aa, haa⟩ : ∃ q, q = i - N := ⟨_, rfl⟩
                    have haa2 : ((i : Nat) : Int) + -((N : Nat) : Int) = ((aa : Nat) : Int) := by omega
                    rw [show (↑i + (-((N : Nat) : Int)) : Int) = ((aa : Nat) : Int) from by omega] at hl
                    have hal : aa < 2048 := by omega
                    obtain ⟨D, hD⟩ : ∃ d, d = w 4 := ⟨_, rfl⟩
                    rw [← hD] at h4v
                    have hdD : ∀ q, D q < 65536 := by rw [hD]; exact hZ.2 4
                    have hbt : (D (aa / 16)).testBit (aa % 16) = false := by rw [← rv_tb hdD (n := 264) (by omega), h4v]; exact Nat.testBit_lt_two_pow (by rw [haa]; exact sd_lt hge)
                    have hdi := hdD (aa / 16)
                    have hpj : 2 ^ (aa % 16) ≤ 2 ^ 15 := Nat.pow_le_pow_right (by decide) (by omega)
                    have hbl : b.toNat ≤ 1 := Bool.toNat_le b
                    refine lv_aload_n hx hb dM_shift_257 rfl (lv_at hl 3 rfl) ?_
                    refine zm_row hx hb ht hown hK hZ tw_683 dM_shift_258 ?_
                    refine lv_lload hx hb dM_shift_261 (lv_at hl 1 rfl) ?_
                    refine zr_l2i hx hb dM_shift_263 ?_
                    refine lv_bipush (v := iZ (16)) hx hb dM_shift_264 (by decide) ?_
                    refine zr_idiv hx hb (by unfold zi; omega) (by unfold zi; omega) (by omega) (by omega) dM_shift_266 ?_
                    refine lv_aload_n hx hb dM_shift_267 rfl (lv_at hl 3 rfl) ?_
                    refine zm_row hx hb ht hown hK hZ tw_683 dM_shift_268 ?_
                    refine lv_lload hx hb dM_shift_271 (lv_at hl 1 rfl) ?_
                    refine zr_l2i hx hb dM_shift_273 ?_
                    refine lv_bipush (v := iZ (16)) hx hb dM_shift_274 (by decide) ?_
                    refine zr_idiv hx hb (by unfold zi; omega) (by unfold zi; omega) (by omega) (by omega) dM_shift_276 ?_
                    rw [show (((aa : Nat) : Int) / 16 : Int) = ((aa / 16 : Nat) : Int) by omega]
                    refine zm_ld (k := 4) (i := aa / 16) hx hb hK hZ (by decide) (by show aa / 16 < 264; omega) dM_shift_277 ?_
                    rw [← hD]
                    refine lv_iload hx hb dM_shift_278 (lv_at hl 2 rfl) ?_
                    refine lv_lload hx hb dM_shift_280 (lv_at hl 1 rfl) ?_
                    refine zr_l2i hx hb dM_shift_282 ?_
                    refine lv_bipush (v := iZ (16)) hx hb dM_shift_283 (by decide) ?_
                    refine zr_irem hx hb (by unfold zi; omega) (by unfold zi; omega) (by omega) (by omega) dM_shift_285 ?_
                    refine zc_i (y := iZ ((aa % 16 : Nat) : Int)) (congrArg iZ (by omega)) ?_
                    refine W.eq (g2 := F0 m 286 ls (.int (iZ ((aa % 16 : Nat) : Int)) :: .int (iZ ((b.toNat : Nat) : Int)) :: .int (iZ (((D (aa / 16) : Nat) : Int))) :: [.int (iZ (((aa / 16 : Nat) : Int))), .ref (B + 4)])) (by rw [bN_tb] <;> rfl) ?_
                    refine zr_ishl hx hb (Nat.lt_of_le_of_lt (Nat.mul_le_mul hbl hpj) (by decide)) (by omega) dM_shift_286 ?_
                    refine zr_iorN hx hb dM_shift_287 ?_
                    rw [or_bitb hbt]
                    rw [show (((D (aa / 16) + b.toNat * 2 ^ (aa % 16) : Nat) : Int) : Int) = ((D (aa / 16) + b.toNat * 2 ^ (aa % 16) : Nat) : Int) from rfl]
                    refine zm_st (k := 4) (i := aa / 16) (x := D (aa / 16) + b.toNat * 2 ^ (aa % 16)) hx hb hK hZ hS (by decide) (by show aa / 16 < 264; omega) (bit_ltb hbt hdi (by omega) b) dM_shift_288 (fun H locs hZ hS => ?_)
                    obtain ⟨w9, hw9⟩ : ∃ q, q = mup w 4 (aa / 16) (D (aa / 16) + b.toNat * 2 ^ (aa % 16)) := ⟨_, rfl⟩
                    rw [← hw9] at hZ
                    have ho : ∀ j, j ≠ 4 → w9 j = w j := fun j hj => by rw [hw9, mup_ne _ _ _ hj]
                    have hwk : w9 4 = va_up (w 4) (aa / 16) (D (aa / 16) + b.toNat * 2 ^ (aa % 16)) := by rw [hw9, mup_at]
                    clear hw9
                    obtain ⟨w, hww⟩ : ∃ q, q = w9 := ⟨_, rfl⟩
                    rw [← hww] at hZ ho hwk
                    clear hww
                    replace hMR : MR w rg := MR_same (ho 2 (by decide)) (ho 3 (by decide)) hMR
                    replace hdr : ∀ i, i < ct → w 1 i = f i := fun i hi => by rw [ho 1 (by decide)]; exact hdr i hi
                    replace hpa : ∀ i, i < 2049 - st → w 14 i = g (st + i) := fun i hi => by rw [ho 14 (by decide)]; exact hpa i hi
                    replace hv_9 : rv (w 9) 264 = X := by rw [ho 9 (by decide)]; exact hv_9
                    have hnv : rv (w 4) 264 = sdV X N (i + 1) := by rw [hwk, ← hD, rv_bit (by omega), h4v, sd_V2 hge, haa, ← hbv]
                    refine lv_iinc (v := iZ (↑i + 1)) (lv' := [(5, .int (iZ (↑i + 1))), (4, .int (iZ (bZ (sdS X N (i + 1))))), (7, .long (lZ (((aa : Nat) : Int)))), (6, .int (iZ (bZ b))), (0, .ref (B)), (2, .int (iZ (-((N : Nat) : Int)))), (3, .int (iZ (↑nto)))]) hx hb dM_shift_289 hl (k := 6) rfl (iZ_add _ _) (by decide) rfl (fun ls hl => ?_)
                    refine lv_goto (tgt := 189) hx hb dM_shift_292 (by decide) ?_
                    rw [show (↑i + 1 : Int) = ↑(i + 1) from by omega] at hl
                    exact ihL189 (i + 1) w _ _ _ (by omega) (by omega) (hnv) hMR hdr hpa hv_9 hZ hS (lv_sub hl [4, 5, 6, 1, 0] rfl)
                · have hs0 : sdS X N i = false := bZ_f.mp (by assumption)
                  refine lv_iload hx hb dM_shift_230 (lv_at hl 1 rfl) ?_
                  refine lv_iconst (v := iZ (1)) hx hb dM_shift_232 (by decide) ?_
                  refine zr_icmp_ne (tgt := 247) hx hb (by have := bZ_01 b; unfold zi; omega) (by unfold zi; omega) dM_shift_233 (by decide) (fun c_11 => ?_) (fun c_11 => ?_)
                  · have hb0 : b = false := bZ_f.mp (by have := bZ_01 b; omega)
                    have hs1 : sdS X N (i + 1) = false := by rcases Nat.lt_or_ge i N with h9 | h9; rw [sd_S1 h9, hs0, ← hbv, hb0]; rfl; rw [sd_S2 h9, hs0]
                    refine lv_iconst (v := iZ (0)) hx hb dM_shift_247 (by decide) ?_
                    refine zc_i (y := iZ (bZ (sdS X N (i + 1)))) (congrArg iZ (by rw [hs1]; rfl)) ?_
                    refine lv_istore (lv' := [(4, .int (iZ (bZ (sdS X N (i + 1))))), (7, .long (lZ (↑i + (-((N : Nat) : Int))))), (6, .int (iZ (bZ b))), (0, .ref (B)), (2, .int (iZ (-((N : Nat) : Int)))), (3, .int (iZ (↑nto))), (5, .int (iZ (↑i)))]) hx hb dM_shift_248 hl (by decide) rfl (fun ls hl => ?_)
                    refine lv_lload hx hb dM_shift_250 (lv_at hl 1 rfl) ?_
                    refine lv_lconst (v := lZ (0)) hx hb dM_shift_252 (by decide) ?_
                    refine zr_lcmp_lt (tgt := 289) hx hb (by unfold zl; omega) (by unfold zl; omega) dM_shift_253 dM_shift_254 (by decide) (fun c_12 => ?_) (fun c_12 => ?_)
                    · have hnv : rv (w 4) 264 = sdV X N (i + 1) := by rw [sd_V1 (by omega)]; exact h4v
                      refine lv_iinc (v := iZ (↑i + 1)) (lv' := [(5, .int (iZ (↑i + 1))), (4, .int (iZ (bZ (sdS X N (i + 1))))), (7, .long (lZ (↑i + (-((N : Nat) : Int))))), (6, .int (iZ (bZ b))), (0, .ref (B)), (2, .int (iZ (-((N : Nat) : Int)))), (3, .int (iZ (↑nto)))]) hx hb dM_shift_289 hl (k := 6) rfl (iZ_add _ _) (by decide) rfl (fun ls hl => ?_)
                      refine lv_goto (tgt := 189) hx hb dM_shift_292 (by decide) ?_
                      rw [show (↑i + 1 : Int) = ↑(i + 1) from by omega] at hl
                      exact ihL189 (i + 1) w _ _ _ (by omega) (by omega) (hnv) hMR hdr hpa hv_9 hZ hS (lv_sub hl [4, 5, 6, 1, 0] rfl)
                    · have hge : N ≤ i := by omega
                      obtain ⟨aa, haa⟩ : ∃ q, q = i - N := ⟨_, rfl⟩
                      have haa2 : ((i : Nat) : Int) + -((N : Nat) : Int) = ((aa : Nat) : Int) := by omega
                      rw [show (↑i + (-((N : Nat) : Int)) : Int) = ((aa : Nat) : Int) from by omega] at hl
                      have hal : aa < 2048 := by omega
                      obtain ⟨D, hD⟩ : ∃ d, d = w 4 := ⟨_, rfl⟩
                      rw [← hD] at h4v
                      have hdD : ∀ q, D q < 65536 := by rw [hD]; exact hZ.2 4
                      have hbt : (D (aa / 16)).testBit (aa % 16) = false := by rw [← rv_tb hdD (n := 264) (by omega), h4v]; exact Nat.testBit_lt_two_pow (by rw [haa]; exact sd_lt hge)
                      have hdi := hdD (aa / 16)
                      have hpj : 2 ^ (aa % 16) ≤ 2 ^ 15 := Nat.pow_le_pow_right (by decide) (by omega)
                      have hbl : b.toNat ≤ 1 := Bool.toNat_le b
                      refine lv_aload_n hx hb dM_shift_257 rfl (lv_at hl 3 rfl) ?_
                      refine zm_row hx hb ht hown hK hZ tw_683 dM_shift_258 ?_
                      refine lv_lload hx hb dM_shift_261 (lv_at hl 1 rfl) ?_
                      refine zr_l2i hx hb dM_shift_263 ?_
                      refine lv_bipush (v := iZ (16)) hx hb dM_shift_264 (by decide) ?_
                      refine zr_idiv hx hb (by unfold zi; omega) (by unfold zi; omega) (by omega) (by omega) dM_shift_266 ?_
                      refine lv_aload_n hx hb dM_shift_267 rfl (lv_at hl 3 rfl) ?_
                      refine zm_row hx hb ht hown hK hZ tw_683 dM_shift_268 ?_
                      refine lv_lload hx hb dM_shift_271 (lv_at hl 1 rfl) ?_
                      refine zr_l2i hx hb dM_shift_273 ?_
                      refine lv_bipush (v := iZ (16)) hx hb dM_shift_274 (by decide) ?_
                      refine zr_idiv hx hb (by unfold zi; omega) (by unfold zi; omega) (by omega) (by omega) dM_shift_276 ?_
                      rw [show (((aa : Nat) : Int) / 16 : Int) = ((aa / 16 : Nat) : Int) by omega]
                      refine zm_ld (k := 4) (i := aa / 16) hx hb hK hZ (by decide) (by show aa / 16 < 264; omega) dM_shift_277 ?_
                      rw [← hD]
                      refine lv_iload hx hb dM_shift_278 (lv_at hl 2 rfl) ?_
                      refine lv_lload hx hb dM_shift_280 (lv_at hl 1 rfl) ?_
                      refine zr_l2i hx hb dM_shift_282 ?_
                      refine lv_bipush (v := iZ (16)) hx hb dM_shift_283 (by decide) ?_
                      refine zr_irem hx hb (by unfold zi; omega) (by unfold zi; omega) (by omega) (by omega) dM_shift_285 ?_
                      refine zc_i (y := iZ ((aa % 16 : Nat) : Int)) (congrArg iZ (by omega)) ?_
                      refine W.eq (g2 := F0 m 286 ls (.int (iZ ((aa % 16 : Nat) : Int)) :: .int (iZ ((b.toNat : Nat) : Int)) :: .int (iZ (((D (aa / 16) : Nat) : Int))) :: [.int (iZ (((aa / 16 : Nat) : Int))), .ref (B + 4)])) (by rw [bN_tb] <;> rfl) ?_
                      refine zr_ishl hx hb (Nat.lt_of_le_of_lt (Nat.mul_le_mul hbl hpj) (by decide)) (by omega) dM_shift_286 ?_
                      refine zr_iorN hx hb dM_shift_287 ?_
                      rw [or_bitb hbt]
                      rw [show (((D (aa / 16) + b.toNat * 2 ^ (aa % 16) : Nat) : Int) : Int) = ((D (aa / 16) + b.toNat * 2 ^ (aa % 16) : Nat) : Int) from rfl]
                      refine zm_st (k := 4) (i := aa / 16) (x := D (aa / 16) + b.toNat * 2 ^ (aa % 16)) hx hb hK hZ hS (by decide) (by show aa / 16 < 264; omega) (bit_ltb hbt hdi (by omega) b) dM_shift_288 (fun H locs hZ hS => ?_)
                      obtain ⟨w9, hw9⟩ : ∃ q, q = mup w 4 (aa / 16) (D (aa / 16) + b.toNat * 2 ^ (aa % 16)) := ⟨_, rfl⟩
                      rw [← hw9] at hZ
                      have ho : ∀ j, j ≠ 4 → w9 j = w j := fun j hj => by rw [hw9, mup_ne _ _ _ hj]
                      have hwk : w9 4 = va_up (w 4) (aa / 16) (D (aa / 16) + b.toNat * 2 ^ (aa % 16)) := by rw [hw9, mup_at]
                      clear hw9
                      obtain ⟨w, hww⟩ : ∃ q, q = w9 := ⟨_, rfl⟩
                      rw [← hww] at hZ ho hwk
                      clear hww
                      replace hMR : MR w rg := MR_same (ho 2 (by decide)) (ho 3 (by decide)) hMR
                      replace hdr : ∀ i, i < ct → w 1 i = f i := fun i hi => by rw [ho 1 (by decide)]; exact hdr i hi
                      replace hpa : ∀ i, i < 2049 - st → w 14 i = g (st + i) := fun i hi => by rw [ho 14 (by decide)]; exact hpa i hi
                      replace hv_9 : rv (w 9) 264 = X := by rw [ho 9 (by decide)]; exact hv_9
                      have hnv : rv (w 4) 264 = sdV X N (i + 1) := by rw [hwk, ← hD, rv_bit (by omega), h4v, sd_V2 hge, haa, ← hbv]
                      refine lv_iinc (v := iZ (↑i + 1)) (lv' := [(5, .int (iZ (↑i + 1))), (4, .int (iZ (bZ (sdS X N (i + 1))))), (7, .long (lZ (((aa : Nat) : Int)))), (6, .int (iZ (bZ b))), (0, .ref (B)), (2, .int (iZ (-((N : Nat) : Int)))), (3, .int (iZ (↑nto)))]) hx hb dM_shift_289 hl (k := 6) rfl (iZ_add _ _) (by decide) rfl (fun ls hl => ?_)
                      refine lv_goto (tgt := 189) hx hb dM_shift_292 (by decide) ?_
                      rw [show (↑i + 1 : Int) = ↑(i + 1) from by omega] at hl
                      exact ihL189 (i + 1) w _ _ _ (by omega) (by omega) (hnv) hMR hdr hpa hv_9 hZ hS (lv_sub hl [4, 5, 6, 1, 0] rfl)
                  · have hb1 : b = true := bZ_nf.mp (by omega)
                    refine lv_lload hx hb dM_shift_236 (lv_at hl 0 rfl) ?_
                    refine lv_lconst (v := lZ (0)) hx hb dM_shift_238 (by decide) ?_
                    refine zr_lcmp_ge (tgt := 247) hx hb (by unfold zl; omega) (by unfold zl; omega) dM_shift_239 dM_shift_240 (by decide) (fun c_13 => ?_) (fun c_13 => ?_)
                    · have hge9 : N ≤ i := by omega
                      have hs1 : sdS X N (i + 1) = false := by rw [sd_S2 hge9, hs0]
                      refine lv_iconst (v := iZ (0)) hx hb dM_shift_247 (by decide) ?_
                      refine zc_i (y := iZ (bZ (sdS X N (i + 1)))) (congrArg iZ (by rw [hs1]; rfl)) ?_
                      refine lv_istore (lv' := [(4, .int (iZ (bZ (sdS X N (i + 1))))), (7, .long (lZ (↑i + (-((N : Nat) : Int))))), (6, .int (iZ (bZ b))), (0, .ref (B)), (2, .int (iZ (-((N : Nat) : Int)))), (3, .int (iZ (↑nto))), (5, .int (iZ (↑i)))]) hx hb dM_shift_248 hl (by decide) rfl (fun ls hl => ?_)
                      refine lv_lload hx hb dM_shift_250 (lv_at hl 1 rfl) ?_
                      refine lv_lconst (v := lZ (0)) hx hb dM_shift_252 (by decide) ?_
                      refine zr_lcmp_lt (tgt := 289) hx hb (by unfold zl; omega) (by unfold zl; omega) dM_shift_253 dM_shift_254 (by decide) (fun c_14 => ?_) (fun c_14 => ?_)
                      · have hnv : rv (w 4) 264 = sdV X N (i + 1) := by rw [sd_V1 (by omega)]; exact h4v
                        refine lv_iinc (v := iZ (↑i + 1)) (lv' := [(5, .int (iZ (↑i + 1))), (4, .int (iZ (bZ (sdS X N (i + 1))))), (7, .long (lZ (↑i + (-((N : Nat) : Int))))), (6, .int (iZ (bZ b))), (0, .ref (B)), (2, .int (iZ (-((N : Nat) : Int)))), (3, .int (iZ (↑nto)))]) hx hb dM_shift_289 hl (k := 6) rfl (iZ_add _ _) (by decide) rfl (fun ls hl => ?_)
                        refine lv_goto (tgt := 189) hx hb dM_shift_292 (by decide) ?_
                        rw [show (↑i + 1 : Int) = ↑(i + 1) from by omega] at hl
                        exact ihL189 (i + 1) w _ _ _ (by omega) (by omega) (hnv) hMR hdr hpa hv_9 hZ hS (lv_sub hl [4, 5, 6, 1, 0] rfl)
                      · have hge : N ≤ i := by omega
                        obtain ⟨aa, haa⟩ : ∃ q, q = i - N := ⟨_, rfl⟩
                        have haa2 : ((i : Nat) : Int) + -((N : Nat) : Int) = ((aa : Nat) : Int) := by omega
                        rw [show (↑i + (-((N : Nat) : Int)) : Int) = ((aa : Nat) : Int) from by omega] at hl
                        have hal : aa < 2048 := by omega
                        obtain ⟨D, hD⟩ : ∃ d, d = w 4 := ⟨_, rfl⟩
                        rw [← hD] at h4v
                        have hdD : ∀ q, D q < 65536 := by rw [hD]; exact hZ.2 4
                        have hbt : (D (aa / 16)).testBit (aa % 16) = false := by rw [← rv_tb hdD (n := 264) (by omega), h4v]; exact Nat.testBit_lt_two_pow (by rw [haa]; exact sd_lt hge)
                        have hdi := hdD (aa / 16)
                        have hpj : 2 ^ (aa % 16) ≤ 2 ^ 15 := Nat.pow_le_pow_right (by decide) (by omega)
                        have hbl : b.toNat ≤ 1 := Bool.toNat_le b
                        refine lv_aload_n hx hb dM_shift_257 rfl (lv_at hl 3 rfl) ?_
                        refine zm_row hx hb ht hown hK hZ tw_683 dM_shift_258 ?_
                        refine lv_lload hx hb dM_shift_261 (lv_at hl 1 rfl) ?_
                        refine zr_l2i hx hb dM_shift_263 ?_
                        refine lv_bipush (v := iZ (16)) hx hb dM_shift_264 (by decide) ?_
                        refine zr_idiv hx hb (by unfold zi; omega) (by unfold zi; omega) (by omega) (by omega) dM_shift_266 ?_
                        refine lv_aload_n hx hb dM_shift_267 rfl (lv_at hl 3 rfl) ?_
                        refine zm_row hx hb ht hown hK hZ tw_683 dM_shift_268 ?_
                        refine lv_lload hx hb dM_shift_271 (lv_at hl 1 rfl) ?_
                        refine zr_l2i hx hb dM_shift_273 ?_
                        refine lv_bipush (v := iZ (16)) hx hb dM_shift_274 (by decide) ?_
                        refine zr_idiv hx hb (by unfold zi; omega) (by unfold zi; omega) (by omega) (by omega) dM_shift_276 ?_
                        rw [show (((aa : Nat) : Int) / 16 : Int) = ((aa / 16 : Nat) : Int) by omega]
                        refine zm_ld (k := 4) (i := aa / 16) hx hb hK hZ (by decide) (by show aa / 16 < 264; omega) dM_shift_277 ?_
                        rw [← hD]
                        refine lv_iload hx hb dM_shift_278 (lv_at hl 2 rfl) ?_
                        refine lv_lload hx hb dM_shift_280 (lv_at hl 1 rfl) ?_
                        refine zr_l2i hx hb dM_shift_282 ?_
                        refine lv_bipush (v := iZ (16)) hx hb dM_shift_283 (by decide) ?_
                        refine zr_irem hx hb (by unfold zi; omega) (by unfold zi; omega) (by omega) (by omega) dM_shift_285 ?_
                        refine zc_i (y := iZ ((aa % 16 : Nat) : Int)) (congrArg iZ (by omega)) ?_
                        refine W.eq (g2 := F0 m 286 ls (.int (iZ ((aa % 16 : Nat) : Int)) :: .int (iZ ((b.toNat : Nat) : Int)) :: .int (iZ (((D (aa / 16) : Nat) : Int))) :: [.int (iZ (((aa / 16 : Nat) : Int))), .ref (B + 4)])) (by rw [bN_tb] <;> rfl) ?_
                        refine zr_ishl hx hb (Nat.lt_of_le_of_lt (Nat.mul_le_mul hbl hpj) (by decide)) (by omega) dM_shift_286 ?_
                        refine zr_iorN hx hb dM_shift_287 ?_
                        rw [or_bitb hbt]
                        rw [show (((D (aa / 16) + b.toNat * 2 ^ (aa % 16) : Nat) : Int) : Int) = ((D (aa / 16) + b.toNat * 2 ^ (aa % 16) : Nat) : Int) from rfl]
                        refine zm_st (k := 4) (i := aa / 16) (x := D (aa / 16) + b.toNat * 2 ^ (aa % 16)) hx hb hK hZ hS (by decide) (by show aa / 16 < 264; omega) (bit_ltb hbt hdi (by omega) b) dM_shift_288 (fun H locs hZ hS => ?_)
                        obtain ⟨w9, hw9⟩ : ∃ q, q = mup w 4 (aa / 16) (D (aa / 16) + b.toNat * 2 ^ (aa % 16)) := ⟨_, rfl⟩
                        rw [← hw9] at hZ
                        have ho : ∀ j, j ≠ 4 → w9 j = w j := fun j hj => by rw [hw9, mup_ne _ _ _ hj]
                        have hwk : w9 4 = va_up (w 4) (aa / 16) (D (aa / 16) + b.toNat * 2 ^ (aa % 16)) := by rw [hw9, mup_at]
                        clear hw9
                        obtain ⟨w, hww⟩ : ∃ q, q = w9 := ⟨_, rfl⟩
                        rw [← hww] at hZ ho hwk
                        clear hww
                        replace hMR : MR w rg := MR_same (ho 2 (by decide)) (ho 3 (by decide)) hMR
                        replace hdr : ∀ i, i < ct → w 1 i = f i := fun i hi => by rw [ho 1 (by decide)]; exact hdr i hi
                        replace hpa : ∀ i, i < 2049 - st → w 14 i = g (st + i) := fun i hi => by rw [ho 14 (by decide)]; exact hpa i hi
                        replace hv_9 : rv (w 9) 264 = X := by rw [ho 9 (by decide)]; exact hv_9
                        have hnv : rv (w 4) 264 = sdV X N (i + 1) := by rw [hwk, ← hD, rv_bit (by omega), h4v, sd_V2 hge, haa, ← hbv]
                        refine lv_iinc (v := iZ (↑i + 1)) (lv' := [(5, .int (iZ (↑i + 1))), (4, .int (iZ (bZ (sdS X N (i + 1))))), (7, .long (lZ (((aa : Nat) : Int)))), (6, .int (iZ (bZ b))), (0, .ref (B)), (2, .int (iZ (-((N : Nat) : Int)))), (3, .int (iZ (↑nto)))]) hx hb dM_shift_289 hl (k := 6) rfl (iZ_add _ _) (by decide) rfl (fun ls hl => ?_)
                        refine lv_goto (tgt := 189) hx hb dM_shift_292 (by decide) ?_
                        rw [show (↑i + 1 : Int) = ↑(i + 1) from by omega] at hl
                        exact ihL189 (i + 1) w _ _ _ (by omega) (by omega) (hnv) hMR hdr hpa hv_9 hZ hS (lv_sub hl [4, 5, 6, 1, 0] rfl)
                    · have hlt9 : i < N := by omega
                      have hs1 : sdS X N (i + 1) = true := by rw [sd_S1 hlt9, ← hbv, hb1, Bool.or_true]
                      refine lv_iconst (v := iZ (1)) hx hb dM_shift_243 (by decide) ?_
                      refine lv_goto (tgt := 248) hx hb dM_shift_244 (by decide) ?_
                      refine zc_i (y := iZ (bZ (sdS X N (i + 1)))) (congrArg iZ (by rw [hs1]; rfl)) ?_
                      refine lv_istore (lv' := [(4, .int (iZ (bZ (sdS X N (i + 1))))), (7, .long (lZ (↑i + (-((N : Nat) : Int))))), (6, .int (iZ (bZ b))), (0, .ref (B)), (2, .int (iZ (-((N : Nat) : Int)))), (3, .int (iZ (↑nto))), (5, .int (iZ (↑i)))]) hx hb dM_shift_248 hl (by decide) rfl (fun ls hl => ?_)
                      refine lv_lload hx hb dM_shift_250 (lv_at hl 1 rfl) ?_
                      refine lv_lconst (v := lZ (0)) hx hb dM_shift_252 (by decide) ?_
                      refine zr_lcmp_lt (tgt := 289) hx hb (by unfold zl; omega) (by unfold zl; omega) dM_shift_253 dM_shift_254 (by decide) (fun c_15 => ?_) (fun c_15 => ?_)
                      · have hnv : rv (w 4) 264 = sdV X N (i + 1) := by rw [sd_V1 (by omega)]; exact h4v
                        refine lv_iinc (v := iZ (↑i + 1)) (lv' := [(5, .int (iZ (↑i + 1))), (4, .int (iZ (bZ (sdS X N (i + 1))))), (7, .long (lZ (↑i + (-((N : Nat) : Int))))), (6, .int (iZ (bZ b))), (0, .ref (B)), (2, .int (iZ (-((N : Nat) : Int)))), (3, .int (iZ (↑nto)))]) hx hb dM_shift_289 hl (k := 6) rfl (iZ_add _ _) (by decide) rfl (fun ls hl => ?_)
                        refine lv_goto (tgt := 189) hx hb dM_shift_292 (by decide) ?_
                        rw [show (↑i + 1 : Int) = ↑(i + 1) from by omega] at hl
                        exact ihL189 (i + 1) w _ _ _ (by omega) (by omega) (hnv) hMR hdr hpa hv_9 hZ hS (lv_sub hl [4, 5, 6, 1, 0] rfl)
                      · have hge : N ≤ i := by omega
                        obtain ⟨aa, haa⟩ : ∃ q, q = i - N := ⟨_, rfl⟩
                        have haa2 : ((i : Nat) : Int) + -((N : Nat) : Int) = ((aa : Nat) : Int) := by omega
                        rw [show (↑i + (-((N : Nat) : Int)) : Int) = ((aa : Nat) : Int) from by omega] at hl
                        have hal : aa < 2048 := by omega
                        obtain ⟨D, hD⟩ : ∃ d, d = w 4 := ⟨_, rfl⟩
                        rw [← hD] at h4v
                        have hdD : ∀ q, D q < 65536 := by rw [hD]; exact hZ.2 4
                        have hbt : (D (aa / 16)).testBit (aa % 16) = false := by rw [← rv_tb hdD (n := 264) (by omega), h4v]; exact Nat.testBit_lt_two_pow (by rw [haa]; exact sd_lt hge)
                        have hdi := hdD (aa / 16)
                        have hpj : 2 ^ (aa % 16) ≤ 2 ^ 15 := Nat.pow_le_pow_right (by decide) (by omega)
                        have hbl : b.toNat ≤ 1 := Bool.toNat_le b
                        refine lv_aload_n hx hb dM_shift_257 rfl (lv_at hl 3 rfl) ?_
                        refine zm_row hx hb ht hown hK hZ tw_683 dM_shift_258 ?_
                        refine lv_lload hx hb dM_shift_261 (lv_at hl 1 rfl) ?_
                        refine zr_l2i hx hb dM_shift_263 ?_
                        refine lv_bipush (v := iZ (16)) hx hb dM_shift_264 (by decide) ?_
                        refine zr_idiv hx hb (by unfold zi; omega) (by unfold zi; omega) (by omega) (by omega) dM_shift_266 ?_
                        refine lv_aload_n hx hb dM_shift_267 rfl (lv_at hl 3 rfl) ?_
                        refine zm_row hx hb ht hown hK hZ tw_683 dM_shift_268 ?_
                        refine lv_lload hx hb dM_shift_271 (lv_at hl 1 rfl) ?_
                        refine zr_l2i hx hb dM_shift_273 ?_
                        refine lv_bipush (v := iZ (16)) hx hb dM_shift_274 (by decide) ?_
                        refine zr_idiv hx hb (by unfold zi; omega) (by unfold zi; omega) (by omega) (by omega) dM_shift_276 ?_
                        rw [show (((aa : Nat) : Int) / 16 : Int) = ((aa / 16 : Nat) : Int) by omega]
                        refine zm_ld (k := 4) (i := aa / 16) hx hb hK hZ (by decide) (by show aa / 16 < 264; omega) dM_shift_277 ?_
                        rw [← hD]
                        refine lv_iload hx hb dM_shift_278 (lv_at hl 2 rfl) ?_
                        refine lv_lload hx hb dM_shift_280 (lv_at hl 1 rfl) ?_
                        refine zr_l2i hx hb dM_shift_282 ?_
                        refine lv_bipush (v := iZ (16)) hx hb dM_shift_283 (by decide) ?_
                        refine zr_irem hx hb (by unfold zi; omega) (by unfold zi; omega) (by omega) (by omega) dM_shift_285 ?_
                        refine zc_i (y := iZ ((aa % 16 : Nat) : Int)) (congrArg iZ (by omega)) ?_
                        refine W.eq (g2 := F0 m 286 ls (.int (iZ ((aa % 16 : Nat) : Int)) :: .int (iZ ((b.toNat : Nat) : Int)) :: .int (iZ (((D (aa / 16) : Nat) : Int))) :: [.int (iZ (((aa / 16 : Nat) : Int))), .ref (B + 4)])) (by rw [bN_tb] <;> rfl) ?_
                        refine zr_ishl hx hb (Nat.lt_of_le_of_lt (Nat.mul_le_mul hbl hpj) (by decide)) (by omega) dM_shift_286 ?_
                        refine zr_iorN hx hb dM_shift_287 ?_
                        rw [or_bitb hbt]
                        rw [show (((D (aa / 16) + b.toNat * 2 ^ (aa % 16) : Nat) : Int) : Int) = ((D (aa / 16) + b.toNat * 2 ^ (aa % 16) : Nat) : Int) from rfl]
                        refine zm_st (k := 4) (i := aa / 16) (x := D (aa / 16) + b.toNat * 2 ^ (aa % 16)) hx hb hK hZ hS (by decide) (by show aa / 16 < 264; omega) (bit_ltb hbt hdi (by omega) b) dM_shift_288 (fun H locs hZ hS => ?_)
                        obtain ⟨w9, hw9⟩ : ∃ q, q = mup w 4 (aa / 16) (D (aa / 16) + b.toNat * 2 ^ (aa % 16)) := ⟨_, rfl⟩
                        rw [← hw9] at hZ
                        have ho : ∀ j, j ≠ 4 → w9 j = w j := fun j hj => by rw [hw9, mup_ne _ _ _ hj]
                        have hwk : w9 4 = va_up (w 4) (aa / 16) (D (aa / 16) + b.toNat * 2 ^ (aa % 16)) := by rw [hw9, mup_at]
                        clear hw9
                        obtain ⟨w, hww⟩ : ∃ q, q = w9 := ⟨_, rfl⟩
                        rw [← hww] at hZ ho hwk
                        clear hww
                        replace hMR : MR w rg := MR_same (ho 2 (by decide)) (ho 3 (by decide)) hMR
                        replace hdr : ∀ i, i < ct → w 1 i = f i := fun i hi => by rw [ho 1 (by decide)]; exact hdr i hi
                        replace hpa : ∀ i, i < 2049 - st → w 14 i = g (st + i) := fun i hi => by rw [ho 14 (by decide)]; exact hpa i hi
                        replace hv_9 : rv (w 9) 264 = X := by rw [ho 9 (by decide)]; exact hv_9
                        have hnv : rv (w 4) 264 = sdV X N (i + 1) := by rw [hwk, ← hD, rv_bit (by omega), h4v, sd_V2 hge, haa, ← hbv]
                        refine lv_iinc (v := iZ (↑i + 1)) (lv' := [(5, .int (iZ (↑i + 1))), (4, .int (iZ (bZ (sdS X N (i + 1))))), (7, .long (lZ (((aa : Nat) : Int)))), (6, .int (iZ (bZ b))), (0, .ref (B)), (2, .int (iZ (-((N : Nat) : Int)))), (3, .int (iZ (↑nto)))]) hx hb dM_shift_289 hl (k := 6) rfl (iZ_add _ _) (by decide) rfl (fun ls hl => ?_)
                        refine lv_goto (tgt := 189) hx hb dM_shift_292 (by decide) ?_
                        rw [show (↑i + 1 : Int) = ↑(i + 1) from by omega] at hl
                        exact ihL189 (i + 1) w _ _ _ (by omega) (by omega) (hnv) hMR hdr hpa hv_9 hZ hS (lv_sub hl [4, 5, 6, 1, 0] rfl)
          exact L189 _ 0 w _ _ _ (Nat.lt_succ_self _) (by decide) (by rw [(sd_0 X N).1, rv_drop (m := 0) (Nat.zero_le _) (fun q _ hq => hcl4 q hq)]; rfl) hMR hdr hpa hv_9 hZ hS (lv_sub hl [2, 4, 5, 1, 0] rfl)
        · obtain ⟨nn, rfl⟩ : ∃ n9 : Nat, n = (n9 : Int) := ⟨n.toNat, by omega⟩
          refine lv_iload_n hx hb dM_shift_66 rfl (lv_at hl 2 rfl) ?_
          refine lv_sipush (v := iZ (2048)) hx hb dM_shift_67 (by decide) ?_
          refine zr_icmp_le (tgt := 89) hx hb (by unfold zi; omega) (by unfold zi; omega) dM_shift_70 (by decide) (fun c_16 => ?_) (fun c_16 => ?_)
          · have hnn : nn ≤ 2048 ∨ X = 0 := Or.inl (by omega)
            clear hv_4
            refine lv_iconst (v := iZ (0)) hx hb dM_shift_89 (by decide) ?_
            refine lv_istore (lv' := [(4, .int (iZ (0))), (0, .ref (B)), (1, .int (iZ (↑na))), (2, .int (iZ (↑nn))), (3, .int (iZ (↑nto)))]) hx hb dM_shift_90 hl (by decide) rfl (fun ls hl => ?_)
            have L92 : ∀ (fu : Nat) (i : Nat) (w : Nat → Nat → Nat) (H : Heap) (locs : List Loc) (ls : Array Slot), 128 - i < fu → (i ≤ 128) → (rv (w 4) 264 = X % rP i * 2 ^ nn) → (∀ q, i + nn / 16 < q → q < 264 → w 4 q = 0) → (nn ≤ 2048 → w 4 (i + nn / 16) < 2 ^ (nn % 16)) → (MR w rg) → (∀ i, i < ct → w 1 i = f i) → (∀ i, i < 2049 - st → w 14 i = g (st + i)) → (rv (w 9) 264 = X) → zMD E B w (0, 2, ct, decide (rg na < 0), fb, sb9, (2049 - st)) H → va_S (zA B 15) s.heap H locs → lv_has ls 9 [(0, .ref (B)), (2, .int (iZ (↑nn))), (3, .int (iZ (↑nto))), (4, .int (iZ (↑i)))] → W p l e R s m args below meth c H locs 0 0 Q (F0 m 92 ls []) := by
              intro fu
              induction fu with
              | zero => intro i w H locs ls hm; exact absurd hm (Nat.not_lt_zero _)
              | succ fu ihL92 =>
                intro i w H locs ls hm hi h4v h4z h4l hMR hdr hpa hv_9 hZ hS hl
                refine lv_iload hx hb dM_shift_92 (lv_at hl 3 rfl) ?_
                refine lv_aload_n hx hb dM_shift_94 rfl (lv_at hl 0 rfl) ?_
                refine zm_one hx hb ht hown hK hZ tw_689 dM_shift_95 ?_
                refine zcS_i (P' := fun (u : (Nat → Nat → Nat) × zC) H => zMD E B u.1 u.2 H) 1 (As := [.ref (B + 9)]) (rest := [.int (iZ (↑i))]) ⟨hx, hb, hml, hown, ht⟩ (mM_size l E B w (0, 2, ct, decide (rg na < 0), fb, sb9, (2049 - st)) 9 (by decide) 264 rfl (by decide)) tw_774 tw_772 tw_773 tw_6 qM_size (by rw [hR]; decide) hZ hK hl.1 rfl rfl (Nat.le_of_ble_eq_true rfl) dM_shift_98 ⟨Nat.zero_le _, Nat.zero_le _⟩ hS (fun r9 u H locs hp hZ _ hS => ?_)
                obtain ⟨hu9, n2, hr1, hn21, hn22, hn23⟩ := hp
                subst hr1
                rw [hu9] at hZ
                dsimp only at hZ
                clear hu9
                have hn2z : ∀ q, n2 ≤ q ↔ X < rP q := fun q => by rw [← hv_9]; exact size_le (hZ.2 9) hn21 hn22 hn23 q
                refine zr_icmp_ge (tgt := 177) hx hb (by unfold zi; omega) (by unfold zi; omega) dM_shift_101 (by decide) (fun c_17 => ?_) (fun c_17 => ?_)
                · have hXi : X % rP i = X := Nat.mod_eq_of_lt ((hn2z i).mp (by omega))
                  rw [hXi] at h4v
                  have hv_4 := h4v
                  refine lv_aload_n hx hb dM_shift_177 rfl (lv_at hl 0 rfl) ?_
                  refine lv_iload_n hx hb dM_shift_178 rfl (lv_at hl 2 rfl) ?_
                  refine zcV_v (P' := fun (u : (Nat → Nat → Nat) × zC) H => zMD E B u.1 u.2 H) 1 (As := [.int (iZ (↑nto))]) (rest := []) rfl ⟨hx, hb, hml, hown, ht⟩ (mM_store l E B w (0, 2, ct, decide (rg na < 0), fb, sb9, (2049 - st)) nto h10_nto rg hMR) tw_779 tw_776 tw_778 tp_12 tw_6 qM_store (by rw [hR]; decide) (zm_recv hK hZ) hZ hK hl.1 rfl rfl (Nat.le_of_ble_eq_true rfl) dM_shift_179 ⟨Nat.zero_le _, Nat.zero_le _⟩ hS (fun u H locs hp hZ _ hS => ?_)
                  obtain ⟨w, q9⟩ := u
                  obtain ⟨ho, hbig, hfit⟩ := hp
                  dsimp only at *
                  rw [hv_4] at hbig hfit
                  have hzz : (if decide (rg na < 0) = true then -(((X * 2 ^ nn : Nat) : Int)) else ((X * 2 ^ nn : Nat) : Int)) = shz (rg na) ↑nn := by rw [hX]; exact shz_up (rg na) nn
                  have hzX : zX (shz (rg na) ↑nn) ↔ X * 2 ^ nn < rP 128 := by rw [← hzz]; exact zX_if
                  rcases Nat.lt_or_ge (X * 2 ^ nn) (rP 128) with hX | hX
                  · obtain ⟨hq9, hMR9⟩ := hfit hX
                    rw [hq9] at hZ
                    rw [hzz] at hMR9
                    have hzx := hzX.mpr hX
                    replace hdr : ∀ i, i < ct → w 1 i = f i := fun i hi => by rw [ho 1 (by decide) (by decide)]; exact hdr i hi
                    replace hpa : ∀ i, i < 2049 - st → w 14 i = g (st + i) := fun i hi => by rw [ho 14 (by decide) (by decide)]; exact hpa i hi
                    replace hv_9 : rv (w 9) 264 = X := by rw [ho 9 (by decide) (by decide)]; exact hv_9
                    replace hv_4 : rv (w 4) 264 = X * 2 ^ nn := by rw [ho 4 (by decide) (by decide)]; exact hv_4
                    have hMR : MR w (va_up rg nto (shz (rg na) ↑nn)) := hMR9
                    exact hend 182 () _ _ _ dM_shift_182 trivial (by rcases SP_g hsp ⟨hk_na, hk_nto⟩ with ⟨_, h, _⟩ | ⟨_, h, _⟩ | ⟨hk, _, hs⟩; exact h.elim; exact absurd hzx h; subst hk; subst hs; exact ⟨hok1, w, (0, 2, ct, decide (rg na < 0), fb, sb9, (2049 - st)), hZ, ⟨hMR, rfl, hdr, rfl, hpa⟩, rfl⟩) hS
                  · obtain ⟨e1, e2⟩ := Prod.mk.inj (hbig hX)
                    rw [e2] at hZ
                    rw [← e1] at hMR hdr hpa
                    have hzx : ¬ zX (shz (rg na) ↑nn) := fun h9 => absurd (hzX.mp h9) (Nat.not_lt.mpr hX)
                    have hZ : zMD E B w (2, 2, ct, decide (rg na < 0), fb, sb9, (2049 - st)) H := hZ
                    exact hend 182 () _ _ _ dM_shift_182 trivial (by rcases SP_g hsp ⟨hk_na, hk_nto⟩ with ⟨_, h, _⟩ | ⟨hk, h, hs⟩ | ⟨_, h, _⟩; exact h.elim; subst hk; subst hs; exact ⟨hok1, w, (2, 2, ct, decide (rg na < 0), fb, sb9, (2049 - st)), hZ, ⟨hMR, rfl, hdr, rfl, hpa⟩, rfl⟩; exact absurd h hzx) hS
                · have hn2 := (hn2z 128).mpr hX128
                  have hX0 : X ≠ 0 := fun h9 => absurd ((hn2z 0).mpr (by rw [h9]; exact rP_pos 0)) (by omega)
                  have hnn2 : nn ≤ 2048 := by omega
                  obtain ⟨D, hD⟩ : ∃ d, d = w 4 := ⟨_, rfl⟩
                  rw [← hD] at h4v h4z h4l
                  have hdD : ∀ q, D q < 65536 := by rw [hD]; exact hZ.2 4
                  refine lv_aload_n hx hb dM_shift_104 rfl (lv_at hl 0 rfl) ?_
                  refine zm_one hx hb ht hown hK hZ tw_689 dM_shift_105 ?_
                  refine lv_iload hx hb dM_shift_108 (lv_at hl 3 rfl) ?_
                  refine zm_ld (k := 9) (i := i) hx hb hK hZ (by decide) (by show i < 264; omega) dM_shift_110 ?_
                  obtain ⟨o, ho9⟩ : ∃ q, q = w 9 i := ⟨_, rfl⟩
                  rw [← ho9]
                  have hol : o < 65536 := by rw [ho9]; exact hZ.2 9 i
                  have hoX : X / rP i % 65536 = o := by rw [ho9, ← hv_9]; exact rv_digit (hZ.2 9) (by omega)
                  have hso := shu_or (o := o) (r := nn % 16) (A := D (i + nn / 16)) hol (by omega) (h4l hnn2)
                  have hnew0 : rv (va_up (va_up D (i + nn / 16) (D (i + nn / 16) + o * 2 ^ (nn % 16) % 65536)) (i + nn / 16 + 1) (o * 2 ^ (nn % 16) / 65536)) 264 = X % rP (i + 1) * 2 ^ nn := by rw [shu_step (by omega) (h4z _ (by omega) (by omega)), h4v]; exact shu_fin hoX
                  obtain ⟨xv, hxv⟩ : ∃ q, q = o * 2 ^ (nn % 16) := ⟨_, rfl⟩
                  obtain ⟨A, hA⟩ : ∃ q, q = D (i + nn / 16) := ⟨_, rfl⟩
                  rw [← hxv, ← hA] at hso hnew0
                  have hxl : xv < 4294967296 := by rw [hxv]; exact Nat.lt_of_lt_of_le (Nat.mul_lt_mul_of_lt_of_le hol (Nat.pow_le_pow_right (by decide) (show nn % 16 ≤ 15 by omega)) (by decide)) (by decide)
                  refine zr_i2l hx hb (by unfold zi; omega) dM_shift_111 ?_
                  refine lv_iload_n hx hb dM_shift_112 rfl (lv_at hl 1 rfl) ?_
                  refine lv_bipush (v := iZ (16)) hx hb dM_shift_113 (by decide) ?_
                  refine zr_irem hx hb (by unfold zi; omega) (by unfold zi; omega) (by omega) (by omega) dM_shift_115 ?_
                  refine zc_i (y := iZ (((nn % 16 : Nat) : Int))) (congrArg iZ (by omega)) ?_
                  refine zr_lshl (n := nn % 16) (P := ((2 ^ (nn % 16) : Nat) : Int)) hx hb (by omega) (rfl) dM_shift_116 ?_
                  refine zc_l (y := lZ (((xv : Nat) : Int))) (congrArg lZ (by rw [hxv]; exact (Int.natCast_mul _ _).symm)) ?_
                  refine lv_lstore (lv' := [(5, .long (lZ (((xv : Nat) : Int)))), (0, .ref (B)), (2, .int (iZ (↑nn))), (3, .int (iZ (↑nto))), (4, .int (iZ (↑i)))]) hx hb dM_shift_117 hl (by decide) rfl (fun ls hl => ?_)
                  refine lv_aload_n hx hb dM_shift_119 rfl (lv_at hl 1 rfl) ?_
                  refine zm_row hx hb ht hown hK hZ tw_683 dM_shift_120 ?_
                  refine lv_iload hx hb dM_shift_123 (lv_at hl 4 rfl) ?_
                  refine lv_iload_n hx hb dM_shift_125 rfl (lv_at hl 2 rfl) ?_
                  refine lv_bipush (v := iZ (16)) hx hb dM_shift_126 (by decide) ?_
                  refine zr_idiv hx hb (by unfold zi; omega) (by unfold zi; omega) (by omega) (by omega) dM_shift_128 ?_
                  refine zr_iadd hx hb dM_shift_129 ?_
                  refine lv_aload_n hx hb dM_shift_130 rfl (lv_at hl 1 rfl) ?_
                  refine zm_row hx hb ht hown hK hZ tw_683 dM_shift_131 ?_
                  refine lv_iload hx hb dM_shift_134 (lv_at hl 4 rfl) ?_
                  refine lv_iload_n hx hb dM_shift_136 rfl (lv_at hl 2 rfl) ?_
                  refine lv_bipush (v := iZ (16)) hx hb dM_shift_137 (by decide) ?_
                  refine zr_idiv hx hb (by unfold zi; omega) (by unfold zi; omega) (by omega) (by omega) dM_shift_139 ?_
                  refine zr_iadd hx hb dM_shift_140 ?_
                  rw [show (↑i + (↑nn / 16) : Int) = ((i + nn / 16 : Nat) : Int) by omega]
                  refine zm_ld (k := 4) (i := i + nn / 16) hx hb hK hZ (by decide) (by show i + nn / 16 < 264; omega) dM_shift_141 ?_
                  rw [← hD, ← hA]
                  refine lv_lload hx hb dM_shift_142 (lv_at hl 0 rfl) ?_
                  refine lv_ldc2 (v := lZ (65535)) hx hb hown (ht _ tw_775) dM_shift_144 ?_
                  refine zr_mask (n := 16) (P := 65536) hx hb (Nat.le_of_ble_eq_true rfl) p2_16 m2_16 dM_shift_147 ?_
                  refine zr_l2i hx hb dM_shift_148 ?_
                  refine zc_i (y := iZ ((xv % 65536 : Nat) : Int)) (congrArg iZ (by omega)) ?_
                  refine zr_iorN hx hb dM_shift_149 ?_
                  rw [hso.1]
                  rw [show (((A + xv % 65536 : Nat) : Int) : Int) = ((A + xv % 65536 : Nat) : Int) from rfl]
                  refine zm_st (k := 4) (i := i + nn / 16) (x := A + xv % 65536) hx hb hK hZ hS (by decide) (by show i + nn / 16 < 264; omega) (hso.2.1) dM_shift_150 (fun H locs hZ hS => ?_)
                  obtain ⟨w9, hw9⟩ : ∃ q, q = mup w 4 (i + nn / 16) (A + xv % 65536) := ⟨_, rfl⟩
                  rw [← hw9] at hZ
                  have ho : ∀ j, j ≠ 4 → w9 j = w j := fun j hj => by rw [hw9, mup_ne _ _ _ hj]
                  have hwk : w9 4 = va_up (w 4) (i + nn / 16) (A + xv % 65536) := by rw [hw9, mup_at]
                  clear hw9
                  obtain ⟨w, hww⟩ : ∃ q, q = w9 := ⟨_, rfl⟩
                  rw [← hww] at hZ ho hwk
                  clear hww
                  replace hMR : MR w rg := MR_same (ho 2 (by decide)) (ho 3 (by decide)) hMR
                  replace hdr : ∀ i, i < ct → w 1 i = f i := fun i hi => by rw [ho 1 (by decide)]; exact hdr i hi
                  replace hpa : ∀ i, i < 2049 - st → w 14 i = g (st + i) := fun i hi => by rw [ho 14 (by decide)]; exact hpa i hi
                  replace hv_9 : rv (w 9) 264 = X := by rw [ho 9 (by decide)]; exact hv_9
                  have hwk1 : w 4 = va_up D (i + nn / 16) (A + xv % 65536) := by rw [hwk, hD]
                  refine lv_aload_n hx hb dM_shift_151 rfl (lv_at hl 1 rfl) ?_
                  refine zm_row hx hb ht hown hK hZ tw_683 dM_shift_152 ?_
                  refine lv_iload hx hb dM_shift_155 (lv_at hl 4 rfl) ?_
                  refine lv_iload_n hx hb dM_shift_157 rfl (lv_at hl 2 rfl) ?_
                  refine lv_bipush (v := iZ (16)) hx hb dM_shift_158 (by decide) ?_
                  refine zr_idiv hx hb (by unfold zi; omega) (by unfold zi; omega) (by omega) (by omega) dM_shift_160 ?_
                  refine zr_iadd hx hb dM_shift_161 ?_
                  refine lv_iconst (v := iZ (1)) hx hb dM_shift_162 (by decide) ?_
                  refine zr_iadd hx hb dM_shift_163 ?_
                  refine lv_lload hx hb dM_shift_164 (lv_at hl 0 rfl) ?_
                  refine lv_bipush (v := iZ (16)) hx hb dM_shift_166 (by decide) ?_
                  refine zr_lshr (n := 16) (P := 65536) hx hb (by unfold zl; omega) (Nat.le_of_ble_eq_true rfl) (p2_16) dM_shift_168 ?_
                  refine zr_l2i hx hb dM_shift_169 ?_
                  rw [show (((xv : Nat) : Int) / 65536 : Int) = ((xv / 65536 : Nat) : Int) from by omega]
                  rw [show ((↑i + (↑nn / 16)) + 1 : Int) = ((i + nn / 16 + 1 : Nat) : Int) by omega]
                  refine zm_st (k := 4) (i := i + nn / 16 + 1) (x := xv / 65536) hx hb hK hZ hS (by decide) (by show i + nn / 16 + 1 < 264; omega) (by omega) dM_shift_170 (fun H locs hZ hS => ?_)
                  obtain ⟨w9, hw9⟩ : ∃ q, q = mup w 4 (i + nn / 16 + 1) (xv / 65536) := ⟨_, rfl⟩
                  rw [← hw9] at hZ
                  have ho : ∀ j, j ≠ 4 → w9 j = w j := fun j hj => by rw [hw9, mup_ne _ _ _ hj]
                  have hwk : w9 4 = va_up (w 4) (i + nn / 16 + 1) (xv / 65536) := by rw [hw9, mup_at]
                  clear hw9
                  obtain ⟨w, hww⟩ : ∃ q, q = w9 := ⟨_, rfl⟩
                  rw [← hww] at hZ ho hwk
                  clear hww
                  replace hMR : MR w rg := MR_same (ho 2 (by decide)) (ho 3 (by decide)) hMR
                  replace hdr : ∀ i, i < ct → w 1 i = f i := fun i hi => by rw [ho 1 (by decide)]; exact hdr i hi
                  replace hpa : ∀ i, i < 2049 - st → w 14 i = g (st + i) := fun i hi => by rw [ho 14 (by decide)]; exact hpa i hi
                  replace hv_9 : rv (w 9) 264 = X := by rw [ho 9 (by decide)]; exact hv_9
                  have hwk2 : w 4 = va_up (va_up D (i + nn / 16) (A + xv % 65536)) (i + nn / 16 + 1) (xv / 65536) := by rw [hwk, hwk1]
                  have hnew : rv (w 4) 264 = X % rP (i + 1) * 2 ^ nn := by rw [hwk2]; exact hnew0
                  refine lv_iinc (v := iZ (↑i + 1)) (lv' := [(4, .int (iZ (↑i + 1))), (5, .long (lZ (((xv : Nat) : Int)))), (0, .ref (B)), (2, .int (iZ (↑nn))), (3, .int (iZ (↑nto)))]) hx hb dM_shift_171 hl (k := 4) rfl (iZ_add _ _) (by decide) rfl (fun ls hl => ?_)
                  refine lv_goto (tgt := 92) hx hb dM_shift_174 (by decide) ?_
                  rw [show (↑i + 1 : Int) = ↑(i + 1) from by omega] at hl
                  exact ihL92 (i + 1) w _ _ _ (by omega) (by omega) (hnew) (fun q h1 h2 => by rw [hwk2, va_up_ne _ _ (by omega), va_up_ne _ _ (by omega)]; exact h4z q (by omega) h2) (fun _ => by rw [hwk2, show i + 1 + nn / 16 = i + nn / 16 + 1 by omega, va_up_self]; exact hso.2.2) hMR hdr hpa hv_9 hZ hS (lv_sub hl [2, 3, 4, 0] rfl)
            exact L92 _ 0 w _ _ _ (Nat.lt_succ_self _) (by decide) (by rw [rv_drop (m := 0) (Nat.zero_le _) (fun q _ hq => hcl4 q hq), rP_two, Nat.mul_zero, Nat.pow_zero, Nat.mod_one, Nat.zero_mul]; rfl) (fun q _ hq => hcl4 q hq) (fun h9 => by rw [hcl4 _ (by omega)]; exact Nat.pow_pos (by decide)) hMR hdr hpa hv_9 hZ hS (lv_sub hl [1, 3, 4, 0] rfl)
          · refine lv_aload_n hx hb dM_shift_73 rfl (lv_at hl 0 rfl) ?_
            refine zm_one hx hb ht hown hK hZ tw_689 dM_shift_74 ?_
            refine zcS_i (P' := fun (u : (Nat → Nat → Nat) × zC) H => zMD E B u.1 u.2 H) 1 (As := [.ref (B + 9)]) (rest := []) ⟨hx, hb, hml, hown, ht⟩ (mM_size l E B w (0, 2, ct, (decide (rg na < 0)), fb, sb9, (2049 - st)) 9 (by decide) 264 rfl (by decide)) tw_774 tw_772 tw_773 tw_6 qM_size (by rw [hR]; decide) hZ hK hl.1 rfl rfl (Nat.le_of_ble_eq_true rfl) dM_shift_77 ⟨Nat.zero_le _, Nat.zero_le _⟩ hS (fun r9 u H locs hp hZ _ hS => ?_)
            obtain ⟨hu9, n1, hr1, hn11, hn12, hn13⟩ := hp
            subst hr1
            rw [hu9] at hZ
            dsimp only at hZ
            clear hu9
            have hn1z : ∀ q, n1 ≤ q ↔ X < rP q := fun q => by rw [← hv_9]; exact size_le (hZ.2 9) hn11 hn12 hn13 q
            refine zr_if_le (tgt := 89) hx hb (by unfold zi; omega) dM_shift_80 (by decide) (fun c_18 => ?_) (fun c_18 => ?_)
            · have hnn : nn ≤ 2048 ∨ X = 0 := Or.inr (by have h9 := (hn1z 0).mp (by omega); rw [rP_two] at h9; omega)
              clear hv_4
              refine lv_iconst (v := iZ (0)) hx hb dM_shift_89 (by decide) ?_
              refine lv_istore (lv' := [(4, .int (iZ (0))), (0, .ref (B)), (1, .int (iZ (↑na))), (2, .int (iZ (↑nn))), (3, .int (iZ (↑nto)))]) hx hb dM_shift_90 hl (by decide) rfl (fun ls hl => ?_)
              have L92 : ∀ (fu : Nat) (i : Nat) (w : Nat → Nat → Nat) (H : Heap) (locs : List Loc) (ls : Array Slot), 128 - i < fu → (i ≤ 128) → (rv (w 4) 264 = X % rP i * 2 ^ nn) → (∀ q, i + nn / 16 < q → q < 264 → w 4 q = 0) → (nn ≤ 2048 → w 4 (i + nn / 16) < 2 ^ (nn % 16)) → (MR w rg) → (∀ i, i < ct → w 1 i = f i) → (∀ i, i < 2049 - st → w 14 i = g (st + i)) → (rv (w 9) 264 = X) → zMD E B w (0, 2, ct, decide (rg na < 0), fb, sb9, (2049 - st)) H → va_S (zA B 15) s.heap H locs → lv_has ls 9 [(0, .ref (B)), (2, .int (iZ (↑nn))), (3, .int (iZ (↑nto))), (4, .int (iZ (↑i)))] → W p l e R s m args below meth c H locs 0 0 Q (F0 m 92 ls []) := by
                intro fu
                induction fu with
                | zero => intro i w H locs ls hm; exact absurd hm (Nat.not_lt_zero _)
                | succ fu ihL92 =>
                  intro i w H locs ls hm hi h4v h4z h4l hMR hdr hpa hv_9 hZ hS hl
                  refine lv_iload hx hb dM_shift_92 (lv_at hl 3 rfl) ?_
                  refine lv_aload_n hx hb dM_shift_94 rfl (lv_at hl 0 rfl) ?_
                  refine zm_one hx hb ht hown hK hZ tw_689 dM_shift_95 ?_
                  refine zcS_i (P' := fun (u : (Nat → Nat → Nat) × zC) H => zMD E B u.1 u.2 H) 1 (As := [.ref (B + 9)]) (rest := [.int (iZ (↑i))]) ⟨hx, hb, hml, hown, ht⟩ (mM_size l E B w (0, 2, ct, decide (rg na < 0), fb, sb9, (2049 - st)) 9 (by decide) 264 rfl (by decide)) tw_774 tw_772 tw_773 tw_6 qM_size (by rw [hR]; decide) hZ hK hl.1 rfl rfl (Nat.le_of_ble_eq_true rfl) dM_shift_98 ⟨Nat.zero_le _, Nat.zero_le _⟩ hS (fun r9 u H locs hp hZ _ hS => ?_)
                  obtain ⟨hu9, n2, hr1, hn21, hn22, hn23⟩ := hp
                  subst hr1
                  rw [hu9] at hZ
                  dsimp only at hZ
                  clear hu9
                  have hn2z : ∀ q, n2 ≤ q ↔ X < rP q := fun q => by rw [← hv_9]; exact size_le (hZ.2 9) hn21 hn22 hn23 q
                  refine zr_icmp_ge (tgt := 177) hx hb (by unfold zi; omega) (by unfold zi; omega) dM_shift_101 (by decide) (fun c_19 => ?_) (fun c_19 => ?_)
                  · have hXi : X % rP i = X := Nat.mod_eq_of_lt ((hn2z i).mp (by omega))
                    rw [hXi] at h4v
                    have hv_4 := h4v
                    refine lv_aload_n hx hb dM_shift_177 rfl (lv_at hl 0 rfl) ?_
                    refine lv_iload_n hx hb dM_shift_178 rfl (lv_at hl 2 rfl) ?_
                    refine zcV_v (P' := fun (u : (Nat → Nat → Nat) × zC) H => zMD E B u.1 u.2 H) 1 (As := [.int (iZ (↑nto))]) (rest := []) rfl ⟨hx, hb, hml, hown, ht⟩ (mM_store l E B w (0, 2, ct, decide (rg na < 0), fb, sb9, (2049 - st)) nto h10_nto rg hMR) tw_779 tw_776 tw_778 tp_12 tw_6 qM_store (by rw [hR]; decide) (zm_recv hK hZ) hZ hK hl.1 rfl rfl (Nat.le_of_ble_eq_true rfl) dM_shift_179 ⟨Nat.zero_le _, Nat.zero_le _⟩ hS (fun u H locs hp hZ _ hS => ?_)
                    obtain ⟨w, q9⟩ := u
                    obtain ⟨ho, hbig, hfit⟩ := hp
                    dsimp only at *
                    rw [hv_4] at hbig hfit
                    have hzz : (if decide (rg na < 0) = true then -(((X * 2 ^ nn : Nat) : Int)) else ((X * 2 ^ nn : Nat) : Int)) = shz (rg na) ↑nn := by rw [hX]; exact shz_up (rg na) nn
                    have hzX : zX (shz (rg na) ↑nn) ↔ X * 2 ^ nn < rP 128 := by rw [← hzz]; exact zX_if
                    rcases Nat.lt_or_ge (X * 2 ^ nn) (rP 128) with hX | hX
                    · obtain ⟨hq9, hMR9⟩ := hfit hX
                      rw [hq9] at hZ
                      rw [hzz] at hMR9
                      have hzx := hzX.mpr hX
                      replace hdr : ∀ i, i < ct → w 1 i = f i := fun i hi => by rw [ho 1 (by decide) (by decide)]; exact hdr i hi
                      replace hpa : ∀ i, i < 2049 - st → w 14 i = g (st + i) := fun i hi => by rw [ho 14 (by decide) (by decide)]; exact hpa i hi
                      replace hv_9 : rv (w 9) 264 = X := by rw [ho 9 (by decide) (by decide)]; exact hv_9
                      replace hv_4 : rv (w 4) 264 = X * 2 ^ nn := by rw [ho 4 (by decide) (by decide)]; exact hv_4
                      have hMR : MR w (va_up rg nto (shz (rg na) ↑nn)) := hMR9
                      exact hend 182 () _ _ _ dM_shift_182 trivial (by rcases SP_g hsp ⟨hk_na, hk_nto⟩ with ⟨_, h, _⟩ | ⟨_, h, _⟩ | ⟨hk, _, hs⟩; exact h.elim; exact absurd hzx h; subst hk; subst hs; exact ⟨hok1, w, (0, 2, ct, decide (rg na < 0), fb, sb9, (2049 - st)), hZ, ⟨hMR, rfl, hdr, rfl, hpa⟩, rfl⟩) hS
                    · obtain ⟨e1, e2⟩ := Prod.mk.inj (hbig hX)
                      rw [e2] at hZ
                      rw [← e1] at hMR hdr hpa
                      have hzx : ¬ zX (shz (rg na) ↑nn) := fun h9 => absurd (hzX.mp h9) (Nat.not_lt.mpr hX)
                      have hZ : zMD E B w (2, 2, ct, decide (rg na < 0), fb, sb9, (2049 - st)) H := hZ
                      exact hend 182 () _ _ _ dM_shift_182 trivial (by rcases SP_g hsp ⟨hk_na, hk_nto⟩ with ⟨_, h, _⟩ | ⟨hk, h, hs⟩ | ⟨_, h, _⟩; exact h.elim; subst hk; subst hs; exact ⟨hok1, w, (2, 2, ct, decide (rg na < 0), fb, sb9, (2049 - st)), hZ, ⟨hMR, rfl, hdr, rfl, hpa⟩, rfl⟩; exact absurd h hzx) hS
                  · have hn2 := (hn2z 128).mpr hX128
                    have hX0 : X ≠ 0 := fun h9 => absurd ((hn2z 0).mpr (by rw [h9]; exact rP_pos 0)) (by omega)
                    have hnn2 : nn ≤ 2048 := by omega
                    obtain ⟨D, hD⟩ : ∃ d, d = w 4 := ⟨_, rfl⟩
                    rw [← hD] at h4v h4z h4l
                    have hdD : ∀ q, D q < 65536 := by rw [hD]; exact hZ.2 4
                    refine lv_aload_n hx hb dM_shift_104 rfl (lv_at hl 0 rfl) ?_
                    refine zm_one hx hb ht hown hK hZ tw_689 dM_shift_105 ?_
                    refine lv_iload hx hb dM_shift_108 (lv_at hl 3 rfl) ?_
                    refine zm_ld (k := 9) (i := i) hx hb hK hZ (by decide) (by show i < 264; omega) dM_shift_110 ?_
                    obtain ⟨o, ho9⟩ : ∃ q, q = w 9 i := ⟨_, rfl⟩
                    rw [← ho9]
                    have hol : o < 65536 := by rw [ho9]; exact hZ.2 9 i
                    have hoX : X / rP i % 65536 = o := by rw [ho9, ← hv_9]; exact rv_digit (hZ.2 9) (by omega)
                    have hso := shu_or (o := o) (r := nn % 16) (A := D (i + nn / 16)) hol (by omega) (h4l hnn2)
                    have hnew0 : rv (va_up (va_up D (i + nn / 16) (D (i + nn / 16) + o * 2 ^ (nn % 16) % 65536)) (i + nn / 16 + 1) (o * 2 ^ (nn % 16) / 65536)) 264 = X % rP (i + 1) * 2 ^ nn := by rw [shu_step (by omega) (h4z _ (by omega) (by omega)), h4v]; exact shu_fin hoX
                    obtain ⟨xv, hxv⟩ : ∃ q, q = o * 2 ^ (nn % 16) := ⟨_, rfl⟩
                    obtain ⟨A, hA⟩ : ∃ q, q = D (i + nn / 16) := ⟨_, rfl⟩
                    rw [← hxv, ← hA] at hso hnew0
                    have hxl : xv < 4294967296 := by rw [hxv]; exact Nat.lt_of_lt_of_le (Nat.mul_lt_mul_of_lt_of_le hol (Nat.pow_le_pow_right (by decide) (show nn % 16 ≤ 15 by omega)) (by decide)) (by decide)
                    refine zr_i2l hx hb (by unfold zi; omega) dM_shift_111 ?_
                    refine lv_iload_n hx hb dM_shift_112 rfl (lv_at hl 1 rfl) ?_
                    refine lv_bipush (v := iZ (16)) hx hb dM_shift_113 (by decide) ?_
                    refine zr_irem hx hb (by unfold zi; omega) (by unfold zi; omega) (by omega) (by omega) dM_shift_115 ?_
                    refine zc_i (y := iZ (((nn % 16 : Nat) : Int))) (congrArg iZ (by omega)) ?_
                    refine zr_lshl (n := nn % 16) (P := ((2 ^ (nn % 16) : Nat) : Int)) hx hb (by omega) (rfl) dM_shift_116 ?_
                    refine zc_l (y := lZ (((xv : Nat) : Int))) (congrArg lZ (by rw [hxv]; exact (Int.natCast_mul _ _).symm)) ?_
                    refine lv_lstore (lv' := [(5, .long (lZ (((xv : Nat) : Int)))), (0, .ref (B)), (2, .int (iZ (↑nn))), (3, .int (iZ (↑nto))), (4, .int (iZ (↑i)))]) hx hb dM_shift_117 hl (by decide) rfl (fun ls hl => ?_)
                    refine lv_aload_n hx hb dM_shift_119 rfl (lv_at hl 1 rfl) ?_
                    refine zm_row hx hb ht hown hK hZ tw_683 dM_shift_120 ?_
                    refine lv_iload hx hb dM_shift_123 (lv_at hl 4 rfl) ?_
                    refine lv_iload_n hx hb dM_shift_125 rfl (lv_at hl 2 rfl) ?_
                    refine lv_bipush (v := iZ (16)) hx hb dM_shift_126 (by decide) ?_
                    refine zr_idiv hx hb (by unfold zi; omega) (by unfold zi; omega) (by omega) (by omega) dM_shift_128 ?_
                    refine zr_iadd hx hb dM_shift_129 ?_
                    refine lv_aload_n hx hb dM_shift_130 rfl (lv_at hl 1 rfl) ?_
                    refine zm_row hx hb ht hown hK hZ tw_683 dM_shift_131 ?_
                    refine lv_iload hx hb dM_shift_134 (lv_at hl 4 rfl) ?_
                    refine lv_iload_n hx hb dM_shift_136 rfl (lv_at hl 2 rfl) ?_
                    refine lv_bipush (v := iZ (16)) hx hb dM_shift_137 (by decide) ?_
                    refine zr_idiv hx hb (by unfold zi; omega) (by unfold zi; omega) (by omega) (by omega) dM_shift_139 ?_
                    refine zr_iadd hx hb dM_shift_140 ?_
                    rw [show (↑i + (↑nn / 16) : Int) = ((i + nn / 16 : Nat) : Int) by omega]
                    refine zm_ld (k := 4) (i := i + nn / 16) hx hb hK hZ (by decide) (by show i + nn / 16 < 264; omega) dM_shift_141 ?_
                    rw [← hD, ← hA]
                    refine lv_lload hx hb dM_shift_142 (lv_at hl 0 rfl) ?_
                    refine lv_ldc2 (v := lZ (65535)) hx hb hown (ht _ tw_775) dM_shift_144 ?_
                    refine zr_mask (n := 16) (P := 65536) hx hb (Nat.le_of_ble_eq_true rfl) p2_16 m2_16 dM_shift_147 ?_
                    refine zr_l2i hx hb dM_shift_148 ?_
                    refine zc_i (y := iZ ((xv % 65536 : Nat) : Int)) (congrArg iZ (by omega)) ?_
                    refine zr_iorN hx hb dM_shift_149 ?_
                    rw [hso.1]
                    rw [show (((A + xv % 65536 : Nat) : Int) : Int) = ((A + xv % 65536 : Nat) : Int) from rfl]
                    refine zm_st (k := 4) (i := i + nn / 16) (x := A + xv % 65536) hx hb hK hZ hS (by decide) (by show i + nn / 16 < 264; omega) (hso.2.1) dM_shift_150 (fun H locs hZ hS => ?_)
                    obtain ⟨w9, hw9⟩ : ∃ q, q = mup w 4 (i + nn / 16) (A + xv % 65536) := ⟨_, rfl⟩
                    rw [← hw9] at hZ
                    have ho : ∀ j, j ≠ 4 → w9 j = w j := fun j hj => by rw [hw9, mup_ne _ _ _ hj]
                    have hwk : w9 4 = va_up (w 4) (i + nn / 16) (A + xv % 65536) := by rw [hw9, mup_at]
                    clear hw9
                    obtain ⟨w, hww⟩ : ∃ q, q = w9 := ⟨_, rfl⟩
                    rw [← hww] at hZ ho hwk
                    clear hww
                    replace hMR : MR w rg := MR_same (ho 2 (by decide)) (ho 3 (by decide)) hMR
                    replace hdr : ∀ i, i < ct → w 1 i = f i := fun i hi => by rw [ho 1 (by decide)]; exact hdr i hi
                    replace hpa : ∀ i, i < 2049 - st → w 14 i = g (st + i) := fun i hi => by rw [ho 14 (by decide)]; exact hpa i hi
                    replace hv_9 : rv (w 9) 264 = X := by rw [ho 9 (by decide)]; exact hv_9
                    have hwk1 : w 4 = va_up D (i + nn / 16) (A + xv % 65536) := by rw [hwk, hD]
                    refine lv_aload_n hx hb dM_shift_151 rfl (lv_at hl 1 rfl) ?_
                    refine zm_row hx hb ht hown hK hZ tw_683 dM_shift_152 ?_
                    refine lv_iload hx hb dM_shift_155 (lv_at hl 4 rfl) ?_
                    refine lv_iload_n hx hb dM_shift_157 rfl (lv_at hl 2 rfl) ?_
                    refine lv_bipush (v := iZ (16)) hx hb dM_shift_158 (by decide) ?_
                    refine zr_idiv hx hb (by unfold zi; omega) (by unfold zi; omega) (by omega) (by omega) dM_shift_160 ?_
                    refine zr_iadd hx hb dM_shift_161 ?_
                    refine lv_iconst (v := iZ (1)) hx hb dM_shift_162 (by decide) ?_
                    refine zr_iadd hx hb dM_shift_163 ?_
                    refine lv_lload hx hb dM_shift_164 (lv_at hl 0 rfl) ?_
                    refine lv_bipush (v := iZ (16)) hx hb dM_shift_166 (by decide) ?_
                    refine zr_lshr (n := 16) (P := 65536) hx hb (by unfold zl; omega) (Nat.le_of_ble_eq_true rfl) (p2_16) dM_shift_168 ?_
                    refine zr_l2i hx hb dM_shift_169 ?_
                    rw [show (((xv : Nat) : Int) / 65536 : Int) = ((xv / 65536 : Nat) : Int) from by omega]
                    rw [show ((↑i + (↑nn / 16)) + 1 : Int) = ((i + nn / 16 + 1 : Nat) : Int) by omega]
                    refine zm_st (k := 4) (i := i + nn / 16 + 1) (x := xv / 65536) hx hb hK hZ hS (by decide) (by show i + nn / 16 + 1 < 264; omega) (by omega) dM_shift_170 (fun H locs hZ hS => ?_)
                    obtain ⟨w9, hw9⟩ : ∃ q, q = mup w 4 (i + nn / 16 + 1) (xv / 65536) := ⟨_, rfl⟩
                    rw [← hw9] at hZ
                    have ho : ∀ j, j ≠ 4 → w9 j = w j := fun j hj => by rw [hw9, mup_ne _ _ _ hj]
                    have hwk : w9 4 = va_up (w 4) (i + nn / 16 + 1) (xv / 65536) := by rw [hw9, mup_at]
                    clear hw9
                    obtain ⟨w, hww⟩ : ∃ q, q = w9 := ⟨_, rfl⟩
                    rw [← hww] at hZ ho hwk
                    clear hww
                    replace hMR : MR w rg := MR_same (ho 2 (by decide)) (ho 3 (by decide)) hMR
                    replace hdr : ∀ i, i < ct → w 1 i = f i := fun i hi => by rw [ho 1 (by decide)]; exact hdr i hi
                    replace hpa : ∀ i, i < 2049 - st → w 14 i = g (st + i) := fun i hi => by rw [ho 14 (by decide)]; exact hpa i hi
                    replace hv_9 : rv (w 9) 264 = X := by rw [ho 9 (by decide)]; exact hv_9
                    have hwk2 : w 4 = va_up (va_up D (i + nn / 16) (A + xv % 65536)) (i + nn / 16 + 1) (xv / 65536) := by rw [hwk, hwk1]
                    have hnew : rv (w 4) 264 = X % rP (i + 1) * 2 ^ nn := by rw [hwk2]; exact hnew0
                    refine lv_iinc (v := iZ (↑i + 1)) (lv' := [(4, .int (iZ (↑i + 1))), (5, .long (lZ (((xv : Nat) : Int)))), (0, .ref (B)), (2, .int (iZ (↑nn))), (3, .int (iZ (↑nto)))]) hx hb dM_shift_171 hl (k := 4) rfl (iZ_add _ _) (by decide) rfl (fun ls hl => ?_)
                    refine lv_goto (tgt := 92) hx hb dM_shift_174 (by decide) ?_
                    rw [show (↑i + 1 : Int) = ↑(i + 1) from by omega] at hl
                    exact ihL92 (i + 1) w _ _ _ (by omega) (by omega) (hnew) (fun q h1 h2 => by rw [hwk2, va_up_ne _ _ (by omega), va_up_ne _ _ (by omega)]; exact h4z q (by omega) h2) (fun _ => by rw [hwk2, show i + 1 + nn / 16 = i + nn / 16 + 1 by omega, va_up_self]; exact hso.2.2) hMR hdr hpa hv_9 hZ hS (lv_sub hl [2, 3, 4, 0] rfl)
              exact L92 _ 0 w _ _ _ (Nat.lt_succ_self _) (by decide) (by rw [rv_drop (m := 0) (Nat.zero_le _) (fun q _ hq => hcl4 q hq), rP_two, Nat.mul_zero, Nat.pow_zero, Nat.mod_one, Nat.zero_mul]; rfl) (fun q _ hq => hcl4 q hq) (fun h9 => by rw [hcl4 _ (by omega)]; exact Nat.pow_pos (by decide)) hMR hdr hpa hv_9 hZ hS (lv_sub hl [1, 3, 4, 0] rfl)
            · have hX0 : X ≠ 0 := fun h9 => absurd ((hn1z 0).mpr (by rw [h9]; exact rP_pos 0)) (by omega)
              have hzx : ¬ zX (shz (rg na) nn) := shz_over (by omega) (by omega)
              refine lv_aload_n hx hb dM_shift_83 rfl (lv_at hl 0 rfl) ?_
              refine lv_iconst (v := iZ (2)) hx hb dM_shift_84 (by decide) ?_
              refine W.eq (g2 := F0 m 85 ls ([.int (iZ ((2 : Nat) : Int)), .ref B])) rfl ?_
              refine zm_put_thrown (x := 2) hx hb ht hown hK hZ hS tw_677 dM_shift_85 (fun H locs hZ hS => ?_)
              have hZ : zMD E B w (2, 2, ct, (decide (rg na < 0)), fb, sb9, (2049 - st)) H := hZ
              exact hend 88 () _ _ _ dM_shift_88 trivial (by rcases SP_g hsp ⟨hk_na, hk_nto⟩ with ⟨_, h, _⟩ | ⟨hk, h, hs⟩ | ⟨_, h, _⟩; exact h.elim; subst hk; subst hs; exact ⟨hok1, w, (2, 2, ct, (decide (rg na < 0)), fb, sb9, (2049 - st)), hZ, ⟨hMR, rfl, hdr, rfl, hpa⟩, rfl⟩; exact absurd h hzx) hS
      · exact absurd c_4 (by decide)
    · have hng : ¬ rok to := hbto.mp (bZ_nf.mp (by assumption))
      refine lv_iconst (v := iZ (1)) hx hb dM_shift_15 (by decide) ?_
      refine lv_goto (tgt := 20) hx hb dM_shift_16 (by decide) ?_
      refine W.eq (g2 := F0 m 20 ls ([.int (iZ ((1 : Nat) : Int)), .ref B])) rfl ?_
      refine zm_put_thrown (x := 1) hx hb ht hown hK hZ hS tw_677 dM_shift_20 (fun H locs hZ hS => ?_)
      have hZ : zMD E B w0 (1, fa, ct, be, fb, sb9, (2049 - st)) H := hZ
      refine lv_aload_n hx hb dM_shift_23 rfl (lv_at hl 0 rfl) ?_
      refine zm_thrown hx hb ht hown hK hZ tw_677 dM_shift_24 ?_
      refine zc_i (y := iZ (((1 : Nat) : Int))) rfl ?_
      refine zr_if_le (tgt := 31) hx hb (by decide) dM_shift_27 (by decide) (fun c_20 => ?_) (fun c_20 => ?_)
      · exact absurd c_20 (by decide)
      · exact hend 30 () _ _ _ dM_shift_30 trivial (by obtain ⟨hk, hs⟩ := SP_1 hsp (fun h9 => hng (by first | exact h9 | exact h9.1 | exact h9.2.1 | exact h9.2.2.1 | exact h9.2.2.2.1 | exact h9.2.2.2 | exact h9.2.2 | exact h9.2)); subst hk; subst hs; exact ⟨hok1, w0, (1, fa, ct, be, fb, sb9, (2049 - st)), hZ, ⟨hMR, rfl, hdr, rfl, hpa⟩, rfl⟩) hS
