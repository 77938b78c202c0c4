theorem txt_snoc (st : Nat) (g : Nat → Nat) (i : Int) (n : Nat) : txt st g i (n + 1) = txt st g i n + chat st g (i + n) * 256 ^ n := by
  induction n generalizing i with
  | zero => show 0 * 256 + chat st g i = 0 + chat st g (i + 0) * 1; rw [Int.add_zero]; omega
  | succ n ih =>
    show txt st g (i + 1) (n + 1) * 256 + chat st g i = (txt st g (i + 1) n * 256 + chat st g i) + chat st g (i + (n + 1 : Nat)) * 256 ^ (n + 1)
    rw [ih, Nat.pow_succ, show i + 1 + (n : Int) = i + (n + 1 : Nat) by omega, Nat.add_mul, Nat.mul_assoc]
    omega
theorem txt_lt2 {st : Nat} {g : Nat → Nat} (hg : ∀ i, g i < 128) (i : Int) (n : Nat) : txt st g i n < 256 ^ n := by
  cases n with
  | zero => exact Nat.one_pos
  | succ n =>
    have h1 := txt_lt (st := st) hg i n
    rw [Nat.pow_succ]
    generalize 256 ^ n = P at *
    omega
set_option maxHeartbeats 4000000 in
set_option maxRecDepth 100000 in
theorem mM_text (l : Launch) (E : zE) (B : Nat) (rg : Nat → Int) (ct : Nat) (f : Nat → Nat) (st : Nat) (g : Nat → Nat) (t0 : Nat) (i : Int) (hz_i : zi i) (k : Nat) (σ1 : zS) (hok1 : okS σ1) (hsp : SP (True) (False) (False) (fun τ => τ = (rg, ct, f, st, g)) (rg, ct, f, st, g) k σ1) :
    Met l yM_text (zws yM_text cM_text 7 (some .long)) { frames := 0, cells := 0, slots := 0, locals := 0 } (zPc E (zQM E B (rg, ct, f, st, g) t0) [.ref (B), .int (iZ (i))]) (va_Ql (fun (r : Int64) (u : Unit) => r = lZ ↑(txt st g i 8)) (fun u t => zQM E B σ1 (tc k) t.heap ∧ zK E t) (zA B 15)) 0 0 (zA B 15) := by
  refine zof_l (P' := fun (u : Unit) H => zQM E B σ1 (tc k) H) (by decide) (Nat.le_of_ble_eq_true rfl) fun p e R s m args below meth c Q ls hR hx hb hml ht hown hK hZ hl hend => ?_
  have hS : va_S (zA B 15) s.heap s.heap [] := va_S.rf
  have hown : s.vm.findClass "WholeDeskModel" = some m.cls := hown
  have hl : lv_has ls 7 [(0, .ref (B)), (1, .int (iZ (i)))] := hl
  obtain ⟨hok, w0, ⟨th, fa, le, be, fb, sb9, pr⟩, hZ, ⟨hMR, hle, hdr, hpr, hpa⟩, hth⟩ := hZ
  dsimp only at *
  rw [hle, hpr] at hZ
  clear hth hle hpr le pr
  refine lv_aload_n hx hb dM_text_0 rfl (lv_at hl 0 rfl) ?_
  refine lv_iconst (v := iZ (0)) hx hb dM_text_1 (by decide) ?_
  refine W.eq (g2 := F0 m 2 ls ([.int (iZ ((0 : Nat) : Int)), .ref B])) rfl ?_
  refine zm_put_thrown (x := 0) hx hb ht hown hK hZ hS tw_677 dM_text_2 (fun H locs hZ hS => ?_)
  have hZ : zMD E B w0 (0, fa, ct, be, fb, sb9, (2049 - st)) H := hZ
  refine lv_lconst (v := lZ (0)) hx hb dM_text_5 (by decide) ?_
  refine lv_lstore_n (lv' := [(2, .long (lZ (0))), (0, .ref (B)), (1, .int (iZ (i)))]) hx hb dM_text_6 rfl hl (by decide) rfl (fun ls hl => ?_)
  refine lv_iconst (v := iZ (0)) hx hb dM_text_7 (by decide) ?_
  refine lv_istore (lv' := [(4, .int (iZ (0))), (2, .long (lZ (0))), (0, .ref (B)), (1, .int (iZ (i)))]) hx hb dM_text_8 hl (by decide) rfl (fun ls hl => ?_)
  have L10 : ∀ (fu : Nat) (q : Nat) (w : Nat → Nat → Nat) (H : Heap) (locs : List Loc) (ls : Array Slot), 8 - q < fu → (q ≤ 8) → (MR w rg) → (∀ i, i < ct → w 1 i = f i) → (∀ i, i < 2049 - st → w 14 i = g (st + i)) → zMD E B w (0, fa, ct, be, fb, sb9, (2049 - st)) H → va_S (zA B 15) s.heap H locs → lv_has ls 7 [(0, .ref (B)), (1, .int (iZ (i))), (2, .long (lZ (((txt st g i q : Nat) : Int)))), (4, .int (iZ (↑q)))] → W p l e R s m args below meth c H locs 0 0 Q (F0 m 10 ls []) := by
    intro fu
    induction fu with
    | zero => intro q w H locs ls hm; exact absurd hm (Nat.not_lt_zero _)
    | succ fu ihL10 =>
      intro q w H locs ls hm hq hMR hdr hpa hZ hS hl
      refine lv_iload hx hb dM_text_10 (lv_at hl 3 rfl) ?_
      refine lv_bipush (v := iZ (8)) hx hb dM_text_12 (by decide) ?_
      refine zr_icmp_ge (tgt := 71) hx hb (by unfold zi; omega) (by unfold zi; omega) dM_text_14 (by decide) (fun c_1 => ?_) (fun c_1 => ?_)
      · have hq8 : q = 8 := by omega
        rw [hq8] at hl
        refine lv_lload_n hx hb dM_text_71 rfl (lv_at hl 2 rfl) ?_
        exact hend 72 _ () _ _ _ dM_text_72 (rfl) (by rcases SP_g hsp trivial with ⟨_, h, _⟩ | ⟨_, h, _⟩ | ⟨hk, hs⟩; exact h.elim; exact h.elim; subst hk; subst hs; exact ⟨hok1, w, (0, fa, ct, be, fb, sb9, (2049 - st)), hZ, ⟨hMR, rfl, hdr, rfl, hpa⟩, rfl⟩) hS
      · have hzi := hz_i
        unfold zi at hzi
        have htl : txt st g i q < 256 ^ q := txt_lt2 hok.2.2.2.2 i q
        have hts := txt_snoc st g i q
        have hcl : chat st g (i + ↑q) < 128 := chat_lt hok.2.2.2.2 _
        have hst9 : st ≤ 2049 := hok.2.2.2.1
        refine lv_iload_n hx hb dM_text_17 rfl (lv_at hl 1 rfl) ?_
        refine zr_i2l hx hb (hz_i) dM_text_18 ?_
        refine lv_iload hx hb dM_text_19 (lv_at hl 3 rfl) ?_
        refine zr_i2l hx hb (by unfold zi; omega) dM_text_21 ?_
        refine zr_ladd hx hb dM_text_22 ?_
        refine lv_lstore (lv' := [(5, .long (lZ (i + ↑q))), (0, .ref (B)), (1, .int (iZ (i))), (2, .long (lZ (((txt st g i q : Nat) : Int)))), (4, .int (iZ (↑q)))]) hx hb dM_text_23 hl (by decide) rfl (fun ls hl => ?_)
        refine lv_lload hx hb dM_text_25 (lv_at hl 0 rfl) ?_
        refine lv_lconst (v := lZ (0)) hx hb dM_text_27 (by decide) ?_
        refine zr_lcmp_lt (tgt := 63) hx hb (by unfold zl; omega) (by unfold zl; omega) dM_text_28 dM_text_29 (by decide) (fun c_2 => ?_) (fun c_2 => ?_)
        · refine lv_lload_n hx hb dM_text_63 rfl (lv_at hl 3 rfl) ?_
          have hch0 : chat st g (i + ↑q) = 0 := by unfold chat; rw [if_neg (by omega)]
          refine zc_l (y := lZ ((txt st g i (q + 1) : Nat) : Int)) (congrArg lZ (by rw [hts, hch0, Nat.zero_mul, Nat.add_zero])) ?_
          refine lv_lstore_n (lv' := [(2, .long (lZ (((txt st g i (q + 1) : Nat) : Int)))), (5, .long (lZ (i + ↑q))), (0, .ref (B)), (1, .int (iZ (i))), (4, .int (iZ (↑q)))]) hx hb dM_text_64 rfl hl (by decide) rfl (fun ls hl => ?_)
          refine lv_iinc (v := iZ (↑q + 1)) (lv' := [(4, .int (iZ (↑q + 1))), (2, .long (lZ (((txt st g i (q + 1) : Nat) : Int)))), (5, .long (lZ (i + ↑q))), (0, .ref (B)), (1, .int (iZ (i)))]) hx hb dM_text_65 hl (k := 4) rfl (iZ_add _ _) (by decide) rfl (fun ls hl => ?_)
          refine lv_goto (tgt := 10) hx hb dM_text_68 (by decide) ?_
          rw [show (↑q + 1 : Int) = ↑(q + 1) from by omega] at hl
          exact ihL10 (q + 1) w _ _ _ (by omega) (by omega) hMR hdr hpa  hZ hS (lv_sub hl [3, 4, 1, 0] rfl)
        · refine lv_lload hx hb dM_text_32 (lv_at hl 0 rfl) ?_
          refine lv_aload_n hx hb dM_text_34 rfl (lv_at hl 1 rfl) ?_
          refine zm_printed hx hb ht hown hK hZ tw_697 dM_text_35 ?_
          refine zc_i (y := iZ (↑(2049 - st))) rfl ?_
          refine zr_i2l hx hb (by unfold zi; omega) dM_text_38 ?_
          refine zr_lcmp_ge (tgt := 63) hx hb (by unfold zl; omega) (by unfold zl; omega) dM_text_39 dM_text_40 (by decide) (fun c_3 => ?_) (fun c_3 => ?_)
          · refine lv_lload_n hx hb dM_text_63 rfl (lv_at hl 3 rfl) ?_
            have hch0 : chat st g (i + ↑q) = 0 := by unfold chat; rw [if_neg (by omega)]
            refine zc_l (y := lZ ((txt st g i (q + 1) : Nat) : Int)) (congrArg lZ (by rw [hts, hch0, Nat.zero_mul, Nat.add_zero])) ?_
            refine lv_lstore_n (lv' := [(2, .long (lZ (((txt st g i (q + 1) : Nat) : Int)))), (5, .long (lZ (i + ↑q))), (0, .ref (B)), (1, .int (iZ (i))), (4, .int (iZ (↑q)))]) hx hb dM_text_64 rfl hl (by decide) rfl (fun ls hl => ?_)
            refine lv_iinc (v := iZ (↑q + 1)) (lv' := [(4, .int (iZ (↑q + 1))), (2, .long (lZ (((txt st g i (q + 1) : Nat) : Int)))), (5, .long (lZ (i + ↑q))), (0, .ref (B)), (1, .int (iZ (i)))]) hx hb dM_text_65 hl (k := 4) rfl (iZ_add _ _) (by decide) rfl (fun ls hl => ?_)
            refine lv_goto (tgt := 10) hx hb dM_text_68 (by decide) ?_
            rw [show (↑q + 1 : Int) = ↑(q + 1) from by omega] at hl
            exact ihL10 (q + 1) w _ _ _ (by omega) (by omega) hMR hdr hpa  hZ hS (lv_sub hl [3, 4, 1, 0] rfl)
          · refine lv_lload_n hx hb dM_text_43 rfl (lv_at hl 3 rfl) ?_
            refine lv_aload_n hx hb dM_text_44 rfl (lv_at hl 1 rfl) ?_
            refine zm_paper hx hb ht hown hK hZ tw_696 dM_text_45 ?_
            refine lv_lload hx hb dM_text_48 (lv_at hl 0 rfl) ?_
            refine zr_l2i hx hb dM_text_50 ?_
            rw [show (i + ↑q : Int) = (((i + ↑q).toNat : Nat) : Int) by omega]
            refine zm_ld (k := 14) (i := (i + ↑q).toNat) hx hb hK hZ (by decide) (by show (i + ↑q).toNat < 2100; omega) dM_text_51 ?_
            rw [hpa _ (by omega)]
            have hch : g (st + (i + ↑q).toNat) = chat st g (i + ↑q) := by unfold chat; rw [if_pos (by omega)]
            rw [hch]
            refine zr_i2l hx hb (by unfold zi; omega) dM_text_52 ?_
            refine lv_bipush (v := iZ (8)) hx hb dM_text_53 (by decide) ?_
            refine lv_iload hx hb dM_text_55 (lv_at hl 4 rfl) ?_
            refine zr_imul hx hb dM_text_57 ?_
            refine zc_i (y := iZ (↑(8 * q))) (congrArg iZ (by omega)) ?_
            refine zr_lshl (n := 8 * q) (P := ((256 ^ q : Nat) : Int)) hx hb (by omega) (by rw [show 256 = 2 ^ 8 from rfl, ← Nat.pow_mul]) dM_text_58 ?_
            refine zc_l (y := lZ ((chat st g (i + ↑q) * 256 ^ q : Nat) : Int)) (congrArg lZ (by rw [Int.natCast_mul])) ?_
            have hp8 : (256 : Nat) ^ q ≤ 256 ^ 7 := Nat.pow_le_pow_right (by decide) (by omega)
            have hpm : chat st g (i + ↑q) * 256 ^ q ≤ 127 * 256 ^ 7 := Nat.mul_le_mul (by omega) hp8
            refine zn_lor hx hb (a := txt st g i q) (b := chat st g (i + ↑q) * 256 ^ q) dM_text_59 ?_
            refine zc_l (y := lZ ((txt st g i (q + 1) : Nat) : Int)) (congrArg lZ (by rw [hts, Nat.or_comm, Nat.mul_comm, show 256 ^ q = 2 ^ (8 * q) by rw [show 256 = 2 ^ 8 from rfl, ← Nat.pow_mul], ← Nat.two_pow_add_eq_or_of_lt (by rw [show 2 ^ (8 * q) = 256 ^ q by rw [show 256 = 2 ^ 8 from rfl, ← Nat.pow_mul]]; exact htl)]; omega)) ?_
            refine lv_goto (tgt := 64) hx hb dM_text_60 (by decide) ?_
            refine lv_lstore_n (lv' := [(2, .long (lZ (((txt st g i (q + 1) : Nat) : Int)))), (5, .long (lZ (i + ↑q))), (0, .ref (B)), (1, .int (iZ (i))), (4, .int (iZ (↑q)))]) hx hb dM_text_64 rfl hl (by decide) rfl (fun ls hl => ?_)
            refine lv_iinc (v := iZ (↑q + 1)) (lv' := [(4, .int (iZ (↑q + 1))), (2, .long (lZ (((txt st g i (q + 1) : Nat) : Int)))), (5, .long (lZ (i + ↑q))), (0, .ref (B)), (1, .int (iZ (i)))]) hx hb dM_text_65 hl (k := 4) rfl (iZ_add _ _) (by decide) rfl (fun ls hl => ?_)
            refine lv_goto (tgt := 10) hx hb dM_text_68 (by decide) ?_
            rw [show (↑q + 1 : Int) = ↑(q + 1) from by omega] at hl
            exact ihL10 (q + 1) w _ _ _ (by omega) (by omega) hMR hdr hpa  hZ hS (lv_sub hl [3, 4, 1, 0] rfl)
  rw [show (0 : Int) = ((txt st g i 0 : Nat) : Int) from rfl] at hl
  exact L10 _ 0 w0 _ _ _ (Nat.lt_succ_self _) (Nat.zero_le _) hMR hdr hpa  hZ hS (lv_sub hl [2, 3, 1, 0] rfl)

theorem byt_sar {z : Int} (hz : zl z) {k : Nat} (hk : k < 8) : z / ((2 ^ (8 * k) : Nat) : Int) % 256 = ((byt z k : Nat) : Int) := by
  unfold byt
  unfold zl at hz
  have h7 : k = 0 ∨ k = 1 ∨ k = 2 ∨ k = 3 ∨ k = 4 ∨ k = 5 ∨ k = 6 ∨ k = 7 := by omega
  rcases h7 with h | h | h | h | h | h | h | h <;> subst h <;> simp only [Nat.reduceMul, Nat.reducePow] <;> omega
set_option maxHeartbeats 4000000 in
set_option maxRecDepth 100000 in
theorem mM_write (l : Launch) (E : zE) (B : Nat) (rg : Nat → Int) (ct : Nat) (f : Nat → Nat) (st : Nat) (g : Nat → Nat) (t0 : Nat) (n : Int) (hz_n : zi n) (z : Int) (hzl : zl z) (k : Nat) (σ1 : zS) (hok1 : okS σ1) (hsp : SP (1 ≤ n ∧ n ≤ 8) (False) (False) (fun τ => τ = if ct + n.toNat ≤ 2100 then (rg, ct + n.toNat, wrt f ct n.toNat z, st, g) else (rg, ct, f, st, g)) (rg, ct, f, st, g) k σ1) :
    Met l yM_write (zws yM_write cM_write 5 (some .int)) { frames := 0, cells := 0, slots := 0, locals := 0 } (zPc E (zQM E B (rg, ct, f, st, g) t0) [.ref (B), .int (iZ (n)), .long (lZ (z))]) (va_Qi (fun (r : Int32) (u : Unit) => k = 0 → r = iZ (if ct + n.toNat ≤ 2100 then ((ct + n.toNat : Nat) : Int) else -1)) (fun u t => zQM E B σ1 (tc k) t.heap ∧ zK E t) (zA B 15)) 0 0 (zA B 15) := by
  refine zof_i (P' := fun (u : Unit) H => zQM E B σ1 (tc k) H) (by decide) (Nat.le_of_ble_eq_true rfl) fun p e R s m args below meth c Q ls hR hx hb hml ht hown hK hZ hl hend => ?_
  have hS : va_S (zA B 15) s.heap s.heap [] := va_S.rf
  have hown : s.vm.findClass "WholeDeskModel" = some m.cls := hown
  have hl : lv_has ls 5 [(0, .ref (B)), (1, .int (iZ (n))), (2, .long (lZ (z)))] := hl
  obtain ⟨hok, w0, ⟨th, fa, le, be, fb, sb9, pr⟩, hZ, ⟨hMR, hle, hdr, hpr, hpa⟩, hth⟩ := hZ
  dsimp only at *
  rw [hle, hpr] at hZ
  clear hth hle hpr le pr
  refine lv_aload_n hx hb dM_write_0 rfl (lv_at hl 0 rfl) ?_
  refine lv_iload_n hx hb dM_write_1 rfl (lv_at hl 1 rfl) ?_
  refine lv_iconst (v := iZ (1)) hx hb dM_write_2 (by decide) ?_
  refine zr_icmp_lt (tgt := 12) hx hb hz_n (by unfold zi; omega) dM_write_3 (by decide) (fun c_1 => ?_) (fun c_1 => ?_)
  · have hng : ¬ (1 ≤ n ∧ n ≤ 8) := by omega
    refine lv_iconst (v := iZ (1)) hx hb dM_write_12 (by decide) ?_
    refine lv_goto (tgt := 17) hx hb dM_write_13 (by decide) ?_
    refine W.eq (g2 := F0 m 17 ls ([.int (iZ ((1 : Nat) : Int)), .ref B])) rfl ?_
    refine zm_put_thrown (x := 1) hx hb ht hown hK hZ hS tw_677 dM_write_17 (fun H locs hZ hS => ?_)
    have hZ : zMD E B w0 (1, fa, ct, be, fb, sb9, (2049 - st)) H := hZ
    refine lv_aload_n hx hb dM_write_20 rfl (lv_at hl 0 rfl) ?_
    refine zm_thrown hx hb ht hown hK hZ tw_677 dM_write_21 ?_
    refine zc_i (y := iZ (((1 : Nat) : Int))) rfl ?_
    refine zr_if_le (tgt := 29) hx hb (by decide) dM_write_24 (by decide) (fun c_2 => ?_) (fun c_2 => ?_)
    · exact absurd c_2 (by decide)
    · refine lv_iconst (v := iZ (0)) hx hb dM_write_27 (by decide) ?_
      exact hend 28 _ () _ _ _ dM_write_28 (fun h9 => by obtain ⟨hk, _⟩ := SP_1 hsp (fun h9 => hng h9); omega) (by obtain ⟨hk, hs⟩ := SP_1 hsp (fun h9 => hng (by first | exact h9 | exact h9.1 | exact h9.2.1 | exact h9.2.2.1 | exact h9.2.2.2.1 | exact h9.2.2.2 | exact h9.2.2 | exact h9.2)); subst hk; subst hs; exact ⟨hok1, w0, (1, fa, ct, be, fb, sb9, (2049 - st)), hZ, ⟨hMR, rfl, hdr, rfl, hpa⟩, rfl⟩) hS
  · refine lv_iload_n hx hb dM_write_6 rfl (lv_at hl 1 rfl) ?_
    refine lv_bipush (v := iZ (8)) hx hb dM_write_7 (by decide) ?_
    refine zr_icmp_le (tgt := 16) hx hb hz_n (by unfold zi; omega) dM_write_9 (by decide) (fun c_3 => ?_) (fun c_3 => ?_)
    · have hgd : 1 ≤ n ∧ n ≤ 8 := ⟨by omega, by omega⟩
      obtain ⟨nn, rfl⟩ : ∃ n9 : Nat, n = (n9 : Int) := ⟨n.toNat, by omega⟩
      have hct9 : ct ≤ 2100 := hok.2.1
      refine lv_iconst (v := iZ (0)) hx hb dM_write_16 (by decide) ?_
      refine W.eq (g2 := F0 m 17 ls ([.int (iZ ((0 : Nat) : Int)), .ref B])) rfl ?_
      refine zm_put_thrown (x := 0) hx hb ht hown hK hZ hS tw_677 dM_write_17 (fun H locs hZ hS => ?_)
      have hZ : zMD E B w0 (0, fa, ct, be, fb, sb9, (2049 - st)) H := hZ
      refine lv_aload_n hx hb dM_write_20 rfl (lv_at hl 0 rfl) ?_
      refine zm_thrown hx hb ht hown hK hZ tw_677 dM_write_21 ?_
      refine zc_i (y := iZ (((0 : Nat) : Int))) rfl ?_
      refine zr_if_le (tgt := 29) hx hb (by decide) dM_write_24 (by decide) (fun c_4 => ?_) (fun c_4 => ?_)
      · refine lv_aload_n hx hb dM_write_29 rfl (lv_at hl 0 rfl) ?_
        refine zm_length hx hb ht hown hK hZ tw_680 dM_write_30 ?_
        refine zc_i (y := iZ (↑ct)) rfl ?_
        refine lv_iload_n hx hb dM_write_33 rfl (lv_at hl 1 rfl) ?_
        refine zr_iadd hx hb dM_write_34 ?_
        refine lv_sipush (v := iZ (2100)) hx hb dM_write_35 (by decide) ?_
        refine zr_icmp_le (tgt := 43) hx hb (by unfold zi; omega) (by unfold zi; omega) dM_write_38 (by decide) (fun c_5 => ?_) (fun c_5 => ?_)
        · have hfit : ct + nn ≤ 2100 := by omega
          refine lv_iconst (v := iZ (0)) hx hb dM_write_43 (by decide) ?_
          refine lv_istore (lv' := [(4, .int (iZ (0))), (0, .ref (B)), (1, .int (iZ (↑nn))), (2, .long (lZ (z)))]) hx hb dM_write_44 hl (by decide) rfl (fun ls hl => ?_)
          have L46 : ∀ (fu : Nat) (j : Nat) (w : Nat → Nat → Nat) (H : Heap) (locs : List Loc) (ls : Array Slot), nn - j < fu → (j ≤ nn) → (∀ i, i < ct + j → w 1 i = wrt f ct j z i) → (MR w rg) → (∀ i, i < ct → w 1 i = f i) → (∀ i, i < 2049 - st → w 14 i = g (st + i)) → zMD E B w (0, fa, (ct + j), be, fb, sb9, (2049 - st)) H → va_S (zA B 15) s.heap H locs → lv_has ls 5 [(0, .ref (B)), (1, .int (iZ (↑nn))), (2, .long (lZ (z))), (4, .int (iZ (↑j)))] → W p l e R s m args below meth c H locs 0 0 Q (F0 m 46 ls []) := by
            intro fu
            induction fu with
            | zero => intro j w H locs ls hm; exact absurd hm (Nat.not_lt_zero _)
            | succ fu ihL46 =>
              intro j w H locs ls hm hj h1a hMR hdr hpa hZ hS hl
              refine lv_iload hx hb dM_write_46 (lv_at hl 3 rfl) ?_
              refine lv_iload_n hx hb dM_write_48 rfl (lv_at hl 1 rfl) ?_
              refine zr_icmp_ge (tgt := 89) hx hb (by unfold zi; omega) (by unfold zi; omega) dM_write_49 (by decide) (fun c_6 => ?_) (fun c_6 => ?_)
              · have hjn : j = nn := by omega
                rw [hjn] at h1a hZ
                refine lv_aload_n hx hb dM_write_89 rfl (lv_at hl 0 rfl) ?_
                refine zm_length hx hb ht hown hK hZ tw_680 dM_write_90 ?_
                refine zc_i (y := iZ (↑(ct + nn))) rfl ?_
                exact hend 93 _ () _ _ _ dM_write_93 (fun _ => by rw [show ((nn : Nat) : Int).toNat = nn from rfl, if_pos hfit]) (by rcases SP_g hsp hgd with ⟨_, h, _⟩ | ⟨_, h, _⟩ | ⟨hk, hs⟩; exact h.elim; exact h.elim; rw [show ((nn : Nat) : Int).toNat = nn from rfl, if_pos hfit] at hs; subst hk; subst hs; exact ⟨hok1, w, (0, fa, (ct + nn), be, fb, sb9, (2049 - st)), hZ, ⟨hMR, rfl, h1a, rfl, hpa⟩, rfl⟩) hS
              · refine lv_aload_n hx hb dM_write_52 rfl (lv_at hl 0 rfl) ?_
                refine zm_draft hx hb ht hown hK hZ tw_679 dM_write_53 ?_
                refine lv_aload_n hx hb dM_write_56 rfl (lv_at hl 0 rfl) ?_
                refine zm_length hx hb ht hown hK hZ tw_680 dM_write_57 ?_
                refine zc_i (y := iZ (↑(ct + j))) rfl ?_
                refine lv_lload_n hx hb dM_write_60 rfl (lv_at hl 2 rfl) ?_
                refine lv_bipush (v := iZ (8)) hx hb dM_write_61 (by decide) ?_
                refine lv_iload hx hb dM_write_63 (lv_at hl 3 rfl) ?_
                refine zr_imul hx hb dM_write_65 ?_
                refine zc_i (y := iZ (↑(8 * j))) (congrArg iZ (by omega)) ?_
                refine zr_lshr (n := 8 * j) (P := ((2 ^ (8 * j) : Nat) : Int)) hx hb (hzl) (by omega) (rfl) dM_write_66 ?_
                refine lv_ldc2 (v := lZ (255)) hx hb hown (ht _ tw_751) dM_write_67 ?_
                refine zr_mask (n := 8) (P := 256) hx hb (Nat.le_of_ble_eq_true rfl) p2_8 m2_8 dM_write_70 ?_
                refine zr_l2i hx hb dM_write_71 ?_
                rw [show ((z / ((2 ^ (8 * j) : Nat) : Int)) % 256 : Int) = ((byt z j : Nat) : Int) from byt_sar hzl (by omega)]
                refine zm_st (k := 1) (i := ct + j) (x := byt z j) hx hb hK hZ hS (by decide) (by show ct + j < 2100; omega) (by have := byt_lt z j; omega) dM_write_72 (fun H locs hZ hS => ?_)
                obtain ⟨w9, hw9⟩ : ∃ q, q = mup w 1 (ct + j) (byt z j) := ⟨_, rfl⟩
                rw [← hw9] at hZ
                have ho : ∀ j, j ≠ 1 → w9 j = w j := fun j hj => by rw [hw9, mup_ne _ _ _ hj]
                have hwk : w9 1 = va_up (w 1) (ct + j) (byt z j) := by rw [hw9, mup_at]
                clear hw9
                obtain ⟨w, hww⟩ : ∃ q, q = w9 := ⟨_, rfl⟩
                rw [← hww] at hZ ho hwk
                clear hww
                replace hMR : MR w rg := MR_same (ho 2 (by decide)) (ho 3 (by decide)) hMR
                replace hpa : ∀ i, i < 2049 - st → w 14 i = g (st + i) := fun i hi => by rw [ho 14 (by decide)]; exact hpa i hi
                have hdr : ∀ i, i < ct → w 1 i = f i := fun i hi => by rw [hwk, va_up_ne _ _ (by omega)]; exact hdr i hi
                refine lv_aload_n hx hb dM_write_73 rfl (lv_at hl 0 rfl) ?_
                refine lv_dup hx hb dM_write_74 rfl ?_
                refine zm_length hx hb ht hown hK hZ tw_680 dM_write_75 ?_
                refine zc_i (y := iZ (↑(ct + j))) rfl ?_
                refine lv_iconst (v := iZ (1)) hx hb dM_write_78 (by decide) ?_
                refine zr_iadd hx hb dM_write_79 ?_
                rw [show ((↑(ct + j)) + 1 : Int) = ((ct + (j + 1) : Nat) : Int) from by omega]
                refine zm_put_length (x := ct + (j + 1)) hx hb ht hown hK hZ hS tw_680 dM_write_80 (fun H locs hZ hS => ?_)
                have hZ : zMD E B w (0, fa, ct + (j + 1), be, fb, sb9, (2049 - st)) H := hZ
                refine lv_iinc (v := iZ (↑j + 1)) (lv' := [(4, .int (iZ (↑j + 1))), (0, .ref (B)), (1, .int (iZ (↑nn))), (2, .long (lZ (z)))]) hx hb dM_write_83 hl (k := 3) rfl (iZ_add _ _) (by decide) rfl (fun ls hl => ?_)
                refine lv_goto (tgt := 46) hx hb dM_write_86 (by decide) ?_
                rw [show (↑j + 1 : Int) = ↑(j + 1) from by omega] at hl
                exact ihL46 (j + 1) w _ _ _ (by omega) (by omega) (fun i hi => by rw [← wrt_s, hwk]; by_cases h9 : i = ct + j; rw [h9, va_up_self, va_up_self]; rw [va_up_ne _ _ h9, va_up_ne _ _ h9]; exact h1a i (by omega)) hMR hdr hpa  hZ hS (lv_sub hl [1, 2, 3, 0] rfl)
          exact L46 _ 0 w0 _ _ _ (Nat.lt_succ_self _) (Nat.zero_le _) (fun i hi => by rw [wrt_0]; exact hdr i (by omega)) hMR hdr hpa  hZ hS (lv_sub hl [1, 2, 3, 0] rfl)
        · have hfit : ¬ ct + nn ≤ 2100 := by omega
          refine lv_iconst (v := iZ (-1)) hx hb dM_write_41 (by decide) ?_
          exact hend 42 _ () _ _ _ dM_write_42 (fun _ => by rw [show ((nn : Nat) : Int).toNat = nn from rfl, if_neg hfit]) (by rcases SP_g hsp hgd with ⟨_, h, _⟩ | ⟨_, h, _⟩ | ⟨hk, hs⟩; exact h.elim; exact h.elim; rw [show ((nn : Nat) : Int).toNat = nn from rfl, if_neg hfit] at hs; subst hk; subst hs; exact ⟨hok1, w0, (0, fa, ct, be, fb, sb9, (2049 - st)), hZ, ⟨hMR, rfl, hdr, rfl, hpa⟩, rfl⟩) hS
      · exact absurd c_4 (by decide)
    · have hng : ¬ (1 ≤ n ∧ n ≤ 8) := by omega
      refine lv_iconst (v := iZ (1)) hx hb dM_write_12 (by decide) ?_
      refine lv_goto (tgt := 17) hx hb dM_write_13 (by decide) ?_
      refine W.eq (g2 := F0 m 17 ls ([.int (iZ ((1 : Nat) : Int)), .ref B])) rfl ?_
      refine zm_put_thrown (x := 1) hx hb ht hown hK hZ hS tw_677 dM_write_17 (fun H locs hZ hS => ?_)
      have hZ : zMD E B w0 (1, fa, ct, be, fb, sb9, (2049 - st)) H := hZ
      refine lv_aload_n hx hb dM_write_20 rfl (lv_at hl 0 rfl) ?_
      refine zm_thrown hx hb ht hown hK hZ tw_677 dM_write_21 ?_
      refine zc_i (y := iZ (((1 : Nat) : Int))) rfl ?_
      refine zr_if_le (tgt := 29) hx hb (by decide) dM_write_24 (by decide) (fun c_7 => ?_) (fun c_7 => ?_)
      · exact absurd c_7 (by decide)
      · refine lv_iconst (v := iZ (0)) hx hb dM_write_27 (by decide) ?_
        exact hend 28 _ () _ _ _ dM_write_28 (fun h9 => by obtain ⟨hk, _⟩ := SP_1 hsp (fun h9 => hng h9); omega) (by obtain ⟨hk, hs⟩ := SP_1 hsp (fun h9 => hng (by first | exact h9 | exact h9.1 | exact h9.2.1 | exact h9.2.2.1 | exact h9.2.2.2.1 | exact h9.2.2.2 | exact h9.2.2 | exact h9.2)); subst hk; subst hs; exact ⟨hok1, w0, (1, fa, ct, be, fb, sb9, (2049 - st)), hZ, ⟨hMR, rfl, hdr, rfl, hpa⟩, rfl⟩) hS
