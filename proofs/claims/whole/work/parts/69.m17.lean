theorem stt_ct (ct : Nat) (f : Nat → Nat) : stt ct f ≤ ct := by unfold stt; split <;> omega
/-- what read has seen of the draft -/
def RI (t fr ct j nb : Nat) (f : Nat → Nat) : Prop := (t = 0 ∨ t = 2) ∧ (t = 0 → fr ≠ ct ∧ ∀ i, fr ≤ i → i < j → dg (f i) < nb) ∧ (t = 2 → fr = ct ∨ ∃ i, fr ≤ i ∧ i < j ∧ nb ≤ dg (f i))
theorem RI.h1 {t fr ct j nb : Nat} {f : Nat → Nat} (h : RI t fr ct j nb f) : t = 0 ∨ t = 2 := h.1
theorem RI.h2 {t fr ct j nb : Nat} {f : Nat → Nat} (h : RI t fr ct j nb f) : t = 0 → fr ≠ ct ∧ ∀ i, fr ≤ i → i < j → dg (f i) < nb := h.2.1
theorem RI.h3 {t fr ct j nb : Nat} {f : Nat → Nat} (h : RI t fr ct j nb f) : t = 2 → fr = ct ∨ ∃ i, fr ≤ i ∧ i < j ∧ nb ≤ dg (f i) := h.2.2
theorem RI_ok {t fr ct j nb : Nat} {f : Nat → Nat} (h : RI t fr ct j nb f) (hd : dg (f j) < nb) : RI t fr ct (j + 1) nb f :=
  ⟨h.h1, fun h9 => ⟨(h.h2 h9).1, fun i a b => by by_cases h8 : i = j; rw [h8]; exact hd; exact (h.h2 h9).2 i a (by omega)⟩, fun h9 => (h.h3 h9).imp id (fun ⟨i, a, b, q⟩ => ⟨i, a, by omega, q⟩)⟩
theorem RI_bad {fr ct j nb : Nat} {f : Nat → Nat} (hj : fr ≤ j) (hd : nb ≤ dg (f j)) : RI 2 fr ct (j + 1) nb f :=
  ⟨Or.inr rfl, fun h9 => absurd h9 (by decide), fun _ => Or.inr ⟨j, hj, by omega, hd⟩⟩
theorem RI_yes {ct nb : Nat} {f : Nat → Nat} (h : RI 0 (stt ct f) ct ct nb f) : isnum ct f nb :=
  ⟨by have := (h.h2 rfl).1; have := stt_ct ct f; omega, (h.h2 rfl).2⟩
theorem RI_no {ct nb : Nat} {f : Nat → Nat} (h : RI 2 (stt ct f) ct ct nb f) : ¬ isnum ct f nb := fun h9 => by
  rcases h.h3 rfl with h8 | ⟨i, a, b, q⟩
  · have := h9.1; omega
  · have := h9.2 i a b; omega
theorem rgrow_264 {b V d : Nat} (hb : b ≤ 36) (hd : d ≤ 99) (hV : V < rP 128) : b * V + d < rP 264 := by
  have h1 : b * V ≤ 36 * rP 128 := Nat.mul_le_mul hb (by omega)
  have h2 := rP_mono (show 129 ≤ 264 by decide)
  have h3 := rP_pos 128
  rw [rP_s] at h2
  omega
set_option maxHeartbeats 4000000 in
set_option maxRecDepth 100000 in
theorem mM_read (l : Launch) (E : zE) (B : Nat) (rg : Nat → Int) (ct : Nat) (f : Nat → Nat) (st : Nat) (g : Nat → Nat) (t0 : Nat) (to : Int) (hz_to : zi to) (base : Int) (hz_base : zi base) (k : Nat) (σ1 : zS) (hok1 : okS σ1) (hsp : SP (rok to ∧ (2 ≤ base ∧ base ≤ 36)) (¬ isnum ct f base.toNat) (isnum ct f base.toNat ∧ ¬ zX (rdv base.toNat ct f)) (fun τ => isnum ct f base.toNat ∧ zX (rdv base.toNat ct f) ∧ τ = (va_up rg to.toNat (rdv base.toNat ct f), 0, f, st, g)) (rg, ct, f, st, g) k σ1) :
    Met l yM_read (zws yM_read cM_read 5 none) { frames := 2, cells := 0, slots := 0, locals := 60 } (zPc E (zQM E B (rg, ct, f, st, g) t0) [.ref (B), .int (iZ (to)), .int (iZ (base))]) (va_Qv (fun (u : Unit) => True) (fun u t => zQM E B σ1 (k) t.heap ∧ zK E t) (zA B 15)) 0 0 (zA B 15) := by
  refine zof_v (P' := fun (u : Unit) H => zQM E B σ1 (k) H) (by decide) (Nat.le_of_ble_eq_true rfl) fun p e R s m args below meth c Q ls hR hx hb hml ht hown hK hZ hl hend => ?_
  have hS : va_S (zA B 15) s.heap s.heap [] := va_S.rf
  have hown : s.vm.findClass "WholeDeskModel" = some m.cls := hown
  have hl : lv_has ls 5 [(0, .ref (B)), (1, .int (iZ (to))), (2, .int (iZ (base)))] := hl
  obtain ⟨hok, w0, ⟨th, fa, le, be, fb, sb9, pr⟩, hZ, ⟨hMR, hle, hdr, hpr, hpa⟩, hth⟩ := hZ
  dsimp only at *
  rw [hle, hpr] at hZ
  clear hth hle hpr le pr
  refine lv_aload_n hx hb dM_read_0 rfl (lv_at hl 0 rfl) ?_
  refine lv_iload_n hx hb dM_read_1 rfl (lv_at hl 1 rfl) ?_
  refine zcS_i (P' := fun (u : (Nat → Nat → Nat) × zC) H => zMD E B u.1 u.2 H) 1 (As := [.int (iZ (to))]) (rest := [.ref (B)]) ⟨hx, hb, hml, hown, ht⟩ (mM_no l E B w0 (th, fa, ct, be, fb, sb9, (2049 - st)) (to) hz_to) tw_762 tw_760 tw_761 tw_6 qM_no (by rw [hR]; decide) hZ hK hl.1 rfl rfl (Nat.le_of_ble_eq_true rfl) dM_read_2 ⟨Nat.zero_le _, Nat.zero_le _⟩ hS (fun r9 u H locs hp hZ _ hS => ?_)
  obtain ⟨hu9, bto, hr1, hbto⟩ := hp
  subst hr1
  rw [hu9] at hZ
  dsimp only at hZ
  clear hu9
  refine zr_if_ne (tgt := 19) hx hb (by have := bZ_01 bto; omega) dM_read_5 (by decide) (fun c_1 => ?_) (fun c_1 => ?_)
  · have hng : ¬ rok to := hbto.mp (bZ_nf.mp (by assumption))
    refine lv_iconst (v := iZ (1)) hx hb dM_read_19 (by decide) ?_
    refine lv_goto (tgt := 24) hx hb dM_read_20 (by decide) ?_
    refine W.eq (g2 := F0 m 24 ls ([.int (iZ ((1 : Nat) : Int)), .ref B])) rfl ?_
    refine zm_put_thrown (x := 1) hx hb ht hown hK hZ hS tw_677 dM_read_24 (fun H locs hZ hS => ?_)
    have hZ : zMD E B w0 (1, fa, ct, be, fb, sb9, (2049 - st)) H := hZ
    refine lv_aload_n hx hb dM_read_27 rfl (lv_at hl 0 rfl) ?_
    refine zm_thrown hx hb ht hown hK hZ tw_677 dM_read_28 ?_
    refine zc_i (y := iZ (((1 : Nat) : Int))) rfl ?_
    refine zr_if_le (tgt := 35) hx hb (by decide) dM_read_31 (by decide) (fun c_2 => ?_) (fun c_2 => ?_)
    · exact absurd c_2 (by decide)
    · exact hend 34 () _ _ _ dM_read_34 trivial (by obtain ⟨hk, hs⟩ := SP_1 hsp (fun h9 => hng (by first | exact h9 | exact h9.1 | exact h9.2.1 | exact h9.2.2.1 | exact h9.2.2.2.1 | exact h9.2.2.2 | exact h9.2.2 | exact h9.2)); subst hk; subst hs; exact ⟨hok1, w0, (1, fa, ct, be, fb, sb9, (2049 - st)), hZ, ⟨hMR, rfl, hdr, rfl, hpa⟩, rfl⟩) hS
  · have hk_nto : rok to := Classical.byContradiction (fun h9 => absurd (hbto.mpr h9) (by rw [show bto = false from bZ_f.mp (by assumption)]; decide))
    obtain ⟨nto, rfl⟩ : ∃ n9 : Nat, to = (n9 : Int) := ⟨to.toNat, by have := hk_nto.1; omega⟩
    have h10_nto : nto < 10 := by have := hk_nto.2; omega
    refine lv_iload_n hx hb dM_read_8 rfl (lv_at hl 2 rfl) ?_
    refine lv_iconst (v := iZ (2)) hx hb dM_read_9 (by decide) ?_
    refine zr_icmp_lt (tgt := 19) hx hb hz_base (by unfold zi; omega) dM_read_10 (by decide) (fun c_3 => ?_) (fun c_3 => ?_)
    · have hng : ¬ (2 ≤ base ∧ base ≤ 36) := by omega
      refine lv_iconst (v := iZ (1)) hx hb dM_read_19 (by decide) ?_
      refine lv_goto (tgt := 24) hx hb dM_read_20 (by decide) ?_
      refine W.eq (g2 := F0 m 24 ls ([.int (iZ ((1 : Nat) : Int)), .ref B])) rfl ?_
      refine zm_put_thrown (x := 1) hx hb ht hown hK hZ hS tw_677 dM_read_24 (fun H locs hZ hS => ?_)
      have hZ : zMD E B w0 (1, fa, ct, be, fb, sb9, (2049 - st)) H := hZ
      refine lv_aload_n hx hb dM_read_27 rfl (lv_at hl 0 rfl) ?_
      refine zm_thrown hx hb ht hown hK hZ tw_677 dM_read_28 ?_
      refine zc_i (y := iZ (((1 : Nat) : Int))) rfl ?_
      refine zr_if_le (tgt := 35) hx hb (by decide) dM_read_31 (by decide) (fun c_4 => ?_) (fun c_4 => ?_)
      · exact absurd c_4 (by decide)
      · exact hend 34 () _ _ _ dM_read_34 trivial (by obtain ⟨hk, hs⟩ := SP_1 hsp (fun h9 => hng (by first | exact h9 | exact h9.1 | exact h9.2.1 | exact h9.2.2.1 | exact h9.2.2.2.1 | exact h9.2.2.2 | exact h9.2.2 | exact h9.2)); subst hk; subst hs; exact ⟨hok1, w0, (1, fa, ct, be, fb, sb9, (2049 - st)), hZ, ⟨hMR, rfl, hdr, rfl, hpa⟩, rfl⟩) hS
    · refine lv_iload_n hx hb dM_read_13 rfl (lv_at hl 2 rfl) ?_
      refine lv_bipush (v := iZ (36)) hx hb dM_read_14 (by decide) ?_
      refine zr_icmp_le (tgt := 23) hx hb hz_base (by unfold zi; omega) dM_read_16 (by decide) (fun c_5 => ?_) (fun c_5 => ?_)
      · have hgb : 2 ≤ base ∧ base ≤ 36 := by omega
        obtain ⟨nb, rfl⟩ : ∃ n9 : Nat, base = (n9 : Int) := ⟨base.toNat, by omega⟩
        have hbs : 2 ≤ nb ∧ nb ≤ 36 := by omega
        have hf9 : ∀ i, f i < 256 := hok.2.2.1
        have hct9 : ct ≤ 2100 := hok.2.1
        have hf0 := hf9 0
        refine lv_iconst (v := iZ (0)) hx hb dM_read_23 (by decide) ?_
        refine W.eq (g2 := F0 m 24 ls ([.int (iZ ((0 : Nat) : Int)), .ref B])) rfl ?_
        refine zm_put_thrown (x := 0) hx hb ht hown hK hZ hS tw_677 dM_read_24 (fun H locs hZ hS => ?_)
        have hZ : zMD E B w0 (0, fa, ct, be, fb, sb9, (2049 - st)) H := hZ
        refine lv_aload_n hx hb dM_read_27 rfl (lv_at hl 0 rfl) ?_
        refine zm_thrown hx hb ht hown hK hZ tw_677 dM_read_28 ?_
        refine zc_i (y := iZ (((0 : Nat) : Int))) rfl ?_
        refine zr_if_le (tgt := 35) hx hb (by decide) dM_read_31 (by decide) (fun c_6 => ?_) (fun c_6 => ?_)
        · refine lv_aload_n hx hb dM_read_35 rfl (lv_at hl 0 rfl) ?_
          refine zm_length hx hb ht hown hK hZ tw_680 dM_read_36 ?_
          refine zc_i (y := iZ (↑ct)) rfl ?_
          refine zr_if_le (tgt := 68) hx hb (by unfold zi; omega) dM_read_39 (by decide) (fun c_7 => ?_) (fun c_7 => ?_)
          · refine lv_iconst (v := iZ (0)) hx hb dM_read_68 (by decide) ?_
            refine zc_i (y := iZ ((stt ct f : Nat) : Int)) (congrArg iZ (by unfold stt; rw [if_neg (by omega)]; rfl)) ?_
            obtain ⟨fr, hfr⟩ : ∃ q, q = stt ct f := ⟨_, rfl⟩
            rw [← hfr]
            have hfrc : fr ≤ ct := by rw [hfr]; exact stt_ct ct f
            refine lv_istore_n (lv' := [(3, .int (iZ (↑fr))), (0, .ref (B)), (1, .int (iZ (↑nto))), (2, .int (iZ (↑nb)))]) hx hb dM_read_69 rfl hl (by decide) rfl (fun ls hl => ?_)
            refine lv_aload_n hx hb dM_read_70 rfl (lv_at hl 1 rfl) ?_
            refine lv_iload_n hx hb dM_read_71 rfl (lv_at hl 0 rfl) ?_
            refine lv_aload_n hx hb dM_read_72 rfl (lv_at hl 1 rfl) ?_
            refine zm_length hx hb ht hown hK hZ tw_680 dM_read_73 ?_
            refine zc_i (y := iZ (↑ct)) rfl ?_
            refine zr_icmp_ne (tgt := 83) hx hb (by unfold zi; omega) (by unfold zi; omega) dM_read_76 (by decide) (fun c_8 => ?_) (fun c_8 => ?_)
            · refine lv_iconst (v := iZ (0)) hx hb dM_read_83 (by decide) ?_
              refine W.eq (g2 := F0 m 84 ls ([.int (iZ ((0 : Nat) : Int)), .ref B])) rfl ?_
              refine zm_put_thrown (x := 0) hx hb ht hown hK hZ hS tw_677 dM_read_84 (fun H locs hZ hS => ?_)
              have hZ : zMD E B w0 (0, fa, ct, be, fb, sb9, (2049 - st)) H := hZ
              have hRI0 : RI 0 fr ct fr nb f := ⟨Or.inl rfl, fun _ => ⟨by omega, fun i a b => absurd a (by omega)⟩, fun h9 => absurd h9 (by decide)⟩
              refine lv_iload_n hx hb dM_read_87 rfl (lv_at hl 0 rfl) ?_
              refine lv_istore (lv' := [(4, .int (iZ (↑fr))), (3, .int (iZ (↑fr))), (0, .ref (B)), (1, .int (iZ (↑nto))), (2, .int (iZ (↑nb)))]) hx hb dM_read_88 hl (by decide) rfl (fun ls hl => ?_)
              have L90 : ∀ (fu : Nat) (j : Nat) (t : Nat) (w : Nat → Nat → Nat) (H : Heap) (locs : List Loc) (ls : Array Slot), ct - j < fu → (fr ≤ j ∧ j ≤ ct) → (RI t fr ct j nb f) → (MR w rg) → (∀ i, i < ct → w 1 i = f i) → (∀ i, i < 2049 - st → w 14 i = g (st + i)) → zMD E B w (t, fa, ct, be, fb, sb9, (2049 - st)) H → va_S (zA B 15) s.heap H locs → lv_has ls 5 [(0, .ref (B)), (1, .int (iZ (↑nto))), (2, .int (iZ (↑nb))), (3, .int (iZ (↑fr))), (4, .int (iZ (↑j)))] → W p l e R s m args below meth c H locs 0 0 Q (F0 m 90 ls []) := by
                intro fu
                induction fu with
                | zero => intro j t w H locs ls hm; exact absurd hm (Nat.not_lt_zero _)
                | succ fu ihL90 =>
                  intro j t w H locs ls hm hj hRI hMR hdr hpa hZ hS hl
                  refine lv_iload hx hb dM_read_90 (lv_at hl 4 rfl) ?_
                  refine lv_aload_n hx hb dM_read_92 rfl (lv_at hl 0 rfl) ?_
                  refine zm_length hx hb ht hown hK hZ tw_680 dM_read_93 ?_
                  refine zc_i (y := iZ (↑ct)) rfl ?_
                  refine zr_icmp_ge (tgt := 131) hx hb (by unfold zi; omega) (by unfold zi; omega) dM_read_96 (by decide) (fun c_9 => ?_) (fun c_9 => ?_)
                  · have hjc : j = ct := by omega
                    rw [hjc, hfr] at hRI
                    refine lv_aload_n hx hb dM_read_131 rfl (lv_at hl 0 rfl) ?_
                    refine zm_thrown hx hb ht hown hK hZ tw_677 dM_read_132 ?_
                    refine zc_i (y := iZ (↑t)) rfl ?_
                    refine zr_if_le (tgt := 139) hx hb (by have := hRI.h1; unfold zi; omega) dM_read_135 (by decide) (fun c_10 => ?_) (fun c_10 => ?_)
                    · have ht0 : t = 0 := by omega
                      rw [ht0] at hRI hZ
                      have hnum := RI_yes hRI
                      have hct0 : 0 < ct := by have := hnum.1; omega
                      refine lv_aload_n hx hb dM_read_139 rfl (lv_at hl 0 rfl) ?_
                      refine zm_row hx hb ht hown hK hZ tw_683 dM_read_140 ?_
                      refine zcS_v (P' := fun (u : (Nat → Nat → Nat) × zC) H => zMD E B u.1 u.2 H) 1 (As := [.ref (B + 4)]) (rest := []) ⟨hx, hb, hml, hown, ht⟩ (mM_clear l E B w (0, fa, ct, be, fb, sb9, (2049 - st)) 4 (by decide) 264 rfl (by decide)) tw_768 tw_766 tw_767 tw_6 qM_clear (by rw [hR]; decide) hZ hK hl.1 rfl rfl (Nat.le_of_ble_eq_true rfl) dM_read_143 ⟨Nat.zero_le _, Nat.zero_le _⟩ hS (fun u H locs hp hZ _ hS => ?_)
                      obtain ⟨w, q9⟩ := u
                      obtain ⟨ho, hq9, hcl⟩ := hp
                      dsimp only at *
                      rw [hq9] at hZ
                      replace hMR : MR w rg := MR_same (ho 2 (by decide)) (ho 3 (by decide)) hMR
                      replace hdr : ∀ i, i < ct → w 1 i = f i := fun i hi => by rw [ho 1 (by decide)]; exact hdr i hi
                      replace hpa : ∀ i, i < 2049 - st → w 14 i = g (st + i) := fun i hi => by rw [ho 14 (by decide)]; exact hpa i hi
                      have hv_4 : rv (w 4) 264 = 0 := by rw [rv_drop (m := 0) (Nat.zero_le _) (fun i _ h => hcl i h)]; rfl
                      have hcl4 := hcl
                      refine lv_iload_n hx hb dM_read_146 rfl (lv_at hl 3 rfl) ?_
                      refine lv_istore (lv' := [(4, .int (iZ (↑fr))), (0, .ref (B)), (1, .int (iZ (↑nto))), (2, .int (iZ (↑nb))), (3, .int (iZ (↑fr)))]) hx hb dM_read_147 hl (by decide) rfl (fun ls hl => ?_)
                      have L149 : ∀ (fu : Nat) (j : Nat) (V : Nat) (w : Nat → Nat → Nat) (H : Heap) (locs : List Loc) (ls : Array Slot), ct - j < fu → (fr ≤ j ∧ j ≤ ct) → (V = hv nb f fr (j - fr)) → (V < rP 128) → (MR w rg) → (∀ i, i < ct → w 1 i = f i) → (∀ i, i < 2049 - st → w 14 i = g (st + i)) → (rv (w 4) 264 = V) → zMD E B w (0, fa, ct, be, fb, sb9, (2049 - st)) H → va_S (zA B 15) s.heap H locs → lv_has ls 5 [(0, .ref (B)), (1, .int (iZ (↑nto))), (2, .int (iZ (↑nb))), (4, .int (iZ (↑j)))] → W p l e R s m args below meth c H locs 0 0 Q (F0 m 149 ls []) := by
                        intro fu
                        induction fu with
                        | zero => intro j V w H locs ls hm; exact absurd hm (Nat.not_lt_zero _)
                        | succ fu ihL149 =>
                          intro j V w H locs ls hm hj hV hV128 hMR hdr hpa hv_4 hZ hS hl
                          refine lv_iload hx hb dM_read_149 (lv_at hl 3 rfl) ?_
                          refine lv_aload_n hx hb dM_read_151 rfl (lv_at hl 0 rfl) ?_
                          refine zm_length hx hb ht hown hK hZ tw_680 dM_read_152 ?_
                          refine zc_i (y := iZ (↑ct)) rfl ?_
                          refine zr_icmp_ge (tgt := 201) hx hb (by unfold zi; omega) (by unfold zi; omega) dM_read_155 (by decide) (fun c_11 => ?_) (fun c_11 => ?_)
                          · have hjc : j = ct := by omega
                            rw [hjc] at hV
                            refine lv_aload_n hx hb dM_read_201 rfl (lv_at hl 0 rfl) ?_
                            refine lv_aload_n hx hb dM_read_202 rfl (lv_at hl 0 rfl) ?_
                            refine zm_draft hx hb ht hown hK hZ tw_679 dM_read_203 ?_
                            refine lv_iconst (v := iZ (0)) hx hb dM_read_206 (by decide) ?_
                            refine W.eq (g2 := F0 m 207 ls (.int (iZ ((0 : Nat) : Int)) :: .ref (B + 1) :: [.ref (B)])) rfl ?_
                            refine zm_ld (k := 1) (i := 0) hx hb hK hZ (by decide) (by show 0 < 2100; omega) dM_read_207 ?_
                            rw [hdr 0 hct0]
                            refine lv_bipush (v := iZ (45)) hx hb dM_read_208 (by decide) ?_
                            refine zr_icmp_ne (tgt := 217) hx hb (by unfold zi; omega) (by unfold zi; omega) dM_read_210 (by decide) (fun c_12 => ?_) (fun c_12 => ?_)
                            · have hb45 : ¬ f 0 = 45 := by omega
                              refine lv_iconst (v := iZ (0)) hx hb dM_read_217 (by decide) ?_
                              refine W.eq (g2 := F0 m 218 ls ([.int (iZ (bZ false)), .ref B])) rfl ?_
                              refine zm_put_below (x := false) hx hb ht hown hK hZ hS tw_684 dM_read_218 (fun H locs hZ hS => ?_)
                              have hZ : zMD E B w (0, fa, ct, false, fb, sb9, (2049 - st)) H := hZ
                              refine lv_aload_n hx hb dM_read_221 rfl (lv_at hl 0 rfl) ?_
                              refine lv_iload_n hx hb dM_read_222 rfl (lv_at hl 1 rfl) ?_
                              refine zcV_v (P' := fun (u : (Nat → Nat → Nat) × zC) H => zMD E B u.1 u.2 H) 1 (As := [.int (iZ (↑nto))]) (rest := []) rfl ⟨hx, hb, hml, hown, ht⟩ (mM_store l E B w (0, fa, ct, false, fb, sb9, (2049 - st)) nto h10_nto rg hMR) tw_779 tw_776 tw_778 tp_12 tw_6 qM_store (by rw [hR]; decide) (zm_recv hK hZ) hZ hK hl.1 rfl rfl (Nat.le_of_ble_eq_true rfl) dM_read_223 ⟨Nat.zero_le _, Nat.zero_le _⟩ hS (fun u H locs hp hZ _ hS => ?_)
                              obtain ⟨w, q9⟩ := u
                              obtain ⟨ho, hbig, hfit⟩ := hp
                              dsimp only at *
                              rw [hv_4] at hbig hfit
                              have hzz : (if false = true then -(((V : Nat) : Int)) else ((V : Nat) : Int)) = rdv nb ct f := by rw [if_neg (by decide)]; unfold rdv sgz; rw [if_neg (fun h9 => hb45 h9.2), ← hfr, ← hV]
                              have hzX : zX (rdv nb ct f) ↔ V < rP 128 := by rw [← hzz]; exact zX_if
                              rcases Nat.lt_or_ge (V) (rP 128) with hX | hX
                              · obtain ⟨hq9, hMR9⟩ := hfit hX
                                rw [hq9] at hZ
                                rw [hzz] at hMR9
                                have hzx := hzX.mpr hX
                                replace hdr : ∀ i, i < ct → w 1 i = f i := fun i hi => by rw [ho 1 (by decide) (by decide)]; exact hdr i hi
                                replace hpa : ∀ i, i < 2049 - st → w 14 i = g (st + i) := fun i hi => by rw [ho 14 (by decide) (by decide)]; exact hpa i hi
                                replace hv_4 : rv (w 4) 264 = V := by rw [ho 4 (by decide) (by decide)]; exact hv_4
                                have hMR : MR w (va_up rg nto (rdv nb ct f)) := hMR9
                                refine lv_aload_n hx hb dM_read_226 rfl (lv_at hl 0 rfl) ?_
                                refine lv_iconst (v := iZ (0)) hx hb dM_read_227 (by decide) ?_
                                refine W.eq (g2 := F0 m 228 ls ([.int (iZ ((0 : Nat) : Int)), .ref B])) rfl ?_
                                refine zm_put_length (x := 0) hx hb ht hown hK hZ hS tw_680 dM_read_228 (fun H locs hZ hS => ?_)
                                have hZ : zMD E B w (0, fa, 0, false, fb, sb9, (2049 - st)) H := hZ
                                exact hend 231 () _ _ _ dM_read_231 trivial (by rcases SP_g hsp ⟨hk_nto, hgb⟩ with ⟨_, h, _⟩ | ⟨_, h, _⟩ | ⟨hk, _, _, hs⟩; exact absurd hnum h; exact absurd hzx h.2; subst hk; subst hs; exact ⟨hok1, w, (0, fa, 0, false, fb, sb9, (2049 - st)), hZ, ⟨hMR, rfl, (fun i hi => absurd hi (Nat.not_lt_zero _)), rfl, hpa⟩, rfl⟩) hS
                              · obtain ⟨e1, e2⟩ := Prod.mk.inj (hbig hX)
                                rw [e2] at hZ
                                rw [← e1] at hMR hdr hpa
                                have hzx : ¬ zX (rdv nb ct f) := fun h9 => absurd (hzX.mp h9) (Nat.not_lt.mpr hX)
                                have hZ : zMD E B w (fa, fa, ct, false, fb, sb9, (2049 - st)) H := hZ
                                exact absurd hV128 (Nat.not_lt.mpr hX)
                            · have hb45 : f 0 = 45 := by omega
                              refine lv_iconst (v := iZ (1)) hx hb dM_read_213 (by decide) ?_
                              refine lv_goto (tgt := 218) hx hb dM_read_214 (by decide) ?_
                              refine W.eq (g2 := F0 m 218 ls ([.int (iZ (bZ true)), .ref B])) rfl ?_
                              refine zm_put_below (x := true) hx hb ht hown hK hZ hS tw_684 dM_read_218 (fun H locs hZ hS => ?_)
                              have hZ : zMD E B w (0, fa, ct, true, fb, sb9, (2049 - st)) H := hZ
                              refine lv_aload_n hx hb dM_read_221 rfl (lv_at hl 0 rfl) ?_
                              refine lv_iload_n hx hb dM_read_222 rfl (lv_at hl 1 rfl) ?_
                              refine zcV_v (P' := fun (u : (Nat → Nat → Nat) × zC) H => zMD E B u.1 u.2 H) 1 (As := [.int (iZ (↑nto))]) (rest := []) rfl ⟨hx, hb, hml, hown, ht⟩ (mM_store l E B w (0, fa, ct, true, fb, sb9, (2049 - st)) nto h10_nto rg hMR) tw_779 tw_776 tw_778 tp_12 tw_6 qM_store (by rw [hR]; decide) (zm_recv hK hZ) hZ hK hl.1 rfl rfl (Nat.le_of_ble_eq_true rfl) dM_read_223 ⟨Nat.zero_le _, Nat.zero_le _⟩ hS (fun u H locs hp hZ _ hS => ?_)
                              obtain ⟨w, q9⟩ := u
                              obtain ⟨ho, hbig, hfit⟩ := hp
                              dsimp only at *
                              rw [hv_4] at hbig hfit
                              have hzz : (if true = true then -(((V : Nat) : Int)) else ((V : Nat) : Int)) = rdv nb ct f := by rw [if_pos rfl]; unfold rdv sgz; rw [if_pos ⟨hct0, hb45⟩, ← hfr, ← hV]
                              have hzX : zX (rdv nb ct f) ↔ V < rP 128 := by rw [← hzz]; exact zX_if
                              rcases Nat.lt_or_ge (V) (rP 128) with hX | hX
                              · obtain ⟨hq9, hMR9⟩ := hfit hX
                                rw [hq9] at hZ
                                rw [hzz] at hMR9
                                have hzx := hzX.mpr hX
                                replace hdr : ∀ i, i < ct → w 1 i = f i := fun i hi => by rw [ho 1 (by decide) (by decide)]; exact hdr i hi
                                replace hpa : ∀ i, i < 2049 - st → w 14 i = g (st + i) := fun i hi => by rw [ho 14 (by decide) (by decide)]; exact hpa i hi
                                replace hv_4 : rv (w 4) 264 = V := by rw [ho 4 (by decide) (by decide)]; exact hv_4
                                have hMR : MR w (va_up rg nto (rdv nb ct f)) := hMR9
                                refine lv_aload_n hx hb dM_read_226 rfl (lv_at hl 0 rfl) ?_
                                refine lv_iconst (v := iZ (0)) hx hb dM_read_227 (by decide) ?_
                                refine W.eq (g2 := F0 m 228 ls ([.int (iZ ((0 : Nat) : Int)), .ref B])) rfl ?_
                                refine zm_put_length (x := 0) hx hb ht hown hK hZ hS tw_680 dM_read_228 (fun H locs hZ hS => ?_)
                                have hZ : zMD E B w (0, fa, 0, true, fb, sb9, (2049 - st)) H := hZ
                                exact hend 231 () _ _ _ dM_read_231 trivial (by rcases SP_g hsp ⟨hk_nto, hgb⟩ with ⟨_, h, _⟩ | ⟨_, h, _⟩ | ⟨hk, _, _, hs⟩; exact absurd hnum h; exact absurd hzx h.2; subst hk; subst hs; exact ⟨hok1, w, (0, fa, 0, true, fb, sb9, (2049 - st)), hZ, ⟨hMR, rfl, (fun i hi => absurd hi (Nat.not_lt_zero _)), rfl, hpa⟩, rfl⟩) hS
                              · obtain ⟨e1, e2⟩ := Prod.mk.inj (hbig hX)
                                rw [e2] at hZ
                                rw [← e1] at hMR hdr hpa
                                have hzx : ¬ zX (rdv nb ct f) := fun h9 => absurd (hzX.mp h9) (Nat.not_lt.mpr hX)
                                have hZ : zMD E B w (fa, fa, ct, true, fb, sb9, (2049 - st)) H := hZ
                                exact absurd hV128 (Nat.not_lt.mpr hX)
                          · refine lv_aload_n hx hb dM_read_158 rfl (lv_at hl 0 rfl) ?_
                            refine zm_row hx hb ht hown hK hZ tw_683 dM_read_159 ?_
                            refine lv_iload_n hx hb dM_read_162 rfl (lv_at hl 2 rfl) ?_
                            refine lv_aload_n hx hb dM_read_163 rfl (lv_at hl 0 rfl) ?_
                            refine zm_draft hx hb ht hown hK hZ tw_679 dM_read_164 ?_
                            refine lv_iload hx hb dM_read_167 (lv_at hl 3 rfl) ?_
                            refine zm_ld (k := 1) (i := j) hx hb hK hZ (by decide) (by show j < 2100; omega) dM_read_169 ?_
                            rw [hdr j (by omega)]
                            refine zcS_i (P' := fun (u : (Nat → Nat → Nat) × zC) H => zMD E B u.1 u.2 H) 1 (As := [.int (iZ (((f j : Nat) : Int)))]) (rest := [.int (iZ (↑nb)), .ref (B + 4)]) ⟨hx, hb, hml, hown, ht⟩ (mM_digit l E B w (0, fa, ct, be, fb, sb9, (2049 - st)) (f j) (by have := hf9 j; omega)) tw_765 tw_763 tw_764 tw_6 qM_digit (by rw [hR]; decide) hZ hK hl.1 rfl rfl (Nat.le_of_ble_eq_true rfl) dM_read_170 ⟨Nat.zero_le _, Nat.zero_le _⟩ hS (fun r9 u H locs hp hZ _ hS => ?_)
                            obtain ⟨hu9, hr1⟩ := hp
                            subst hr1
                            rw [hu9] at hZ
                            dsimp only at hZ
                            clear hu9
                            refine zcS_v (P' := fun (u : (Nat → Nat → Nat) × zC) H => zMD E B u.1 u.2 H) 3 (As := [.ref (B + 4), .int (iZ (↑nb)), .int (iZ (((dg (f j) : Nat) : Int)))]) (rest := []) ⟨hx, hb, hml, hown, ht⟩ (mM_grow l E B w (0, fa, ct, be, fb, sb9, (2049 - st)) 4 (by decide) rfl nb (dg (f j)) (by omega) (dg_le _) (by rw [hv_4]; exact rgrow_264 (by omega) (dg_le _) hV128)) tw_771 tw_769 tw_770 tw_6 qM_grow (by rw [hR]; decide) hZ hK hl.1 rfl rfl (Nat.le_of_ble_eq_true rfl) dM_read_173 ⟨Nat.zero_le _, Nat.zero_le _⟩ hS (fun u H locs hp hZ _ hS => ?_)
                            obtain ⟨w, q9⟩ := u
                            obtain ⟨ho, hq9, hgv⟩ := hp
                            dsimp only at *
                            rw [hq9] at hZ
                            rw [hv_4] at hgv
                            replace hMR : MR w rg := MR_same (ho 2 (by decide)) (ho 3 (by decide)) hMR
                            replace hdr : ∀ i, i < ct → w 1 i = f i := fun i hi => by rw [ho 1 (by decide)]; exact hdr i hi
                            replace hpa : ∀ i, i < 2049 - st → w 14 i = g (st + i) := fun i hi => by rw [ho 14 (by decide)]; exact hpa i hi
                            clear hv_4
                            have hv_4 : rv (w 4) 264 = nb * V + dg (f j) := hgv
                            clear hgv
                            have hV2 : nb * V + dg (f j) = hv nb f fr (j + 1 - fr) := by rw [hV, show j + 1 - fr = (j - fr) + 1 by omega, hv_s, show fr + (j - fr) = j by omega, Nat.mul_comm]
                            refine lv_aload_n hx hb dM_read_176 rfl (lv_at hl 0 rfl) ?_
                            refine zm_row hx hb ht hown hK hZ tw_683 dM_read_177 ?_
                            refine zcS_i (P' := fun (u : (Nat → Nat → Nat) × zC) H => zMD E B u.1 u.2 H) 1 (As := [.ref (B + 4)]) (rest := []) ⟨hx, hb, hml, hown, ht⟩ (mM_size l E B w (0, fa, ct, be, fb, sb9, (2049 - st)) 4 (by decide) 264 rfl (by decide)) tw_774 tw_772 tw_773 tw_6 qM_size (by rw [hR]; decide) hZ hK hl.1 rfl rfl (Nat.le_of_ble_eq_true rfl) dM_read_180 ⟨Nat.zero_le _, Nat.zero_le _⟩ hS (fun r9 u H locs hp hZ _ hS => ?_)
                            obtain ⟨hu9, n, hr1, hn1, hn2, hn3⟩ := hp
                            subst hr1
                            rw [hu9] at hZ
                            dsimp only at hZ
                            clear hu9
                            have hnz : ∀ q, n ≤ q ↔ nb * V + dg (f j) < rP q := fun q => by rw [← hv_4]; exact size_le (hZ.2 4) hn1 hn2 hn3 q
                            refine lv_sipush (v := iZ (128)) hx hb dM_read_183 (by decide) ?_
                            refine zr_icmp_le (tgt := 195) hx hb (by unfold zi; omega) (by unfold zi; omega) dM_read_186 (by decide) (fun c_13 => ?_) (fun c_13 => ?_)
                            · refine lv_iinc (v := iZ (↑j + 1)) (lv' := [(4, .int (iZ (↑j + 1))), (0, .ref (B)), (1, .int (iZ (↑nto))), (2, .int (iZ (↑nb)))]) hx hb dM_read_195 hl (k := 3) rfl (iZ_add _ _) (by decide) rfl (fun ls hl => ?_)
                              refine lv_goto (tgt := 149) hx hb dM_read_198 (by decide) ?_
                              rw [show (↑j + 1 : Int) = ↑(j + 1) from by omega] at hl
                              exact ihL149 (j + 1) (nb * V + dg (f j)) w _ _ _ (by omega) (by omega) (hV2) ((hnz 128).mp (by omega)) hMR hdr hpa hv_4 hZ hS (lv_sub hl [1, 2, 3, 0] rfl)
                            · have hVb : rP 128 ≤ hv nb f fr (ct - fr) := by have h9 := hv_mono (base := nb) (by omega) f fr (j + 1 - fr) (ct - (j + 1)); rw [show j + 1 - fr + (ct - (j + 1)) = ct - fr by omega, ← hV2] at h9; have h8 : ¬ (nb * V + dg (f j)) < rP 128 := fun h7 => absurd ((hnz 128).mpr h7) (by omega); omega
                              have hnX : ¬ zX (rdv nb ct f) := by unfold rdv; rw [zX_sgz, ← hfr, ← rP_128]; exact Nat.not_lt.mpr hVb
                              refine lv_aload_n hx hb dM_read_189 rfl (lv_at hl 0 rfl) ?_
                              refine lv_iconst (v := iZ (3)) hx hb dM_read_190 (by decide) ?_
                              refine W.eq (g2 := F0 m 191 ls ([.int (iZ ((3 : Nat) : Int)), .ref B])) rfl ?_
                              refine zm_put_thrown (x := 3) hx hb ht hown hK hZ hS tw_677 dM_read_191 (fun H locs hZ hS => ?_)
                              have hZ : zMD E B w (3, fa, ct, be, fb, sb9, (2049 - st)) H := hZ
                              exact hend 194 () _ _ _ dM_read_194 trivial (by rcases SP_g hsp ⟨hk_nto, hgb⟩ with ⟨_, h, _⟩ | h | ⟨_, _, h, _⟩; exact absurd hnum h; rotate_left; exact absurd h hnX; obtain ⟨hk, _, hs⟩ := h; subst hk; subst hs; exact ⟨hok1, w, (3, fa, ct, be, fb, sb9, (2049 - st)), hZ, ⟨hMR, rfl, hdr, rfl, hpa⟩, rfl⟩) hS
                      exact L149 _ fr 0 w _ _ _ (Nat.lt_succ_self _) (by omega) (by rw [Nat.sub_self]; rfl) (rP_pos 128) hMR hdr hpa hv_4 hZ hS (lv_sub hl [1, 2, 3, 0] rfl)
                    · have ht2 : t = 2 := by have := hRI.h1; omega
                      rw [ht2] at hRI hZ
                      have hnn := RI_no hRI
                      exact hend 138 () _ _ _ dM_read_138 trivial (by rcases SP_g hsp ⟨hk_nto, hgb⟩ with h | ⟨_, h, _⟩ | ⟨_, h, _⟩; rotate_left; exact absurd h.1 hnn; exact absurd h hnn; obtain ⟨hk, _, hs⟩ := h; subst hk; subst hs; exact ⟨hok1, w, (2, fa, ct, be, fb, sb9, (2049 - st)), hZ, ⟨hMR, rfl, hdr, rfl, hpa⟩, rfl⟩) hS
                  · refine lv_aload_n hx hb dM_read_99 rfl (lv_at hl 0 rfl) ?_
                    refine lv_aload_n hx hb dM_read_100 rfl (lv_at hl 0 rfl) ?_
                    refine zm_draft hx hb ht hown hK hZ tw_679 dM_read_101 ?_
                    refine lv_iload hx hb dM_read_104 (lv_at hl 4 rfl) ?_
                    refine zm_ld (k := 1) (i := j) hx hb hK hZ (by decide) (by show j < 2100; omega) dM_read_106 ?_
                    rw [hdr j (by omega)]
                    refine zcS_i (P' := fun (u : (Nat → Nat → Nat) × zC) H => zMD E B u.1 u.2 H) 1 (As := [.int (iZ (((f j : Nat) : Int)))]) (rest := [.ref (B)]) ⟨hx, hb, hml, hown, ht⟩ (mM_digit l E B w (t, fa, ct, be, fb, sb9, (2049 - st)) (f j) (by have := hf9 j; omega)) tw_765 tw_763 tw_764 tw_6 qM_digit (by rw [hR]; decide) hZ hK hl.1 rfl rfl (Nat.le_of_ble_eq_true rfl) dM_read_107 ⟨Nat.zero_le _, Nat.zero_le _⟩ hS (fun r9 u H locs hp hZ _ hS => ?_)
                    obtain ⟨hu9, hr1⟩ := hp
                    subst hr1
                    rw [hu9] at hZ
                    dsimp only at hZ
                    clear hu9
                    have hdl := dg_le (f j)
                    refine lv_iload_n hx hb dM_read_110 rfl (lv_at hl 2 rfl) ?_
                    refine zr_icmp_lt (tgt := 118) hx hb (by unfold zi; omega) (by unfold zi; omega) dM_read_111 (by decide) (fun c_14 => ?_) (fun c_14 => ?_)
                    · have hdd : dg (f j) < nb := by omega
                      refine lv_aload_n hx hb dM_read_118 rfl (lv_at hl 0 rfl) ?_
                      refine zm_thrown hx hb ht hown hK hZ tw_677 dM_read_119 ?_
                      refine zc_i (y := iZ (↑t)) rfl ?_
                      refine zm_put_thrown (x := t) hx hb ht hown hK hZ hS tw_677 dM_read_122 (fun H locs hZ hS => ?_)
                      have hZ : zMD E B w (t, fa, ct, be, fb, sb9, (2049 - st)) H := hZ
                      refine lv_iinc (v := iZ (↑j + 1)) (lv' := [(4, .int (iZ (↑j + 1))), (0, .ref (B)), (1, .int (iZ (↑nto))), (2, .int (iZ (↑nb))), (3, .int (iZ (↑fr)))]) hx hb dM_read_125 hl (k := 4) rfl (iZ_add _ _) (by decide) rfl (fun ls hl => ?_)
                      refine lv_goto (tgt := 90) hx hb dM_read_128 (by decide) ?_
                      rw [show (↑j + 1 : Int) = ↑(j + 1) from by omega] at hl
                      exact ihL90 (j + 1) t w _ _ _ (by omega) (by omega) (RI_ok hRI hdd) hMR hdr hpa  hZ hS (lv_sub hl [1, 2, 3, 4, 0] rfl)
                    · have hdd : nb ≤ dg (f j) := by omega
                      refine lv_iconst (v := iZ (2)) hx hb dM_read_114 (by decide) ?_
                      refine lv_goto (tgt := 122) hx hb dM_read_115 (by decide) ?_
                      refine W.eq (g2 := F0 m 122 ls ([.int (iZ ((2 : Nat) : Int)), .ref B])) rfl ?_
                      refine zm_put_thrown (x := 2) hx hb ht hown hK hZ hS tw_677 dM_read_122 (fun H locs hZ hS => ?_)
                      have hZ : zMD E B w (2, fa, ct, be, fb, sb9, (2049 - st)) H := hZ
                      refine lv_iinc (v := iZ (↑j + 1)) (lv' := [(4, .int (iZ (↑j + 1))), (0, .ref (B)), (1, .int (iZ (↑nto))), (2, .int (iZ (↑nb))), (3, .int (iZ (↑fr)))]) hx hb dM_read_125 hl (k := 4) rfl (iZ_add _ _) (by decide) rfl (fun ls hl => ?_)
                      refine lv_goto (tgt := 90) hx hb dM_read_128 (by decide) ?_
                      rw [show (↑j + 1 : Int) = ↑(j + 1) from by omega] at hl
                      exact ihL90 (j + 1) 2 w _ _ _ (by omega) (by omega) (RI_bad hj.1 hdd) hMR hdr hpa  hZ hS (lv_sub hl [1, 2, 3, 4, 0] rfl)
              exact L90 _ fr 0 w0 _ _ _ (Nat.lt_succ_self _) (by omega) (hRI0) hMR hdr hpa  hZ hS (lv_sub hl [2, 3, 4, 1, 0] rfl)
            · refine lv_iconst (v := iZ (2)) hx hb dM_read_79 (by decide) ?_
              refine lv_goto (tgt := 84) hx hb dM_read_80 (by decide) ?_
              refine W.eq (g2 := F0 m 84 ls ([.int (iZ ((2 : Nat) : Int)), .ref B])) rfl ?_
              refine zm_put_thrown (x := 2) hx hb ht hown hK hZ hS tw_677 dM_read_84 (fun H locs hZ hS => ?_)
              have hZ : zMD E B w0 (2, fa, ct, be, fb, sb9, (2049 - st)) H := hZ
              have hRI0 : RI 2 fr ct fr nb f := ⟨Or.inr rfl, fun h9 => absurd h9 (by decide), fun _ => Or.inl (by omega)⟩
              refine lv_iload_n hx hb dM_read_87 rfl (lv_at hl 0 rfl) ?_
              refine lv_istore (lv' := [(4, .int (iZ (↑fr))), (3, .int (iZ (↑fr))), (0, .ref (B)), (1, .int (iZ (↑nto))), (2, .int (iZ (↑nb)))]) hx hb dM_read_88 hl (by decide) rfl (fun ls hl => ?_)
              have L90 : ∀ (fu : Nat) (j : Nat) (t : Nat) (w : Nat → Nat → Nat) (H : Heap) (locs : List Loc) (ls : Array Slot), ct - j < fu → (fr ≤ j ∧ j ≤ ct) → (RI t fr ct j nb f) → (MR w rg) → (∀ i, i < ct → w 1 i = f i) → (∀ i, i < 2049 - st → w 14 i = g (st + i)) → zMD E B w (t, fa, ct, be, fb, sb9, (2049 - st)) H → va_S (zA B 15) s.heap H locs → lv_has ls 5 [(0, .ref (B)), (1, .int (iZ (↑nto))), (2, .int (iZ (↑nb))), (3, .int (iZ (↑fr))), (4, .int (iZ (↑j)))] → W p l e R s m args below meth c H locs 0 0 Q (F0 m 90 ls []) := by
                intro fu
                induction fu with
                | zero => intro j t w H locs ls hm; exact absurd hm (Nat.not_lt_zero _)
                | succ fu ihL90 =>
                  intro j t w H locs ls hm hj hRI hMR hdr hpa hZ hS hl
                  refine lv_iload hx hb dM_read_90 (lv_at hl 4 rfl) ?_
                  refine lv_aload_n hx hb dM_read_92 rfl (lv_at hl 0 rfl) ?_
                  refine zm_length hx hb ht hown hK hZ tw_680 dM_read_93 ?_
                  refine zc_i (y := iZ (↑ct)) rfl ?_
                  refine zr_icmp_ge (tgt := 131) hx hb (by unfold zi; omega) (by unfold zi; omega) dM_read_96 (by decide) (fun c_15 => ?_) (fun c_15 => ?_)
                  · have hjc : j = ct := by omega
                    rw [hjc, hfr] at hRI
                    refine lv_aload_n hx hb dM_read_131 rfl (lv_at hl 0 rfl) ?_
                    refine zm_thrown hx hb ht hown hK hZ tw_677 dM_read_132 ?_
                    refine zc_i (y := iZ (↑t)) rfl ?_
                    refine zr_if_le (tgt := 139) hx hb (by have := hRI.h1; unfold zi; omega) dM_read_135 (by decide) (fun c_16 => ?_) (fun c_16 => ?_)
                    · have ht0 : t = 0 := by omega
                      rw [ht0] at hRI hZ
                      have hnum := RI_yes hRI
                      have hct0 : 0 < ct := by have := hnum.1; omega
                      refine lv_aload_n hx hb dM_read_139 rfl (lv_at hl 0 rfl) ?_
                      refine zm_row hx hb ht hown hK hZ tw_683 dM_read_140 ?_
                      refine zcS_v (P' := fun (u : (Nat → Nat → Nat) × zC) H => zMD E B u.1 u.2 H) 1 (As := [.ref (B + 4)]) (rest := []) ⟨hx, hb, hml, hown, ht⟩ (mM_clear l E B w (0, fa, ct, be, fb, sb9, (2049 - st)) 4 (by decide) 264 rfl (by decide)) tw_768 tw_766 tw_767 tw_6 qM_clear (by rw [hR]; decide) hZ hK hl.1 rfl rfl (Nat.le_of_ble_eq_true rfl) dM_read_143 ⟨Nat.zero_le _, Nat.zero_le _⟩ hS (fun u H locs hp hZ _ hS => ?_)
                      obtain ⟨w, q9⟩ := u
                      obtain ⟨ho, hq9, hcl⟩ := hp
                      dsimp only at *
                      rw [hq9] at hZ
                      replace hMR : MR w rg := MR_same (ho 2 (by decide)) (ho 3 (by decide)) hMR
                      replace hdr : ∀ i, i < ct → w 1 i = f i := fun i hi => by rw [ho 1 (by decide)]; exact hdr i hi
                      replace hpa : ∀ i, i < 2049 - st → w 14 i = g (st + i) := fun i hi => by rw [ho 14 (by decide)]; exact hpa i hi
                      have hv_4 : rv (w 4) 264 = 0 := by rw [rv_drop (m := 0) (Nat.zero_le _) (fun i _ h => hcl i h)]; rfl
                      have hcl4 := hcl
                      refine lv_iload_n hx hb dM_read_146 rfl (lv_at hl 3 rfl) ?_
                      refine lv_istore (lv' := [(4, .int (iZ (↑fr))), (0, .ref (B)), (1, .int (iZ (↑nto))), (2, .int (iZ (↑nb))), (3, .int (iZ (↑fr)))]) hx hb dM_read_147 hl (by decide) rfl (fun ls hl => ?_)
                      have L149 : ∀ (fu : Nat) (j : Nat) (V : Nat) (w : Nat → Nat → Nat) (H : Heap) (locs : List Loc) (ls : Array Slot), ct - j < fu → (fr ≤ j ∧ j ≤ ct) → (V = hv nb f fr (j - fr)) → (V < rP 128) → (MR w rg) → (∀ i, i < ct → w 1 i = f i) → (∀ i, i < 2049 - st → w 14 i = g (st + i)) → (rv (w 4) 264 = V) → zMD E B w (0, fa, ct, be, fb, sb9, (2049 - st)) H → va_S (zA B 15) s.heap H locs → lv_has ls 5 [(0, .ref (B)), (1, .int (iZ (↑nto))), (2, .int (iZ (↑nb))), (4, .int (iZ (↑j)))] → W p l e R s m args below meth c H locs 0 0 Q (F0 m 149 ls []) := by
                        intro fu
                        induction fu with
                        | zero => intro j V w H locs ls hm; exact absurd hm (Nat.not_lt_zero _)
                        | succ fu ihL149 =>
                          intro j V w H locs ls hm hj hV hV128 hMR hdr hpa hv_4 hZ hS hl
                          refine lv_iload hx hb dM_read_149 (lv_at hl 3 rfl) ?_
                          refine lv_aload_n hx hb dM_read_151 rfl (lv_at hl 0 rfl) ?_
                          refine zm_length hx hb ht hown hK hZ tw_680 dM_read_152 ?_
                          refine zc_i (y := iZ (↑ct)) rfl ?_
                          refine zr_icmp_ge (tgt := 201) hx hb (by unfold zi; omega) (by unfold zi; omega) dM_read_155 (by decide) (fun c_17 => ?_) (fun c_17 => ?_)
                          · have hjc : j = ct := by omega
                            rw [hjc] at hV
                            refine lv_aload_n hx hb dM_read_201 rfl (lv_at hl 0 rfl) ?_
                            refine lv_aload_n hx hb dM_read_202 rfl (lv_at hl 0 rfl) ?_
                            refine zm_draft hx hb ht hown hK hZ tw_679 dM_read_203 ?_
                            refine lv_iconst (v := iZ (0)) hx hb dM_read_206 (by decide) ?_
                            refine W.eq (g2 := F0 m 207 ls (.int (iZ ((0 : Nat) : Int)) :: .ref (B + 1) :: [.ref (B)])) rfl ?_
                            refine zm_ld (k := 1) (i := 0) hx hb hK hZ (by decide) (by show 0 < 2100; omega) dM_read_207 ?_
                            rw [hdr 0 hct0]
                            refine lv_bipush (v := iZ (45)) hx hb dM_read_208 (by decide) ?_
                            refine zr_icmp_ne (tgt := 217) hx hb (by unfold zi; omega) (by unfold zi; omega) dM_read_210 (by decide) (fun c_18 => ?_) (fun c_18 => ?_)
                            · have hb45 : ¬ f 0 = 45 := by omega
                              refine lv_iconst (v := iZ (0)) hx hb dM_read_217 (by decide) ?_
                              refine W.eq (g2 := F0 m 218 ls ([.int (iZ (bZ false)), .ref B])) rfl ?_
                              refine zm_put_below (x := false) hx hb ht hown hK hZ hS tw_684 dM_read_218 (fun H locs hZ hS => ?_)
                              have hZ : zMD E B w (0, fa, ct, false, fb, sb9, (2049 - st)) H := hZ
                              refine lv_aload_n hx hb dM_read_221 rfl (lv_at hl 0 rfl) ?_
                              refine lv_iload_n hx hb dM_read_222 rfl (lv_at hl 1 rfl) ?_
                              refine zcV_v (P' := fun (u : (Nat → Nat → Nat) × zC) H => zMD E B u.1 u.2 H) 1 (As := [.int (iZ (↑nto))]) (rest := []) rfl ⟨hx, hb, hml, hown, ht⟩ (mM_store l E B w (0, fa, ct, false, fb, sb9, (2049 - st)) nto h10_nto rg hMR) tw_779 tw_776 tw_778 tp_12 tw_6 qM_store (by rw [hR]; decide) (zm_recv hK hZ) hZ hK hl.1 rfl rfl (Nat.le_of_ble_eq_true rfl) dM_read_223 ⟨Nat.zero_le _, Nat.zero_le _⟩ hS (fun u H locs hp hZ _ hS => ?_)
                              obtain ⟨w, q9⟩ := u
                              obtain ⟨ho, hbig, hfit⟩ := hp
                              dsimp only at *
                              rw [hv_4] at hbig hfit
                              have hzz : (if false = true then -(((V : Nat) : Int)) else ((V : Nat) : Int)) = rdv nb ct f := by rw [if_neg (by decide)]; unfold rdv sgz; rw [if_neg (fun h9 => hb45 h9.2), ← hfr, ← hV]
                              have hzX : zX (rdv nb ct f) ↔ V < rP 128 := by rw [← hzz]; exact zX_if
                              rcases Nat.lt_or_ge (V) (rP 128) with hX | hX
                              · obtain ⟨hq9, hMR9⟩ := hfit hX
                                rw [hq9] at hZ
                                rw [hzz] at hMR9
                                have hzx := hzX.mpr hX
                                replace hdr : ∀ i, i < ct → w 1 i = f i := fun i hi => by rw [ho 1 (by decide) (by decide)]; exact hdr i hi
                                replace hpa : ∀ i, i < 2049 - st → w 14 i = g (st + i) := fun i hi => by rw [ho 14 (by decide) (by decide)]; exact hpa i hi
                                replace hv_4 : rv (w 4) 264 = V := by rw [ho 4 (by decide) (by decide)]; exact hv_4
                                have hMR : MR w (va_up rg nto (rdv nb ct f)) := hMR9
                                refine lv_aload_n hx hb dM_read_226 rfl (lv_at hl 0 rfl) ?_
                                refine lv_iconst (v := iZ (0)) hx hb dM_read_227 (by decide) ?_
                                refine W.eq (g2 := F0 m 228 ls ([.int (iZ ((0 : Nat) : Int)), .ref B])) rfl ?_
                                refine zm_put_length (x := 0) hx hb ht hown hK hZ hS tw_680 dM_read_228 (fun H locs hZ hS => ?_)
                                have hZ : zMD E B w (0, fa, 0, false, fb, sb9, (2049 - st)) H := hZ
                                exact hend 231 () _ _ _ dM_read_231 trivial (by rcases SP_g hsp ⟨hk_nto, hgb⟩ with ⟨_, h, _⟩ | ⟨_, h, _⟩ | ⟨hk, _, _, hs⟩; exact absurd hnum h; exact absurd hzx h.2; subst hk; subst hs; exact ⟨hok1, w, (0, fa, 0, false, fb, sb9, (2049 - st)), hZ, ⟨hMR, rfl, (fun i hi => absurd hi (Nat.not_lt_zero _)), rfl, hpa⟩, rfl⟩) hS
                              · obtain ⟨e1, e2⟩ := Prod.mk.inj (hbig hX)
                                rw [e2] at hZ
                                rw [← e1] at hMR hdr hpa
                                have hzx : ¬ zX (rdv nb ct f) := fun h9 => absurd (hzX.mp h9) (Nat.not_lt.mpr hX)
                                have hZ : zMD E B w (fa, fa, ct, false, fb, sb9, (2049 - st)) H := hZ
                                exact absurd hV128 (Nat.not_lt.mpr hX)
                            · have hb45 : f 0 = 45 := by omega
                              refine lv_iconst (v := iZ (1)) hx hb dM_read_213 (by decide) ?_
                              refine lv_goto (tgt := 218) hx hb dM_read_214 (by decide) ?_
                              refine W.eq (g2 := F0 m 218 ls ([.int (iZ (bZ true)), .ref B])) rfl ?_
                              refine zm_put_below (x := true) hx hb ht hown hK hZ hS tw_684 dM_read_218 (fun H locs hZ hS => ?_)
                              have hZ : zMD E B w (0, fa, ct, true, fb, sb9, (2049 - st)) H := hZ
                              refine lv_aload_n hx hb dM_read_221 rfl (lv_at hl 0 rfl) ?_
                              refine lv_iload_n hx hb dM_read_222 rfl (lv_at hl 1 rfl) ?_
                              refine zcV_v (P' := fun (u : (Nat → Nat → Nat) × zC) H => zMD E B u.1 u.2 H) 1 (As := [.int (iZ (↑nto))]) (rest := []) rfl ⟨hx, hb, hml, hown, ht⟩ (mM_store l E B w (0, fa, ct, true, fb, sb9, (2049 - st)) nto h10_nto rg hMR) tw_779 tw_776 tw_778 tp_12 tw_6 qM_store (by rw [hR]; decide) (zm_recv hK hZ) hZ hK hl.1 rfl rfl (Nat.le_of_ble_eq_true rfl) dM_read_223 ⟨Nat.zero_le _, Nat.zero_le _⟩ hS (fun u H locs hp hZ _ hS => ?_)
                              obtain ⟨w, q9⟩ := u
                              obtain ⟨ho, hbig, hfit⟩ := hp
                              dsimp only at *
                              rw [hv_4] at hbig hfit
                              have hzz : (if true = true then -(((V : Nat) : Int)) else ((V : Nat) : Int)) = rdv nb ct f := by rw [if_pos rfl]; unfold rdv sgz; rw [if_pos ⟨hct0, hb45⟩, ← hfr, ← hV]
                              have hzX : zX (rdv nb ct f) ↔ V < rP 128 := by rw [← hzz]; exact zX_if
                              rcases Nat.lt_or_ge (V) (rP 128) with hX | hX
                              · obtain ⟨hq9, hMR9⟩ := hfit hX
                                rw [hq9] at hZ
                                rw [hzz] at hMR9
                                have hzx := hzX.mpr hX
                                replace hdr : ∀ i, i < ct → w 1 i = f i := fun i hi => by rw [ho 1 (by decide) (by decide)]; exact hdr i hi
                                replace hpa : ∀ i, i < 2049 - st → w 14 i = g (st + i) := fun i hi => by rw [ho 14 (by decide) (by decide)]; exact hpa i hi
                                replace hv_4 : rv (w 4) 264 = V := by rw [ho 4 (by decide) (by decide)]; exact hv_4
                                have hMR : MR w (va_up rg nto (rdv nb ct f)) := hMR9
                                refine lv_aload_n hx hb dM_read_226 rfl (lv_at hl 0 rfl) ?_
                                refine lv_iconst (v := iZ (0)) hx hb dM_read_227 (by decide) ?_
                                refine W.eq (g2 := F0 m 228 ls ([.int (iZ ((0 : Nat) : Int)), .ref B])) rfl ?_
                                refine zm_put_length (x := 0) hx hb ht hown hK hZ hS tw_680 dM_read_228 (fun H locs hZ hS => ?_)
                                have hZ : zMD E B w (0, fa, 0, true, fb, sb9, (2049 - st)) H := hZ
                                exact hend 231 () _ _ _ dM_read_231 trivial (by rcases SP_g hsp ⟨hk_nto, hgb⟩ with ⟨_, h, _⟩ | ⟨_, h, _⟩ | ⟨hk, _, _, hs⟩; exact absurd hnum h; exact absurd hzx h.2; subst hk; subst hs; exact ⟨hok1, w, (0, fa, 0, true, fb, sb9, (2049 - st)), hZ, ⟨hMR, rfl, (fun i hi => absurd hi (Nat.not_lt_zero _)), rfl, hpa⟩, rfl⟩) hS
                              · obtain ⟨e1, e2⟩ := Prod.mk.inj (hbig hX)
                                rw [e2] at hZ
                                rw [← e1] at hMR hdr hpa
                                have hzx : ¬ zX (rdv nb ct f) := fun h9 => absurd (hzX.mp h9) (Nat.not_lt.mpr hX)
                                have hZ : zMD E B w (fa, fa, ct, true, fb, sb9, (2049 - st)) H := hZ
                                exact absurd hV128 (Nat.not_lt.mpr hX)
                          · refine lv_aload_n hx hb dM_read_158 rfl (lv_at hl 0 rfl) ?_
                            refine zm_row hx hb ht hown hK hZ tw_683 dM_read_159 ?_
                            refine lv_iload_n hx hb dM_read_162 rfl (lv_at hl 2 rfl) ?_
                            refine lv_aload_n hx hb dM_read_163 rfl (lv_at hl 0 rfl) ?_
                            refine zm_draft hx hb ht hown hK hZ tw_679 dM_read_164 ?_
                            refine lv_iload hx hb dM_read_167 (lv_at hl 3 rfl) ?_
                            refine zm_ld (k := 1) (i := j) hx hb hK hZ (by decide) (by show j < 2100; omega) dM_read_169 ?_
                            rw [hdr j (by omega)]
                            refine zcS_i (P' := fun (u : (Nat → Nat → Nat) × zC) H => zMD E B u.1 u.2 H) 1 (As := [.int (iZ (((f j : Nat) : Int)))]) (rest := [.int (iZ (↑nb)), .ref (B + 4)]) ⟨hx, hb, hml, hown, ht⟩ (mM_digit l E B w (0, fa, ct, be, fb, sb9, (2049 - st)) (f j) (by have := hf9 j; omega)) tw_765 tw_763 tw_764 tw_6 qM_digit (by rw [hR]; decide) hZ hK hl.1 rfl rfl (Nat.le_of_ble_eq_true rfl) dM_read_170 ⟨Nat.zero_le _, Nat.zero_le _⟩ hS (fun r9 u H locs hp hZ _ hS => ?_)
                            obtain ⟨hu9, hr1⟩ := hp
                            subst hr1
                            rw [hu9] at hZ
                            dsimp only at hZ
                            clear hu9
                            refine zcS_v (P' := fun (u : (Nat → Nat → Nat) × zC) H => zMD E B u.1 u.2 H) 3 (As := [.ref (B + 4), .int (iZ (↑nb)), .int (iZ (((dg (f j) : Nat) : Int)))]) (rest := []) ⟨hx, hb, hml, hown, ht⟩ (mM_grow l E B w (0, fa, ct, be, fb, sb9, (2049 - st)) 4 (by decide) rfl nb (dg (f j)) (by omega) (dg_le _) (by rw [hv_4]; exact rgrow_264 (by omega) (dg_le _) hV128)) tw_771 tw_769 tw_770 tw_6 qM_grow (by rw [hR]; decide) hZ hK hl.1 rfl rfl (Nat.le_of_ble_eq_true rfl) dM_read_173 ⟨Nat.zero_le _, Nat.zero_le _⟩ hS (fun u H locs hp hZ _ hS => ?_)
                            obtain ⟨w, q9⟩ := u
                            obtain ⟨ho, hq9, hgv⟩ := hp
                            dsimp only at *
                            rw [hq9] at hZ
                            rw [hv_4] at hgv
                            replace hMR : MR w rg := MR_same (ho 2 (by decide)) (ho 3 (by decide)) hMR
                            replace hdr : ∀ i, i < ct → w 1 i = f i := fun i hi => by rw [ho 1 (by decide)]; exact hdr i hi
                            replace hpa : ∀ i, i < 2049 - st → w 14 i = g (st + i) := fun i hi => by rw [ho 14 (by decide)]; exact hpa i hi
                            clear hv_4
                            have hv_4 : rv (w 4) 264 = nb * V + dg (f j) := hgv
                            clear hgv
                            have hV2 : nb * V + dg (f j) = hv nb f fr (j + 1 - fr) := by rw [hV, show j + 1 - fr = (j - fr) + 1 by omega, hv_s, show fr + (j - fr) = j by omega, Nat.mul_comm]
                            refine lv_aload_n hx hb dM_read_176 rfl (lv_at hl 0 rfl) ?_
                            refine zm_row hx hb ht hown hK hZ tw_683 dM_read_177 ?_
                            refine zcS_i (P' := fun (u : (Nat → Nat → Nat) × zC) H => zMD E B u.1 u.2 H) 1 (As := [.ref (B + 4)]) (rest := []) ⟨hx, hb, hml, hown, ht⟩ (mM_size l E B w (0, fa, ct, be, fb, sb9, (2049 - st)) 4 (by decide) 264 rfl (by decide)) tw_774 tw_772 tw_773 tw_6 qM_size (by rw [hR]; decide) hZ hK hl.1 rfl rfl (Nat.le_of_ble_eq_true rfl) dM_read_180 ⟨Nat.zero_le _, Nat.zero_le _⟩ hS (fun r9 u H locs hp hZ _ hS => ?_)
                            obtain ⟨hu9, n, hr1, hn1, hn2, hn3⟩ := hp
                            subst hr1
                            rw [hu9] at hZ
                            dsimp only at hZ
                            clear hu9
                            have hnz : ∀ q, n ≤ q ↔ nb * V + dg (f j) < rP q := fun q => by rw [← hv_4]; exact size_le (hZ.2 4) hn1 hn2 hn3 q
                            refine lv_sipush (v := iZ (128)) hx hb dM_read_183 (by decide) ?_
                            refine zr_icmp_le (tgt := 195) hx hb (by unfold zi; omega) (by unfold zi; omega) dM_read_186 (by decide) (fun c_19 => ?_) (fun c_19 => ?_)
                            · refine lv_iinc (v := iZ (↑j + 1)) (lv' := [(4, .int (iZ (↑j + 1))), (0, .ref (B)), (1, .int (iZ (↑nto))), (2, .int (iZ (↑nb)))]) hx hb dM_read_195 hl (k := 3) rfl (iZ_add _ _) (by decide) rfl (fun ls hl => ?_)
                              refine lv_goto (tgt := 149) hx hb dM_read_198 (by decide) ?_
                              rw [show (↑j + 1 : Int) = ↑(j + 1) from by omega] at hl
                              exact ihL149 (j + 1) (nb * V + dg (f j)) w _ _ _ (by omega) (by omega) (hV2) ((hnz 128).mp (by omega)) hMR hdr hpa hv_4 hZ hS (lv_sub hl [1, 2, 3, 0] rfl)
                            · have hVb : rP 128 ≤ hv nb f fr (ct - fr) := by have h9 := hv_mono (base := nb) (by omega) f fr (j + 1 - fr) (ct - (j + 1)); rw [show j + 1 - fr + (ct - (j + 1)) = ct - fr by omega, ← hV2] at h9; have h8 : ¬ (nb * V + dg (f j)) < rP 128 := fun h7 => absurd ((hnz 128).mpr h7) (by omega); omega
                              have hnX : ¬ zX (rdv nb ct f) := by unfold rdv; rw [zX_sgz, ← hfr, ← rP_128]; exact Nat.not_lt.mpr hVb
                              refine lv_aload_n hx hb dM_read_189 rfl (lv_at hl 0 rfl) ?_
                              refine lv_iconst (v := iZ (3)) hx hb dM_read_190 (by decide) ?_
                              refine W.eq (g2 := F0 m 191 ls ([.int (iZ ((3 : Nat) : Int)), .ref B])) rfl ?_
                              refine zm_put_thrown (x := 3) hx hb ht hown hK hZ hS tw_677 dM_read_191 (fun H locs hZ hS => ?_)
                              have hZ : zMD E B w (3, fa, ct, be, fb, sb9, (2049 - st)) H := hZ
                              exact hend 194 () _ _ _ dM_read_194 trivial (by rcases SP_g hsp ⟨hk_nto, hgb⟩ with ⟨_, h, _⟩ | h | ⟨_, _, h, _⟩; exact absurd hnum h; rotate_left; exact absurd h hnX; obtain ⟨hk, _, hs⟩ := h; subst hk; subst hs; exact ⟨hok1, w, (3, fa, ct, be, fb, sb9, (2049 - st)), hZ, ⟨hMR, rfl, hdr, rfl, hpa⟩, rfl⟩) hS
                      exact L149 _ fr 0 w _ _ _ (Nat.lt_succ_self _) (by omega) (by rw [Nat.sub_self]; rfl) (rP_pos 128) hMR hdr hpa hv_4 hZ hS (lv_sub hl [1, 2, 3, 0] rfl)
                    · have ht2 : t = 2 := by have := hRI.h1; omega
                      rw [ht2] at hRI hZ
                      have hnn := RI_no hRI
                      exact hend 138 () _ _ _ dM_read_138 trivial (by rcases SP_g hsp ⟨hk_nto, hgb⟩ with h | ⟨_, h, _⟩ | ⟨_, h, _⟩; rotate_left; exact absurd h.1 hnn; exact absurd h hnn; obtain ⟨hk, _, hs⟩ := h; subst hk; subst hs; exact ⟨hok1, w, (2, fa, ct, be, fb, sb9, (2049 - st)), hZ, ⟨hMR, rfl, hdr, rfl, hpa⟩, rfl⟩) hS
                  · refine lv_aload_n hx hb dM_read_99 rfl (lv_at hl 0 rfl) ?_
                    refine lv_aload_n hx hb dM_read_100 rfl (lv_at hl 0 rfl) ?_
                    refine zm_draft hx hb ht hown hK hZ tw_679 dM_read_101 ?_
                    refine lv_iload hx hb dM_read_104 (lv_at hl 4 rfl) ?_
                    refine zm_ld (k := 1) (i := j) hx hb hK hZ (by decide) (by show j < 2100; omega) dM_read_106 ?_
                    rw [hdr j (by omega)]
                    refine zcS_i (P' := fun (u : (Nat → Nat → Nat) × zC) H => zMD E B u.1 u.2 H) 1 (As := [.int (iZ (((f j : Nat) : Int)))]) (rest := [.ref (B)]) ⟨hx, hb, hml, hown, ht⟩ (mM_digit l E B w (t, fa, ct, be, fb, sb9, (2049 - st)) (f j) (by have := hf9 j; omega)) tw_765 tw_763 tw_764 tw_6 qM_digit (by rw [hR]; decide) hZ hK hl.1 rfl rfl (Nat.le_of_ble_eq_true rfl) dM_read_107 ⟨Nat.zero_le _, Nat.zero_le _⟩ hS (fun r9 u H locs hp hZ _ hS => ?_)
                    obtain ⟨hu9, hr1⟩ := hp
                    subst hr1
                    rw [hu9] at hZ
                    dsimp only at hZ
                    clear hu9
                    have hdl := dg_le (f j)
                    refine lv_iload_n hx hb dM_read_110 rfl (lv_at hl 2 rfl) ?_
                    refine zr_icmp_lt (tgt := 118) hx hb (by unfold zi; omega) (by unfold zi; omega) dM_read_111 (by decide) (fun c_20 => ?_) (fun c_20 => ?_)
                    · have hdd : dg (f j) < nb := by omega
                      refine lv_aload_n hx hb dM_read_118 rfl (lv_at hl 0 rfl) ?_
                      refine zm_thrown hx hb ht hown hK hZ tw_677 dM_read_119 ?_
                      refine zc_i (y := iZ (↑t)) rfl ?_
                      refine zm_put_thrown (x := t) hx hb ht hown hK hZ hS tw_677 dM_read_122 (fun H locs hZ hS => ?_)
                      have hZ : zMD E B w (t, fa, ct, be, fb, sb9, (2049 - st)) H := hZ
                      refine lv_iinc (v := iZ (↑j + 1)) (lv' := [(4, .int (iZ (↑j + 1))), (0, .ref (B)), (1, .int (iZ (↑nto))), (2, .int (iZ (↑nb))), (3, .int (iZ (↑fr)))]) hx hb dM_read_125 hl (k := 4) rfl (iZ_add _ _) (by decide) rfl (fun ls hl => ?_)
                      refine lv_goto (tgt := 90) hx hb dM_read_128 (by decide) ?_
                      rw [show (↑j + 1 : Int) = ↑(j + 1) from by omega] at hl
                      exact ihL90 (j + 1) t w _ _ _ (by omega) (by omega) (RI_ok hRI hdd) hMR hdr hpa  hZ hS (lv_sub hl [1, 2, 3, 4, 0] rfl)
                    · have hdd : nb ≤ dg (f j) := by omega
                      refine lv_iconst (v := iZ (2)) hx hb dM_read_114 (by decide) ?_
                      refine lv_goto (tgt := 122) hx hb dM_read_115 (by decide) ?_
                      refine W.eq (g2 := F0 m 122 ls ([.int (iZ ((2 : Nat) : Int)), .ref B])) rfl ?_
                      refine zm_put_thrown (x := 2) hx hb ht hown hK hZ hS tw_677 dM_read_122 (fun H locs hZ hS => ?_)
                      have hZ : zMD E B w (2, fa, ct, be, fb, sb9, (2049 - st)) H := hZ
                      refine lv_iinc (v := iZ (↑j + 1)) (lv' := [(4, .int (iZ (↑j + 1))), (0, .ref (B)), (1, .int (iZ (↑nto))), (2, .int (iZ (↑nb))), (3, .int (iZ (↑fr)))]) hx hb dM_read_125 hl (k := 4) rfl (iZ_add _ _) (by decide) rfl (fun ls hl => ?_)
                      refine lv_goto (tgt := 90) hx hb dM_read_128 (by decide) ?_
                      rw [show (↑j + 1 : Int) = ↑(j + 1) from by omega] at hl
                      exact ihL90 (j + 1) 2 w _ _ _ (by omega) (by omega) (RI_bad hj.1 hdd) hMR hdr hpa  hZ hS (lv_sub hl [1, 2, 3, 4, 0] rfl)
              exact L90 _ fr 2 w0 _ _ _ (Nat.lt_succ_self _) (by omega) (hRI0) hMR hdr hpa  hZ hS (lv_sub hl [2, 3, 4, 1, 0] rfl)
          · refine lv_aload_n hx hb dM_read_42 rfl (lv_at hl 0 rfl) ?_
            refine zm_draft hx hb ht hown hK hZ tw_679 dM_read_43 ?_
            refine lv_iconst (v := iZ (0)) hx hb dM_read_46 (by decide) ?_
            refine W.eq (g2 := F0 m 47 ls (.int (iZ ((0 : Nat) : Int)) :: .ref (B + 1) :: [])) rfl ?_
            refine zm_ld (k := 1) (i := 0) hx hb hK hZ (by decide) (by show 0 < 2100; omega) dM_read_47 ?_
            rw [hdr 0 (by omega)]
            refine lv_bipush (v := iZ (43)) hx hb dM_read_48 (by decide) ?_
            refine zr_icmp_eq (tgt := 64) hx hb (by unfold zi; omega) (by unfold zi; omega) dM_read_50 (by decide) (fun c_21 => ?_) (fun c_21 => ?_)
            · refine lv_iconst (v := iZ (1)) hx hb dM_read_64 (by decide) ?_
              refine lv_goto (tgt := 69) hx hb dM_read_65 (by decide) ?_
              refine zc_i (y := iZ ((stt ct f : Nat) : Int)) (congrArg iZ (by unfold stt; rw [if_pos ⟨by omega, by omega⟩]; rfl)) ?_
              obtain ⟨fr, hfr⟩ : ∃ q, q = stt ct f := ⟨_, rfl⟩
              rw [← hfr]
              have hfrc : fr ≤ ct := by rw [hfr]; exact stt_ct ct f
              refine lv_istore_n (lv' := [(3, .int (iZ (↑fr))), (0, .ref (B)), (1, .int (iZ (↑nto))), (2, .int (iZ (↑nb)))]) hx hb dM_read_69 rfl hl (by decide) rfl (fun ls hl => ?_)
              refine lv_aload_n hx hb dM_read_70 rfl (lv_at hl 1 rfl) ?_
              refine lv_iload_n hx hb dM_read_71 rfl (lv_at hl 0 rfl) ?_
              refine lv_aload_n hx hb dM_read_72 rfl (lv_at hl 1 rfl) ?_
              refine zm_length hx hb ht hown hK hZ tw_680 dM_read_73 ?_
              refine zc_i (y := iZ (↑ct)) rfl ?_
              refine zr_icmp_ne (tgt := 83) hx hb (by unfold zi; omega) (by unfold zi; omega) dM_read_76 (by decide) (fun c_22 => ?_) (fun c_22 => ?_)
              · refine lv_iconst (v := iZ (0)) hx hb dM_read_83 (by decide) ?_
                refine W.eq (g2 := F0 m 84 ls ([.int (iZ ((0 : Nat) : Int)), .ref B])) rfl ?_
                refine zm_put_thrown (x := 0) hx hb ht hown hK hZ hS tw_677 dM_read_84 (fun H locs hZ hS => ?_)
                have hZ : zMD E B w0 (0, fa, ct, be, fb, sb9, (2049 - st)) H := hZ
                have hRI0 : RI 0 fr ct fr nb f := ⟨Or.inl rfl, fun _ => ⟨by omega, fun i a b => absurd a (by omega)⟩, fun h9 => absurd h9 (by decide)⟩
                refine lv_iload_n hx hb dM_read_87 rfl (lv_at hl 0 rfl) ?_
                refine lv_istore (lv' := [(4, .int (iZ (↑fr))), (3, .int (iZ (↑fr))), (0, .ref (B)), (1, .int (iZ (↑nto))), (2, .int (iZ (↑nb)))]) hx hb dM_read_88 hl (by decide) rfl (fun ls hl => ?_)
                have L90 : ∀ (fu : Nat) (j : Nat) (t : Nat) (w : Nat → Nat → Nat) (H : Heap) (locs : List Loc) (ls : Array Slot), ct - j < fu → (fr ≤ j ∧ j ≤ ct) → (RI t fr ct j nb f) → (MR w rg) → (∀ i, i < ct → w 1 i = f i) → (∀ i, i < 2049 - st → w 14 i = g (st + i)) → zMD E B w (t, fa, ct, be, fb, sb9, (2049 - st)) H → va_S (zA B 15) s.heap H locs → lv_has ls 5 [(0, .ref (B)), (1, .int (iZ (↑nto))), (2, .int (iZ (↑nb))), (3, .int (iZ (↑fr))), (4, .int (iZ (↑j)))] → W p l e R s m args below meth c H locs 0 0 Q (F0 m 90 ls []) := by
                  intro fu
                  induction fu with
                  | zero => intro j t w H locs ls hm; exact absurd hm (Nat.not_lt_zero _)
                  | succ fu ihL90 =>
                    intro j t w H locs ls hm hj hRI hMR hdr hpa hZ hS hl
                    refine lv_iload hx hb dM_read_90 (lv_at hl 4 rfl) ?_
                    refine lv_aload_n hx hb dM_read_92 rfl (lv_at hl 0 rfl) ?_
                    refine zm_length hx hb ht hown hK hZ tw_680 dM_read_93 ?_
                    refine zc_i (y := iZ (↑ct)) rfl ?_
                    refine zr_icmp_ge (tgt := 131) hx hb (by unfold zi; omega) (by unfold zi; omega) dM_read_96 (by decide) (fun c_23 => ?_) (fun c_23 => ?_)
                    · have hjc : j = ct := by omega
                      rw [hjc, hfr] at hRI
                      refine lv_aload_n hx hb dM_read_131 rfl (lv_at hl 0 rfl) ?_
                      refine zm_thrown hx hb ht hown hK hZ tw_677 dM_read_132 ?_
                      refine zc_i (y := iZ (↑t)) rfl ?_
                      refine zr_if_le (tgt := 139) hx hb (by have := hRI.h1; unfold zi; omega) dM_read_135 (by decide) (fun c_24 => ?_) (fun c_24 => ?_)
                      · have ht0 : t = 0 := by omega
                        rw [ht0] at hRI hZ
                        have hnum := RI_yes hRI
                        have hct0 : 0 < ct := by have := hnum.1; omega
                        refine lv_aload_n hx hb dM_read_139 rfl (lv_at hl 0 rfl) ?_
                        refine zm_row hx hb ht hown hK hZ tw_683 dM_read_140 ?_
                        refine zcS_v (P' := fun (u : (Nat → Nat → Nat) × zC) H => zMD E B u.1 u.2 H) 1 (As := [.ref (B + 4)]) (rest := []) ⟨hx, hb, hml, hown, ht⟩ (mM_clear l E B w (0, fa, ct, be, fb, sb9, (2049 - st)) 4 (by decide) 264 rfl (by decide)) tw_768 tw_766 tw_767 tw_6 qM_clear (by rw [hR]; decide) hZ hK hl.1 rfl rfl (Nat.le_of_ble_eq_true rfl) dM_read_143 ⟨Nat.zero_le _, Nat.zero_le _⟩ hS (fun u H locs hp hZ _ hS => ?_)
                        obtain ⟨w, q9⟩ := u
                        obtain ⟨ho, hq9, hcl⟩ := hp
                        dsimp only at *
                        rw [hq9] at hZ
                        replace hMR : MR w rg := MR_same (ho 2 (by decide)) (ho 3 (by decide)) hMR
                        replace hdr : ∀ i, i < ct → w 1 i = f i := fun i hi => by rw [ho 1 (by decide)]; exact hdr i hi
                        replace hpa : ∀ i, i < 2049 - st → w 14 i = g (st + i) := fun i hi => by rw [ho 14 (by decide)]; exact hpa i hi
                        have hv_4 : rv (w 4) 264 = 0 := by rw [rv_drop (m := 0) (Nat.zero_le _) (fun i _ h => hcl i h)]; rfl
                        have hcl4 := hcl
                        refine lv_iload_n hx hb dM_read_146 rfl (lv_at hl 3 rfl) ?_
                        refine lv_istore (lv' := [(4, .int (iZ (↑fr))), (0, .ref (B)), (1, .int (iZ (↑nto))), (2, .int (iZ (↑nb))), (3, .int (iZ (↑fr)))]) hx hb dM_read_147 hl (by decide) rfl (fun ls hl => ?_)
                        have L149 : ∀ (fu : Nat) (j : Nat) (V : Nat) (w : Nat → Nat → Nat) (H : Heap) (locs : List Loc) (ls : Array Slot), ct - j < fu → (fr ≤ j ∧ j ≤ ct) → (V = hv nb f fr (j - fr)) → (V < rP 128) → (MR w rg) → (∀ i, i < ct → w 1 i = f i) → (∀ i, i < 2049 - st → w 14 i = g (st + i)) → (rv (w 4) 264 = V) → zMD E B w (0, fa, ct, be, fb, sb9, (2049 - st)) H → va_S (zA B 15) s.heap H locs → lv_has ls 5 [(0, .ref (B)), (1, .int (iZ (↑nto))), (2, .int (iZ (↑nb))), (4, .int (iZ (↑j)))] → W p l e R s m args below meth c H locs 0 0 Q (F0 m 149 ls []) := by
                          intro fu
                          induction fu with
                          | zero => intro j V w H locs ls hm; exact absurd hm (Nat.not_lt_zero _)
                          | succ fu ihL149 =>
                            intro j V w H locs ls hm hj hV hV128 hMR hdr hpa hv_4 hZ hS hl
                            refine lv_iload hx hb dM_read_149 (lv_at hl 3 rfl) ?_
                            refine lv_aload_n hx hb dM_read_151 rfl (lv_at hl 0 rfl) ?_
                            refine zm_length hx hb ht hown hK hZ tw_680 dM_read_152 ?_
                            refine zc_i (y := iZ (↑ct)) rfl ?_
                            refine zr_icmp_ge (tgt := 201) hx hb (by unfold zi; omega) (by unfold zi; omega) dM_read_155 (by decide) (fun c_25 => ?_) (fun c_25 => ?_)
                            · have hjc : j = ct := by omega
                              rw [hjc] at hV
                              refine lv_aload_n hx hb dM_read_201 rfl (lv_at hl 0 rfl) ?_
                              refine lv_aload_n hx hb dM_read_202 rfl (lv_at hl 0 rfl) ?_
                              refine zm_draft hx hb ht hown hK hZ tw_679 dM_read_203 ?_
                              refine lv_iconst (v := iZ (0)) hx hb dM_read_206 (by decide) ?_
                              refine W.eq (g2 := F0 m 207 ls (.int (iZ ((0 : Nat) : Int)) :: .ref (B + 1) :: [.ref (B)])) rfl ?_
                              refine zm_ld (k := 1) (i := 0) hx hb hK hZ (by decide) (by show 0 < 2100; omega) dM_read_207 ?_
                              rw [hdr 0 hct0]
                              refine lv_bipush (v := iZ (45)) hx hb dM_read_208 (by decide) ?_
                              refine zr_icmp_ne (tgt := 217) hx hb (by unfold zi; omega) (by unfold zi; omega) dM_read_210 (by decide) (fun c_26 => ?_) (fun c_26 => ?_)
                              · have hb45 : ¬ f 0 = 45 := by omega
                                refine lv_iconst (v := iZ (0)) hx hb dM_read_217 (by decide) ?_
                                refine W.eq (g2 := F0 m 218 ls ([.int (iZ (bZ false)), .ref B])) rfl ?_
                                refine zm_put_below (x := false) hx hb ht hown hK hZ hS tw_684 dM_read_218 (fun H locs hZ hS => ?_)
                                have hZ : zMD E B w (0, fa, ct, false, fb, sb9, (2049 - st)) H := hZ
                                refine lv_aload_n hx hb dM_read_221 rfl (lv_at hl 0 rfl) ?_
                                refine lv_iload_n hx hb dM_read_222 rfl (lv_at hl 1 rfl) ?_
                                refine zcV_v (P' := fun (u : (Nat → Nat → Nat) × zC) H => zMD E B u.1 u.2 H) 1 (As := [.int (iZ (↑nto))]) (rest := []) rfl ⟨hx, hb, hml, hown, ht⟩ (mM_store l E B w (0, fa, ct, false, fb, sb9, (2049 - st)) nto h10_nto rg hMR) tw_779 tw_776 tw_778 tp_12 tw_6 qM_store (by rw [hR]; decide) (zm_recv hK hZ) hZ hK hl.1 rfl rfl (Nat.le_of_ble_eq_true rfl) dM_read_223 ⟨Nat.zero_le _, Nat.zero_le _⟩ hS (fun u H locs hp hZ _ hS => ?_)
                                obtain ⟨w, q9⟩ := u
                                obtain ⟨ho, hbig, hfit⟩ := hp
                                dsimp only at *
                                rw [hv_4] at hbig hfit
                                have hzz : (if false = true then -(((V : Nat) : Int)) else ((V : Nat) : Int)) = rdv nb ct f := by rw [if_neg (by decide)]; unfold rdv sgz; rw [if_neg (fun h9 => hb45 h9.2), ← hfr, ← hV]
                                have hzX : zX (rdv nb ct f) ↔ V < rP 128 := by rw [← hzz]; exact zX_if
                                rcases Nat.lt_or_ge (V) (rP 128) with hX | hX
                                · obtain ⟨hq9, hMR9⟩ := hfit hX
                                  rw [hq9] at hZ
                                  rw [hzz] at hMR9
                                  have hzx := hzX.mpr hX
                                  replace hdr : ∀ i, i < ct → w 1 i = f i := fun i hi => by rw [ho 1 (by decide) (by decide)]; exact hdr i hi
                                  replace hpa : ∀ i, i < 2049 - st → w 14 i = g (st + i) := fun i hi => by rw [ho 14 (by decide) (by decide)]; exact hpa i hi
                                  replace hv_4 : rv (w 4) 264 = V := by rw [ho 4 (by decide) (by decide)]; exact hv_4
                                  have hMR : MR w (va_up rg nto (rdv nb ct f)) := hMR9
                                  refine lv_aload_n hx hb dM_read_226 rfl (lv_at hl 0 rfl) ?_
                                  refine lv_iconst (v := iZ (0)) hx hb dM_read_227 (by decide) ?_
                                  refine W.eq (g2 := F0 m 228 ls ([.int (iZ ((0 : Nat) : Int)), .ref B])) rfl ?_
                                  refine zm_put_length (x := 0) hx hb ht hown hK hZ hS tw_680 dM_read_228 (fun H locs hZ hS => ?_)
                                  have hZ : zMD E B w (0, fa, 0, false, fb, sb9, (2049 - st)) H := hZ
                                  exact hend 231 () _ _ _ dM_read_231 trivial (by rcases SP_g hsp ⟨hk_nto, hgb⟩ with ⟨_, h, _⟩ | ⟨_, h, _⟩ | ⟨hk, _, _, hs⟩; exact absurd hnum h; exact absurd hzx h.2; subst hk; subst hs; exact ⟨hok1, w, (0, fa, 0, false, fb, sb9, (2049 - st)), hZ, ⟨hMR, rfl, (fun i hi => absurd hi (Nat.not_lt_zero _)), rfl, hpa⟩, rfl⟩) hS
                                · obtain ⟨e1, e2⟩ := Prod.mk.inj (hbig hX)
                                  rw [e2] at hZ
                                  rw [← e1] at hMR hdr hpa
                                  have hzx : ¬ zX (rdv nb ct f) := fun h9 => absurd (hzX.mp h9) (Nat.not_lt.mpr hX)
                                  have hZ : zMD E B w (fa, fa, ct, false, fb, sb9, (2049 - st)) H := hZ
                                  exact absurd hV128 (Nat.not_lt.mpr hX)
                              · have hb45 : f 0 = 45 := by omega
                                refine lv_iconst (v := iZ (1)) hx hb dM_read_213 (by decide) ?_
                                refine lv_goto (tgt := 218) hx hb dM_read_214 (by decide) ?_
                                refine W.eq (g2 := F0 m 218 ls ([.int (iZ (bZ true)), .ref B])) rfl ?_
                                refine zm_put_below (x := true) hx hb ht hown hK hZ hS tw_684 dM_read_218 (fun H locs hZ hS => ?_)
                                have hZ : zMD E B w (0, fa, ct, true, fb, sb9, (2049 - st)) H := hZ
                                refine lv_aload_n hx hb dM_read_221 rfl (lv_at hl 0 rfl) ?_
                                refine lv_iload_n hx hb dM_read_222 rfl (lv_at hl 1 rfl) ?_
                                refine zcV_v (P' := fun (u : (Nat → Nat → Nat) × zC) H => zMD E B u.1 u.2 H) 1 (As := [.int (iZ (↑nto))]) (rest := []) rfl ⟨hx, hb, hml, hown, ht⟩ (mM_store l E B w (0, fa, ct, true, fb, sb9, (2049 - st)) nto h10_nto rg hMR) tw_779 tw_776 tw_778 tp_12 tw_6 qM_store (by rw [hR]; decide) (zm_recv hK hZ) hZ hK hl.1 rfl rfl (Nat.le_of_ble_eq_true rfl) dM_read_223 ⟨Nat.zero_le _, Nat.zero_le _⟩ hS (fun u H locs hp hZ _ hS => ?_)
                                obtain ⟨w, q9⟩ := u
                                obtain ⟨ho, hbig, hfit⟩ := hp
                                dsimp only at *
                                rw [hv_4] at hbig hfit
                                have hzz : (if true = true then -(((V : Nat) : Int)) else ((V : Nat) : Int)) = rdv nb ct f := by rw [if_pos rfl]; unfold rdv sgz; rw [if_pos ⟨hct0, hb45⟩, ← hfr, ← hV]
                                have hzX : zX (rdv nb ct f) ↔ V < rP 128 := by rw [← hzz]; exact zX_if
                                rcases Nat.lt_or_ge (V) (rP 128) with hX | hX
                                · obtain ⟨hq9, hMR9⟩ := hfit hX
                                  rw [hq9] at hZ
                                  rw [hzz] at hMR9
                                  have hzx := hzX.mpr hX
                                  replace hdr : ∀ i, i < ct → w 1 i = f i := fun i hi => by rw [ho 1 (by decide) (by decide)]; exact hdr i hi
                                  replace hpa : ∀ i, i < 2049 - st → w 14 i = g (st + i) := fun i hi => by rw [ho 14 (by decide) (by decide)]; exact hpa i hi
                                  replace hv_4 : rv (w 4) 264 = V := by rw [ho 4 (by decide) (by decide)]; exact hv_4
                                  have hMR : MR w (va_up rg nto (rdv nb ct f)) := hMR9
                                  refine lv_aload_n hx hb dM_read_226 rfl (lv_at hl 0 rfl) ?_
                                  refine lv_iconst (v := iZ (0)) hx hb dM_read_227 (by decide) ?_
                                  refine W.eq (g2 := F0 m 228 ls ([.int (iZ ((0 : Nat) : Int)), .ref B])) rfl ?_
                                  refine zm_put_length (x := 0) hx hb ht hown hK hZ hS tw_680 dM_read_228 (fun H locs hZ hS => ?_)
                                  have hZ : zMD E B w (0, fa, 0, true, fb, sb9, (2049 - st)) H := hZ
                                  exact hend 231 () _ _ _ dM_read_231 trivial (by rcases SP_g hsp ⟨hk_nto, hgb⟩ with ⟨_, h, _⟩ | ⟨_, h, _⟩ | ⟨hk, _, _, hs⟩; exact absurd hnum h; exact absurd hzx h.2; subst hk; subst hs; exact ⟨hok1, w, (0, fa, 0, true, fb, sb9, (2049 - st)), hZ, ⟨hMR, rfl, (fun i hi => absurd hi (Nat.not_lt_zero _)), rfl, hpa⟩, rfl⟩) hS
                                · obtain ⟨e1, e2⟩ := Prod.mk.inj (hbig hX)
                                  rw [e2] at hZ
                                  rw [← e1] at hMR hdr hpa
                                  have hzx : ¬ zX (rdv nb ct f) := fun h9 => absurd (hzX.mp h9) (Nat.not_lt.mpr hX)
                                  have hZ : zMD E B w (fa, fa, ct, true, fb, sb9, (2049 - st)) H := hZ
                                  exact absurd hV128 (Nat.not_lt.mpr hX)
                            · refine lv_aload_n hx hb dM_read_158 rfl (lv_at hl 0 rfl) ?_
                              refine zm_row hx hb ht hown hK hZ tw_683 dM_read_159 ?_
                              refine lv_iload_n hx hb dM_read_162 rfl (lv_at hl 2 rfl) ?_
                              refine lv_aload_n hx hb dM_read_163 rfl (lv_at hl 0 rfl) ?_
                              refine zm_draft hx hb ht hown hK hZ tw_679 dM_read_164 ?_
                              refine lv_iload hx hb dM_read_167 (lv_at hl 3 rfl) ?_
                              refine zm_ld (k := 1) (i := j) hx hb hK hZ (by decide) (by show j < 2100; omega) dM_read_169 ?_
                              rw [hdr j (by omega)]
                              refine zcS_i (P' := fun (u : (Nat → Nat → Nat) × zC) H => zMD E B u.1 u.2 H) 1 (As := [.int (iZ (((f j : Nat) : Int)))]) (rest := [.int (iZ (↑nb)), .ref (B + 4)]) ⟨hx, hb, hml, hown, ht⟩ (mM_digit l E B w (0, fa, ct, be, fb, sb9, (2049 - st)) (f j) (by have := hf9 j; omega)) tw_765 tw_763 tw_764 tw_6 qM_digit (by rw [hR]; decide) hZ hK hl.1 rfl rfl (Nat.le_of_ble_eq_true rfl) dM_read_170 ⟨Nat.zero_le _, Nat.zero_le _⟩ hS (fun r9 u H locs hp hZ _ hS => ?_)
                              obtain ⟨hu9, hr1⟩ := hp
                              subst hr1
                              rw [hu9] at hZ
                              dsimp only at hZ
                              clear hu9
                              refine zcS_v (P' := fun (u : (Nat → Nat → Nat) × zC) H => zMD E B u.1 u.2 H) 3 (As := [.ref (B + 4), .int (iZ (↑nb)), .int (iZ (((dg (f j) : Nat) : Int)))]) (rest := []) ⟨hx, hb, hml, hown, ht⟩ (mM_grow l E B w (0, fa, ct, be, fb, sb9, (2049 - st)) 4 (by decide) rfl nb (dg (f j)) (by omega) (dg_le _) (by rw [hv_4]; exact rgrow_264 (by omega) (dg_le _) hV128)) tw_771 tw_769 tw_770 tw_6 qM_grow (by rw [hR]; decide) hZ hK hl.1 rfl rfl (Nat.le_of_ble_eq_true rfl) dM_read_173 ⟨Nat.zero_le _, Nat.zero_le _⟩ hS (fun u H locs hp hZ _ hS => ?_)
                              obtain ⟨w, q9⟩ := u
                              obtain ⟨ho, hq9, hgv⟩ := hp
                              dsimp only at *
                              rw [hq9] at hZ
                              rw [hv_4] at hgv
                              replace hMR : MR w rg := MR_same (ho 2 (by decide)) (ho 3 (by decide)) hMR
                              replace hdr : ∀ i, i < ct → w 1 i = f i := fun i hi => by rw [ho 1 (by decide)]; exact hdr i hi
                              replace hpa : ∀ i, i < 2049 - st → w 14 i = g (st + i) := fun i hi => by rw [ho 14 (by decide)]; exact hpa i hi
                              clear hv_4
                              have hv_4 : rv (w 4) 264 = nb * V + dg (f j) := hgv
                              clear hgv
                              have hV2 : nb * V + dg (f j) = hv nb f fr (j + 1 - fr) := by rw [hV, show j + 1 - fr = (j - fr) + 1 by omega, hv_s, show fr + (j - fr) = j by omega, Nat.mul_comm]
                              refine lv_aload_n hx hb dM_read_176 rfl (lv_at hl 0 rfl) ?_
                              refine zm_row hx hb ht hown hK hZ tw_683 dM_read_177 ?_
                              refine zcS_i (P' := fun (u : (Nat → Nat → Nat) × zC) H => zMD E B u.1 u.2 H) 1 (As := [.ref (B + 4)]) (rest := []) ⟨hx, hb, hml, hown, ht⟩ (mM_size l E B w (0, fa, ct, be, fb, sb9, (2049 - st)) 4 (by decide) 264 rfl (by decide)) tw_774 tw_772 tw_773 tw_6 qM_size (by rw [hR]; decide) hZ hK hl.1 rfl rfl (Nat.le_of_ble_eq_true rfl) dM_read_180 ⟨Nat.zero_le _, Nat.zero_le _⟩ hS (fun r9 u H locs hp hZ _ hS => ?_)
                              obtain ⟨hu9, n, hr1, hn1, hn2, hn3⟩ := hp
                              subst hr1
                              rw [hu9] at hZ
                              dsimp only at hZ
                              clear hu9
                              have hnz : ∀ q, n ≤ q ↔ nb * V + dg (f j) < rP q := fun q => by rw [← hv_4]; exact size_le (hZ.2 4) hn1 hn2 hn3 q
                              refine lv_sipush (v := iZ (128)) hx hb dM_read_183 (by decide) ?_
                              refine zr_icmp_le (tgt := 195) hx hb (by unfold zi; omega) (by unfold zi; omega) dM_read_186 (by decide) (fun c_27 => ?_) (fun c_27 => ?_)
                              · refine lv_iinc (v := iZ (↑j + 1)) (lv' := [(4, .int (iZ (↑j + 1))), (0, .ref (B)), (1, .int (iZ (↑nto))), (2, .int (iZ (↑nb)))]) hx hb dM_read_195 hl (k := 3) rfl (iZ_add _ _) (by decide) rfl (fun ls hl => ?_)
                                refine lv_goto (tgt := 149) hx hb dM_read_198 (by decide) ?_
                                rw [show (↑j + 1 : Int) = ↑(j + 1) from by omega] at hl
                                exact ihL149 (j + 1) (nb * V + dg (f j)) w _ _ _ (by omega) (by omega) (hV2) ((hnz 128).mp (by omega)) hMR hdr hpa hv_4 hZ hS (lv_sub hl [1, 2, 3, 0] rfl)
                              · have hVb : rP 128 ≤ hv nb f fr (ct - fr) := by have h9 := hv_mono (base := nb) (by omega) f fr (j + 1 - fr) (ct - (j + 1)); rw [show j + 1 - fr + (ct - (j + 1)) = ct - fr by omega, ← hV2] at h9; have h8 : ¬ (nb * V + dg (f j)) < rP 128 := fun h7 => absurd ((hnz 128).mpr h7) (by omega); omega
                                have hnX : ¬ zX (rdv nb ct f) := by unfold rdv; rw [zX_sgz, ← hfr, ← rP_128]; exact Nat.not_lt.mpr hVb
                                refine lv_aload_n hx hb dM_read_189 rfl (lv_at hl 0 rfl) ?_
                                refine lv_iconst (v := iZ (3)) hx hb dM_read_190 (by decide) ?_
                                refine W.eq (g2 := F0 m 191 ls ([.int (iZ ((3 : Nat) : Int)), .ref B])) rfl ?_
                                refine zm_put_thrown (x := 3) hx hb ht hown hK hZ hS tw_677 dM_read_191 (fun H locs hZ hS => ?_)
                                have hZ : zMD E B w (3, fa, ct, be, fb, sb9, (2049 - st)) H := hZ
                                exact hend 194 () _ _ _ dM_read_194 trivial (by rcases SP_g hsp ⟨hk_nto, hgb⟩ with ⟨_, h, _⟩ | h | ⟨_, _, h, _⟩; exact absurd hnum h; rotate_left; exact absurd h hnX; obtain ⟨hk, _, hs⟩ := h; subst hk; subst hs; exact ⟨hok1, w, (3, fa, ct, be, fb, sb9, (2049 - st)), hZ, ⟨hMR, rfl, hdr, rfl, hpa⟩, rfl⟩) hS
                        exact L149 _ fr 0 w _ _ _ (Nat.lt_succ_self _) (by omega) (by rw [Nat.sub_self]; rfl) (rP_pos 128) hMR hdr hpa hv_4 hZ hS (lv_sub hl [1, 2, 3, 0] rfl)
                      · have ht2 : t = 2 := by have := hRI.h1; omega
                        rw [ht2] at hRI hZ
                        have hnn := RI_no hRI
                        exact hend 138 () _ _ _ dM_read_138 trivial (by rcases SP_g hsp ⟨hk_nto, hgb⟩ with h | ⟨_, h, _⟩ | ⟨_, h, _⟩; rotate_left; exact absurd h.1 hnn; exact absurd h hnn; obtain ⟨hk, _, hs⟩ := h; subst hk; subst hs; exact ⟨hok1, w, (2, fa, ct, be, fb, sb9, (2049 - st)), hZ, ⟨hMR, rfl, hdr, rfl, hpa⟩, rfl⟩) hS
                    · refine lv_aload_n hx hb dM_read_99 rfl (lv_at hl 0 rfl) ?_
                      refine lv_aload_n hx hb dM_read_100 rfl (lv_at hl 0 rfl) ?_
                      refine zm_draft hx hb ht hown hK hZ tw_679 dM_read_101 ?_
                      refine lv_iload hx hb dM_read_104 (lv_at hl 4 rfl) ?_
                      refine zm_ld (k := 1) (i := j) hx hb hK hZ (by decide) (by show j < 2100; omega) dM_read_106 ?_
                      rw [hdr j (by omega)]
                      refine zcS_i (P' := fun (u : (Nat → Nat → Nat) × zC) H => zMD E B u.1 u.2 H) 1 (As := [.int (iZ (((f j : Nat) : Int)))]) (rest := [.ref (B)]) ⟨hx, hb, hml, hown, ht⟩ (mM_digit l E B w (t, fa, ct, be, fb, sb9, (2049 - st)) (f j) (by have := hf9 j; omega)) tw_765 tw_763 tw_764 tw_6 qM_digit (by rw [hR]; decide) hZ hK hl.1 rfl rfl (Nat.le_of_ble_eq_true rfl) dM_read_107 ⟨Nat.zero_le _, Nat.zero_le _⟩ hS (fun r9 u H locs hp hZ _ hS => ?_)
                      obtain ⟨hu9, hr1⟩ := hp
                      subst hr1
                      rw [hu9] at hZ
                      dsimp only at hZ
                      clear hu9
                      have hdl := dg_le (f j)
                      refine lv_iload_n hx hb dM_read_110 rfl (lv_at hl 2 rfl) ?_
                      refine zr_icmp_lt (tgt := 118) hx hb (by unfold zi; omega) (by unfold zi; omega) dM_read_111 (by decide) (fun c_28 => ?_) (fun c_28 => ?_)
                      · have hdd : dg (f j) < nb := by omega
                        refine lv_aload_n hx hb dM_read_118 rfl (lv_at hl 0 rfl) ?_
                        refine zm_thrown hx hb ht hown hK hZ tw_677 dM_read_119 ?_
                        refine zc_i (y := iZ (↑t)) rfl ?_
                        refine zm_put_thrown (x := t) hx hb ht hown hK hZ hS tw_677 dM_read_122 (fun H locs hZ hS => ?_)
                        have hZ : zMD E B w (t, fa, ct, be, fb, sb9, (2049 - st)) H := hZ
                        refine lv_iinc (v := iZ (↑j + 1)) (lv' := [(4, .int (iZ (↑j + 1))), (0, .ref (B)), (1, .int (iZ (↑nto))), (2, .int (iZ (↑nb))), (3, .int (iZ (↑fr)))]) hx hb dM_read_125 hl (k := 4) rfl (iZ_add _ _) (by decide) rfl (fun ls hl => ?_)
                        refine lv_goto (tgt := 90) hx hb dM_read_128 (by decide) ?_
                        rw [show (↑j + 1 : Int) = ↑(j + 1) from by omega] at hl
                        exact ihL90 (j + 1) t w _ _ _ (by omega) (by omega) (RI_ok hRI hdd) hMR hdr hpa  hZ hS (lv_sub hl [1, 2, 3, 4, 0] rfl)
                      · have hdd : nb ≤ dg (f j) := by omega
                        refine lv_iconst (v := iZ (2)) hx hb dM_read_114 (by decide) ?_
                        refine lv_goto (tgt := 122) hx hb dM_read_115 (by decide) ?_
                        refine W.eq (g2 := F0 m 122 ls ([.int (iZ ((2 : Nat) : Int)), .ref B])) rfl ?_
                        refine zm_put_thrown (x := 2) hx hb ht hown hK hZ hS tw_677 dM_read_122 (fun H locs hZ hS => ?_)
                        have hZ : zMD E B w (2, fa, ct, be, fb, sb9, (2049 - st)) H := hZ
                        refine lv_iinc (v := iZ (↑j + 1)) (lv' := [(4, .int (iZ (↑j + 1))), (0, .ref (B)), (1, .int (iZ (↑nto))), (2, .int (iZ (↑nb))), (3, .int (iZ (↑fr)))]) hx hb dM_read_125 hl (k := 4) rfl (iZ_add _ _) (by decide) rfl (fun ls hl => ?_)
                        refine lv_goto (tgt := 90) hx hb dM_read_128 (by decide) ?_
                        rw [show (↑j + 1 : Int) = ↑(j + 1) from by omega] at hl
                        exact ihL90 (j + 1) 2 w _ _ _ (by omega) (by omega) (RI_bad hj.1 hdd) hMR hdr hpa  hZ hS (lv_sub hl [1, 2, 3, 4, 0] rfl)
                exact L90 _ fr 0 w0 _ _ _ (Nat.lt_succ_self _) (by omega) (hRI0) hMR hdr hpa  hZ hS (lv_sub hl [2, 3, 4, 1, 0] rfl)
              · refine lv_iconst (v := iZ (2)) hx hb dM_read_79 (by decide) ?_
                refine lv_goto (tgt := 84) hx hb dM_read_80 (by decide) ?_
                refine W.eq (g2 := F0 m 84 ls ([.int (iZ ((2 : Nat) : Int)), .ref B])) rfl ?_
                refine zm_put_thrown (x := 2) hx hb ht hown hK hZ hS tw_677 dM_read_84 (fun H locs hZ hS => ?_)
                have hZ : zMD E B w0 (2, fa, ct, be, fb, sb9, (2049 - st)) H := hZ
                have hRI0 : RI 2 fr ct fr nb f := ⟨Or.inr rfl, fun h9 => absurd h9 (by decide), fun _ => Or.inl (by omega)⟩
                refine lv_iload_n hx hb dM_read_87 rfl (lv_at hl 0 rfl) ?_
                refine lv_istore (lv' := [(4, .int (iZ (↑fr))), (3, .int (iZ (↑fr))), (0, .ref (B)), (1, .int (iZ (↑nto))), (2, .int (iZ (↑nb)))]) hx hb dM_read_88 hl (by decide) rfl (fun ls hl => ?_)
                have L90 : ∀ (fu : Nat) (j : Nat) (t : Nat) (w : Nat → Nat → Nat) (H : Heap) (locs : List Loc) (ls : Array Slot), ct - j < fu → (fr ≤ j ∧ j ≤ ct) → (RI t fr ct j nb f) → (MR w rg) → (∀ i, i < ct → w 1 i = f i) → (∀ i, i < 2049 - st → w 14 i = g (st + i)) → zMD E B w (t, fa, ct, be, fb, sb9, (2049 - st)) H → va_S (zA B 15) s.heap H locs → lv_has ls 5 [(0, .ref (B)), (1, .int (iZ (↑nto))), (2, .int (iZ (↑nb))), (3, .int (iZ (↑fr))), (4, .int (iZ (↑j)))] → W p l e R s m args below meth c H locs 0 0 Q (F0 m 90 ls []) := by
                  intro fu
                  induction fu with
                  | zero => intro j t w H locs ls hm; exact absurd hm (Nat.not_lt_zero _)
                  | succ fu ihL90 =>
                    intro j t w H locs ls hm hj hRI hMR hdr hpa hZ hS hl
                    refine lv_iload hx hb dM_read_90 (lv_at hl 4 rfl) ?_
                    refine lv_aload_n hx hb dM_read_92 rfl (lv_at hl 0 rfl) ?_
                    refine zm_length hx hb ht hown hK hZ tw_680 dM_read_93 ?_
                    refine zc_i (y := iZ (↑ct)) rfl ?_
                    refine zr_icmp_ge (tgt := 131) hx hb (by unfold zi; omega) (by unfold zi; omega) dM_read_96 (by decide) (fun c_29 => ?_) (fun c_29 => ?_)
                    · have hjc : j = ct := by omega
                      rw [hjc, hfr] at hRI
                      refine lv_aload_n hx hb dM_read_131 rfl (lv_at hl 0 rfl) ?_
                      refine zm_thrown hx hb ht hown hK hZ tw_677 dM_read_132 ?_
                      refine zc_i (y := iZ (↑t)) rfl ?_
                      refine zr_if_le (tgt := 139) hx hb (by have := hRI.h1; unfold zi; omega) dM_read_135 (by decide) (fun c_30 => ?_) (fun c_30 => ?_)
                      · have ht0 : t = 0 := by omega
                        rw [ht0] at hRI hZ
                        have hnum := RI_yes hRI
                        have hct0 : 0 < ct := by have := hnum.1; omega
                        refine lv_aload_n hx hb dM_read_139 rfl (lv_at hl 0 rfl) ?_
                        refine zm_row hx hb ht hown hK hZ tw_683 dM_read_140 ?_
                        refine zcS_v (P' := fun (u : (Nat → Nat → Nat) × zC) H => zMD E B u.1 u.2 H) 1 (As := [.ref (B + 4)]) (rest := []) ⟨hx, hb, hml, hown, ht⟩ (mM_clear l E B w (0, fa, ct, be, fb, sb9, (2049 - st)) 4 (by decide) 264 rfl (by decide)) tw_768 tw_766 tw_767 tw_6 qM_clear (by rw [hR]; decide) hZ hK hl.1 rfl rfl (Nat.le_of_ble_eq_true rfl) dM_read_143 ⟨Nat.zero_le _, Nat.zero_le _⟩ hS (fun u H locs hp hZ _ hS => ?_)
                        obtain ⟨w, q9⟩ := u
                        obtain ⟨ho, hq9, hcl⟩ := hp
                        dsimp only at *
                        rw [hq9] at hZ
                        replace hMR : MR w rg := MR_same (ho 2 (by decide)) (ho 3 (by decide)) hMR
                        replace hdr : ∀ i, i < ct → w 1 i = f i := fun i hi => by rw [ho 1 (by decide)]; exact hdr i hi
                        replace hpa : ∀ i, i < 2049 - st → w 14 i = g (st + i) := fun i hi => by rw [ho 14 (by decide)]; exact hpa i hi
                        have hv_4 : rv (w 4) 264 = 0 := by rw [rv_drop (m := 0) (Nat.zero_le _) (fun i _ h => hcl i h)]; rfl
                        have hcl4 := hcl
                        refine lv_iload_n hx hb dM_read_146 rfl (lv_at hl 3 rfl) ?_
                        refine lv_istore (lv' := [(4, .int (iZ (↑fr))), (0, .ref (B)), (1, .int (iZ (↑nto))), (2, .int (iZ (↑nb))), (3, .int (iZ (↑fr)))]) hx hb dM_read_147 hl (by decide) rfl (fun ls hl => ?_)
                        have L149 : ∀ (fu : Nat) (j : Nat) (V : Nat) (w : Nat → Nat → Nat) (H : Heap) (locs : List Loc) (ls : Array Slot), ct - j < fu → (fr ≤ j ∧ j ≤ ct) → (V = hv nb f fr (j - fr)) → (V < rP 128) → (MR w rg) → (∀ i, i < ct → w 1 i = f i) → (∀ i, i < 2049 - st → w 14 i = g (st + i)) → (rv (w 4) 264 = V) → zMD E B w (0, fa, ct, be, fb, sb9, (2049 - st)) H → va_S (zA B 15) s.heap H locs → lv_has ls 5 [(0, .ref (B)), (1, .int (iZ (↑nto))), (2, .int (iZ (↑nb))), (4, .int (iZ (↑j)))] → W p l e R s m args below meth c H locs 0 0 Q (F0 m 149 ls []) := by
                          intro fu
                          induction fu with
                          | zero => intro j V w H locs ls hm; exact absurd hm (Nat.not_lt_zero _)
                          | succ fu ihL149 =>
                            intro j V w H locs ls hm hj hV hV128 hMR hdr hpa hv_4 hZ hS hl
                            refine lv_iload hx hb dM_read_149 (lv_at hl 3 rfl) ?_
                            refine lv_aload_n hx hb dM_read_151 rfl (lv_at hl 0 rfl) ?_
                            refine zm_length hx hb ht hown hK hZ tw_680 dM_read_152 ?_
                            refine zc_i (y := iZ (↑ct)) rfl ?_
                            refine zr_icmp_ge (tgt := 201) hx hb (by unfold zi; omega) (by unfold zi; omega) dM_read_155 (by decide) (fun c_31 => ?_) (fun c_31 => ?_)
                            · have hjc : j = ct := by omega
                              rw [hjc] at hV
                              refine lv_aload_n hx hb dM_read_201 rfl (lv_at hl 0 rfl) ?_
                              refine lv_aload_n hx hb dM_read_202 rfl (lv_at hl 0 rfl) ?_
                              refine zm_draft hx hb ht hown hK hZ tw_679 dM_read_203 ?_
                              refine lv_iconst (v := iZ (0)) hx hb dM_read_206 (by decide) ?_
                              refine W.eq (g2 := F0 m 207 ls (.int (iZ ((0 : Nat) : Int)) :: .ref (B + 1) :: [.ref (B)])) rfl ?_
                              refine zm_ld (k := 1) (i := 0) hx hb hK hZ (by decide) (by show 0 < 2100; omega) dM_read_207 ?_
                              rw [hdr 0 hct0]
                              refine lv_bipush (v := iZ (45)) hx hb dM_read_208 (by decide) ?_
                              refine zr_icmp_ne (tgt := 217) hx hb (by unfold zi; omega) (by unfold zi; omega) dM_read_210 (by decide) (fun c_32 => ?_) (fun c_32 => ?_)
                              · have hb45 : ¬ f 0 = 45 := by omega
                                refine lv_iconst (v := iZ (0)) hx hb dM_read_217 (by decide) ?_
                                refine W.eq (g2 := F0 m 218 ls ([.int (iZ (bZ false)), .ref B])) rfl ?_
                                refine zm_put_below (x := false) hx hb ht hown hK hZ hS tw_684 dM_read_218 (fun H locs hZ hS => ?_)
                                have hZ : zMD E B w (0, fa, ct, false, fb, sb9, (2049 - st)) H := hZ
                                refine lv_aload_n hx hb dM_read_221 rfl (lv_at hl 0 rfl) ?_
                                refine lv_iload_n hx hb dM_read_222 rfl (lv_at hl 1 rfl) ?_
                                refine zcV_v (P' := fun (u : (Nat → Nat → Nat) × zC) H => zMD E B u.1 u.2 H) 1 (As := [.int (iZ (↑nto))]) (rest := []) rfl ⟨hx, hb, hml, hown, ht⟩ (mM_store l E B w (0, fa, ct, false, fb, sb9, (2049 - st)) nto h10_nto rg hMR) tw_779 tw_776 tw_778 tp_12 tw_6 qM_store (by rw [hR]; decide) (zm_recv hK hZ) hZ hK hl.1 rfl rfl (Nat.le_of_ble_eq_true rfl) dM_read_223 ⟨Nat.zero_le _, Nat.zero_le _⟩ hS (fun u H locs hp hZ _ hS => ?_)
                                obtain ⟨w, q9⟩ := u
                                obtain ⟨ho, hbig, hfit⟩ := hp
                                dsimp only at *
                                rw [hv_4] at hbig hfit
                                have hzz : (if false = true then -(((V : Nat) : Int)) else ((V : Nat) : Int)) = rdv nb ct f := by rw [if_neg (by decide)]; unfold rdv sgz; rw [if_neg (fun h9 => hb45 h9.2), ← hfr, ← hV]
                                have hzX : zX (rdv nb ct f) ↔ V < rP 128 := by rw [← hzz]; exact zX_if
                                rcases Nat.lt_or_ge (V) (rP 128) with hX | hX
                                · obtain ⟨hq9, hMR9⟩ := hfit hX
                                  rw [hq9] at hZ
                                  rw [hzz] at hMR9
                                  have hzx := hzX.mpr hX
                                  replace hdr : ∀ i, i < ct → w 1 i = f i := fun i hi => by rw [ho 1 (by decide) (by decide)]; exact hdr i hi
                                  replace hpa : ∀ i, i < 2049 - st → w 14 i = g (st + i) := fun i hi => by rw [ho 14 (by decide) (by decide)]; exact hpa i hi
                                  replace hv_4 : rv (w 4) 264 = V := by rw [ho 4 (by decide) (by decide)]; exact hv_4
                                  have hMR : MR w (va_up rg nto (rdv nb ct f)) := hMR9
                                  refine lv_aload_n hx hb dM_read_226 rfl (lv_at hl 0 rfl) ?_
                                  refine lv_iconst (v := iZ (0)) hx hb dM_read_227 (by decide) ?_
                                  refine W.eq (g2 := F0 m 228 ls ([.int (iZ ((0 : Nat) : Int)), .ref B])) rfl ?_
                                  refine zm_put_length (x := 0) hx hb ht hown hK hZ hS tw_680 dM_read_228 (fun H locs hZ hS => ?_)
                                  have hZ : zMD E B w (0, fa, 0, false, fb, sb9, (2049 - st)) H := hZ
                                  exact hend 231 () _ _ _ dM_read_231 trivial (by rcases SP_g hsp ⟨hk_nto, hgb⟩ with ⟨_, h, _⟩ | ⟨_, h, _⟩ | ⟨hk, _, _, hs⟩; exact absurd hnum h; exact absurd hzx h.2; subst hk; subst hs; exact ⟨hok1, w, (0, fa, 0, false, fb, sb9, (2049 - st)), hZ, ⟨hMR, rfl, (fun i hi => absurd hi (Nat.not_lt_zero _)), rfl, hpa⟩, rfl⟩) hS
                                · obtain ⟨e1, e2⟩ := Prod.mk.inj (hbig hX)
                                  rw [e2] at hZ
                                  rw [← e1] at hMR hdr hpa
                                  have hzx : ¬ zX (rdv nb ct f) := fun h9 => absurd (hzX.mp h9) (Nat.not_lt.mpr hX)
                                  have hZ : zMD E B w (fa, fa, ct, false, fb, sb9, (2049 - st)) H := hZ
                                  exact absurd hV128 (Nat.not_lt.mpr hX)
                              · have hb45 : f 0 = 45 := by omega
                                refine lv_iconst (v := iZ (1)) hx hb dM_read_213 (by decide) ?_
                                refine lv_goto (tgt := 218) hx hb dM_read_214 (by decide) ?_
                                refine W.eq (g2 := F0 m 218 ls ([.int (iZ (bZ true)), .ref B])) rfl ?_
                                refine zm_put_below (x := true) hx hb ht hown hK hZ hS tw_684 dM_read_218 (fun H locs hZ hS => ?_)
                                have hZ : zMD E B w (0, fa, ct, true, fb, sb9, (2049 - st)) H := hZ
                                refine lv_aload_n hx hb dM_read_221 rfl (lv_at hl 0 rfl) ?_
                                refine lv_iload_n hx hb dM_read_222 rfl (lv_at hl 1 rfl) ?_
                                refine zcV_v (P' := fun (u : (Nat → Nat → Nat) × zC) H => zMD E B u.1 u.2 H) 1 (As := [.int (iZ (↑nto))]) (rest := []) rfl ⟨hx, hb, hml, hown, ht⟩ (mM_store l E B w (0, fa, ct, true, fb, sb9, (2049 - st)) nto h10_nto rg hMR) tw_779 tw_776 tw_778 tp_12 tw_6 qM_store (by rw [hR]; decide) (zm_recv hK hZ) hZ hK hl.1 rfl rfl (Nat.le_of_ble_eq_true rfl) dM_read_223 ⟨Nat.zero_le _, Nat.zero_le _⟩ hS (fun u H locs hp hZ _ hS => ?_)
                                obtain ⟨w, q9⟩ := u
                                obtain ⟨ho, hbig, hfit⟩ := hp
                                dsimp only at *
                                rw [hv_4] at hbig hfit
                                have hzz : (if true = true then -(((V : Nat) : Int)) else ((V : Nat) : Int)) = rdv nb ct f := by rw [if_pos rfl]; unfold rdv sgz; rw [if_pos ⟨hct0, hb45⟩, ← hfr, ← hV]
                                have hzX : zX (rdv nb ct f) ↔ V < rP 128 := by rw [← hzz]; exact zX_if
                                rcases Nat.lt_or_ge (V) (rP 128) with hX | hX
                                · obtain ⟨hq9, hMR9⟩ := hfit hX
                                  rw [hq9] at hZ
                                  rw [hzz] at hMR9
                                  have hzx := hzX.mpr hX
                                  replace hdr : ∀ i, i < ct → w 1 i = f i := fun i hi => by rw [ho 1 (by decide) (by decide)]; exact hdr i hi
                                  replace hpa : ∀ i, i < 2049 - st → w 14 i = g (st + i) := fun i hi => by rw [ho 14 (by decide) (by decide)]; exact hpa i hi
                                  replace hv_4 : rv (w 4) 264 = V := by rw [ho 4 (by decide) (by decide)]; exact hv_4
                                  have hMR : MR w (va_up rg nto (rdv nb ct f)) := hMR9
                                  refine lv_aload_n hx hb dM_read_226 rfl (lv_at hl 0 rfl) ?_
                                  refine lv_iconst (v := iZ (0)) hx hb dM_read_227 (by decide) ?_
                                  refine W.eq (g2 := F0 m 228 ls ([.int (iZ ((0 : Nat) : Int)), .ref B])) rfl ?_
                                  refine zm_put_length (x := 0) hx hb ht hown hK hZ hS tw_680 dM_read_228 (fun H locs hZ hS => ?_)
                                  have hZ : zMD E B w (0, fa, 0, true, fb, sb9, (2049 - st)) H := hZ
                                  exact hend 231 () _ _ _ dM_read_231 trivial (by rcases SP_g hsp ⟨hk_nto, hgb⟩ with ⟨_, h, _⟩ | ⟨_, h, _⟩ | ⟨hk, _, _, hs⟩; exact absurd hnum h; exact absurd hzx h.2; subst hk; subst hs; exact ⟨hok1, w, (0, fa, 0, true, fb, sb9, (2049 - st)), hZ, ⟨hMR, rfl, (fun i hi => absurd hi (Nat.not_lt_zero _)), rfl, hpa⟩, rfl⟩) hS
                                · obtain ⟨e1, e2⟩ := Prod.mk.inj (hbig hX)
                                  rw [e2] at hZ
                                  rw [← e1] at hMR hdr hpa
                                  have hzx : ¬ zX (rdv nb ct f) := fun h9 => absurd (hzX.mp h9) (Nat.not_lt.mpr hX)
                                  have hZ : zMD E B w (fa, fa, ct, true, fb, sb9, (2049 - st)) H := hZ
                                  exact absurd hV128 (Nat.not_lt.mpr hX)
                            · refine lv_aload_n hx hb dM_read_158 rfl (lv_at hl 0 rfl) ?_
                              refine zm_row hx hb ht hown hK hZ tw_683 dM_read_159 ?_
                              refine lv_iload_n hx hb dM_read_162 rfl (lv_at hl 2 rfl) ?_
                              refine lv_aload_n hx hb dM_read_163 rfl (lv_at hl 0 rfl) ?_
                              refine zm_draft hx hb ht hown hK hZ tw_679 dM_read_164 ?_
                              refine lv_iload hx hb dM_read_167 (lv_at hl 3 rfl) ?_
                              refine zm_ld (k := 1) (i := j) hx hb hK hZ (by decide) (by show j < 2100; omega) dM_read_169 ?_
                              rw [hdr j (by omega)]
                              refine zcS_i (P' := fun (u : (Nat → Nat → Nat) × zC) H => zMD E B u.1 u.2 H) 1 (As := [.int (iZ (((f j : Nat) : Int)))]) (rest := [.int (iZ (↑nb)), .ref (B + 4)]) ⟨hx, hb, hml, hown, ht⟩ (mM_digit l E B w (0, fa, ct, be, fb, sb9, (2049 - st)) (f j) (by have := hf9 j; omega)) tw_765 tw_763 tw_764 tw_6 qM_digit (by rw [hR]; decide) hZ hK hl.1 rfl rfl (Nat.le_of_ble_eq_true rfl) dM_read_170 ⟨Nat.zero_le _, Nat.zero_le _⟩ hS (fun r9 u H locs hp hZ _ hS => ?_)
                              obtain ⟨hu9, hr1⟩ := hp
                              subst hr1
                              rw [hu9] at hZ
                              dsimp only at hZ
                              clear hu9
                              refine zcS_v (P' := fun (u : (Nat → Nat → Nat) × zC) H => zMD E B u.1 u.2 H) 3 (As := [.ref (B + 4), .int (iZ (↑nb)), .int (iZ (((dg (f j) : Nat) : Int)))]) (rest := []) ⟨hx, hb, hml, hown, ht⟩ (mM_grow l E B w (0, fa, ct, be, fb, sb9, (2049 - st)) 4 (by decide) rfl nb (dg (f j)) (by omega) (dg_le _) (by rw [hv_4]; exact rgrow_264 (by omega) (dg_le _) hV128)) tw_771 tw_769 tw_770 tw_6 qM_grow (by rw [hR]; decide) hZ hK hl.1 rfl rfl (Nat.le_of_ble_eq_true rfl) dM_read_173 ⟨Nat.zero_le _, Nat.zero_le _⟩ hS (fun u H locs hp hZ _ hS => ?_)
                              obtain ⟨w, q9⟩ := u
                              obtain ⟨ho, hq9, hgv⟩ := hp
                              dsimp only at *
                              rw [hq9] at hZ
                              rw [hv_4] at hgv
                              replace hMR : MR w rg := MR_same (ho 2 (by decide)) (ho 3 (by decide)) hMR
                              replace hdr : ∀ i, i < ct → w 1 i = f i := fun i hi => by rw [ho 1 (by decide)]; exact hdr i hi
                              replace hpa : ∀ i, i < 2049 - st → w 14 i = g (st + i) := fun i hi => by rw [ho 14 (by decide)]; exact hpa i hi
                              clear hv_4
                              have hv_4 : rv (w 4) 264 = nb * V + dg (f j) := hgv
                              clear hgv
                              have hV2 : nb * V + dg (f j) = hv nb f fr (j + 1 - fr) := by rw [hV, show j + 1 - fr = (j - fr) + 1 by omega, hv_s, show fr + (j - fr) = j by omega, Nat.mul_comm]
                              refine lv_aload_n hx hb dM_read_176 rfl (lv_at hl 0 rfl) ?_
                              refine zm_row hx hb ht hown hK hZ tw_683 dM_read_177 ?_
                              refine zcS_i (P' := fun (u : (Nat → Nat → Nat) × zC) H => zMD E B u.1 u.2 H) 1 (As := [.ref (B + 4)]) (rest := []) ⟨hx, hb, hml, hown, ht⟩ (mM_size l E B w (0, fa, ct, be, fb, sb9, (2049 - st)) 4 (by decide) 264 rfl (by decide)) tw_774 tw_772 tw_773 tw_6 qM_size (by rw [hR]; decide) hZ hK hl.1 rfl rfl (Nat.le_of_ble_eq_true rfl) dM_read_180 ⟨Nat.zero_le _, Nat.zero_le _⟩ hS (fun r9 u H locs hp hZ _ hS => ?_)
                              obtain ⟨hu9, n, hr1, hn1, hn2, hn3⟩ := hp
                              subst hr1
                              rw [hu9] at hZ
                              dsimp only at hZ
                              clear hu9
                              have hnz : ∀ q, n ≤ q ↔ nb * V + dg (f j) < rP q := fun q => by rw [← hv_4]; exact size_le (hZ.2 4) hn1 hn2 hn3 q
                              refine lv_sipush (v := iZ (128)) hx hb dM_read_183 (by decide) ?_
                              refine zr_icmp_le (tgt := 195) hx hb (by unfold zi; omega) (by unfold zi; omega) dM_read_186 (by decide) (fun c_33 => ?_) (fun c_33 => ?_)
                              · refine lv_iinc (v := iZ (↑j + 1)) (lv' := [(4, .int (iZ (↑j + 1))), (0, .ref (B)), (1, .int (iZ (↑nto))), (2, .int (iZ (↑nb)))]) hx hb dM_read_195 hl (k := 3) rfl (iZ_add _ _) (by decide) rfl (fun ls hl => ?_)
                                refine lv_goto (tgt := 149) hx hb dM_read_198 (by decide) ?_
                                rw [show (↑j + 1 : Int) = ↑(j + 1) from by omega] at hl
                                exact ihL149 (j + 1) (nb * V + dg (f j)) w _ _ _ (by omega) (by omega) (hV2) ((hnz 128).mp (by omega)) hMR hdr hpa hv_4 hZ hS (lv_sub hl [1, 2, 3, 0] rfl)
                              · have hVb : rP 128 ≤ hv nb f fr (ct - fr) := by have h9 := hv_mono (base := nb) (by omega) f fr (j + 1 - fr) (ct - (j + 1)); rw [show j + 1 - fr + (ct - (j + 1)) = ct - fr by omega, ← hV2] at h9; have h8 : ¬ (nb * V + dg (f j)) < rP 128 := fun h7 => absurd ((hnz 128).mpr h7) (by omega); omega
                                have hnX : ¬ zX (rdv nb ct f) := by unfold rdv; rw [zX_sgz, ← hfr, ← rP_128]; exact Nat.not_lt.mpr hVb
                                refine lv_aload_n hx hb dM_read_189 rfl (lv_at hl 0 rfl) ?_
                                refine lv_iconst (v := iZ (3)) hx hb dM_read_190 (by decide) ?_
                                refine W.eq (g2 := F0 m 191 ls ([.int (iZ ((3 : Nat) : Int)), .ref B])) rfl ?_
                                refine zm_put_thrown (x := 3) hx hb ht hown hK hZ hS tw_677 dM_read_191 (fun H locs hZ hS => ?_)
                                have hZ : zMD E B w (3, fa, ct, be, fb, sb9, (2049 - st)) H := hZ
                                exact hend 194 () _ _ _ dM_read_194 trivial (by rcases SP_g hsp ⟨hk_nto, hgb⟩ with ⟨_, h, _⟩ | h | ⟨_, _, h, _⟩; exact absurd hnum h; rotate_left; exact absurd h hnX; obtain ⟨hk, _, hs⟩ := h; subst hk; subst hs; exact ⟨hok1, w, (3, fa, ct, be, fb, sb9, (2049 - st)), hZ, ⟨hMR, rfl, hdr, rfl, hpa⟩, rfl⟩) hS
                        exact L149 _ fr 0 w _ _ _ (Nat.lt_succ_self _) (by omega) (by rw [Nat.sub_self]; rfl) (rP_pos 128) hMR hdr hpa hv_4 hZ hS (lv_sub hl [1, 2, 3, 0] rfl)
                      · have ht2 : t = 2 := by have := hRI.h1; omega
                        rw [ht2] at hRI hZ
                        have hnn := RI_no hRI
                        exact hend 138 () _ _ _ dM_read_138 trivial (by rcases SP_g hsp ⟨hk_nto, hgb⟩ with h | ⟨_, h, _⟩ | ⟨_, h, _⟩; rotate_left; exact absurd h.1 hnn; exact absurd h hnn; obtain ⟨hk, _, hs⟩ := h; subst hk; subst hs; exact ⟨hok1, w, (2, fa, ct, be, fb, sb9, (2049 - st)), hZ, ⟨hMR, rfl, hdr, rfl, hpa⟩, rfl⟩) hS
                    · refine lv_aload_n hx hb dM_read_99 rfl (lv_at hl 0 rfl) ?_
                      refine lv_aload_n hx hb dM_read_100 rfl (lv_at hl 0 rfl) ?_
                      refine zm_draft hx hb ht hown hK hZ tw_679 dM_read_101 ?_
                      refine lv_iload hx hb dM_read_104 (lv_at hl 4 rfl) ?_
                      refine zm_ld (k := 1) (i := j) hx hb hK hZ (by decide) (by show j < 2100; omega) dM_read_106 ?_
                      rw [hdr j (by omega)]
                      refine zcS_i (P' := fun (u : (Nat → Nat → Nat) × zC) H => zMD E B u.1 u.2 H) 1 (As := [.int (iZ (((f j : Nat) : Int)))]) (rest := [.ref (B)]) ⟨hx, hb, hml, hown, ht⟩ (mM_digit l E B w (t, fa, ct, be, fb, sb9, (2049 - st)) (f j) (by have := hf9 j; omega)) tw_765 tw_763 tw_764 tw_6 qM_digit (by rw [hR]; decide) hZ hK hl.1 rfl rfl (Nat.le_of_ble_eq_true rfl) dM_read_107 ⟨Nat.zero_le _, Nat.zero_le _⟩ hS (fun r9 u H locs hp hZ _ hS => ?_)
                      obtain ⟨hu9, hr1⟩ := hp
                      subst hr1
                      rw [hu9] at hZ
                      dsimp only at hZ
                      clear hu9
                      have hdl := dg_le (f j)
                      refine lv_iload_n hx hb dM_read_110 rfl (lv_at hl 2 rfl) ?_
                      refine zr_icmp_lt (tgt := 118) hx hb (by unfold zi; omega) (by unfold zi; omega) dM_read_111 (by decide) (fun c_34 => ?_) (fun c_34 => ?_)
                      · have hdd : dg (f j) < nb := by omega
                        refine lv_aload_n hx hb dM_read_118 rfl (lv_at hl 0 rfl) ?_
                        refine zm_thrown hx hb ht hown hK hZ tw_677 dM_read_119 ?_
                        refine zc_i (y := iZ (↑t)) rfl ?_
                        refine zm_put_thrown (x := t) hx hb ht hown hK hZ hS tw_677 dM_read_122 (fun H locs hZ hS => ?_)
                        have hZ : zMD E B w (t, fa, ct, be, fb, sb9, (2049 - st)) H := hZ
                        refine lv_iinc (v := iZ (↑j + 1)) (lv' := [(4, .int (iZ (↑j + 1))), (0, .ref (B)), (1, .int (iZ (↑nto))), (2, .int (iZ (↑nb))), (3, .int (iZ (↑fr)))]) hx hb dM_read_125 hl (k := 4) rfl (iZ_add _ _) (by decide) rfl (fun ls hl => ?_)
                        refine lv_goto (tgt := 90) hx hb dM_read_128 (by decide) ?_
                        rw [show (↑j + 1 : Int) = ↑(j + 1) from by omega] at hl
                        exact ihL90 (j + 1) t w _ _ _ (by omega) (by omega) (RI_ok hRI hdd) hMR hdr hpa  hZ hS (lv_sub hl [1, 2, 3, 4, 0] rfl)
                      · have hdd : nb ≤ dg (f j) := by omega
                        refine lv_iconst (v := iZ (2)) hx hb dM_read_114 (by decide) ?_
                        refine lv_goto (tgt := 122) hx hb dM_read_115 (by decide) ?_
                        refine W.eq (g2 := F0 m 122 ls ([.int (iZ ((2 : Nat) : Int)), .ref B])) rfl ?_
                        refine zm_put_thrown (x := 2) hx hb ht hown hK hZ hS tw_677 dM_read_122 (fun H locs hZ hS => ?_)
                        have hZ : zMD E B w (2, fa, ct, be, fb, sb9, (2049 - st)) H := hZ
                        refine lv_iinc (v := iZ (↑j + 1)) (lv' := [(4, .int (iZ (↑j + 1))), (0, .ref (B)), (1, .int (iZ (↑nto))), (2, .int (iZ (↑nb))), (3, .int (iZ (↑fr)))]) hx hb dM_read_125 hl (k := 4) rfl (iZ_add _ _) (by decide) rfl (fun ls hl => ?_)
                        refine lv_goto (tgt := 90) hx hb dM_read_128 (by decide) ?_
                        rw [show (↑j + 1 : Int) = ↑(j + 1) from by omega] at hl
                        exact ihL90 (j + 1) 2 w _ _ _ (by omega) (by omega) (RI_bad hj.1 hdd) hMR hdr hpa  hZ hS (lv_sub hl [1, 2, 3, 4, 0] rfl)
                exact L90 _ fr 2 w0 _ _ _ (Nat.lt_succ_self _) (by omega) (hRI0) hMR hdr hpa  hZ hS (lv_sub hl [2, 3, 4, 1, 0] rfl)
            · refine lv_aload_n hx hb dM_read_53 rfl (lv_at hl 0 rfl) ?_
              refine zm_draft hx hb ht hown hK hZ tw_679 dM_read_54 ?_
              refine lv_iconst (v := iZ (0)) hx hb dM_read_57 (by decide) ?_
              refine W.eq (g2 := F0 m 58 ls (.int (iZ ((0 : Nat) : Int)) :: .ref (B + 1) :: [])) rfl ?_
              refine zm_ld (k := 1) (i := 0) hx hb hK hZ (by decide) (by show 0 < 2100; omega) dM_read_58 ?_
              rw [hdr 0 (by omega)]
              refine lv_bipush (v := iZ (45)) hx hb dM_read_59 (by decide) ?_
              refine zr_icmp_ne (tgt := 68) hx hb (by unfold zi; omega) (by unfold zi; omega) dM_read_61 (by decide) (fun c_35 => ?_) (fun c_35 => ?_)
              · refine lv_iconst (v := iZ (0)) hx hb dM_read_68 (by decide) ?_
                refine zc_i (y := iZ ((stt ct f : Nat) : Int)) (congrArg iZ (by unfold stt; rw [if_neg (by omega)]; rfl)) ?_
                obtain ⟨fr, hfr⟩ : ∃ q, q = stt ct f := ⟨_, rfl⟩
                rw [← hfr]
                have hfrc : fr ≤ ct := by rw [hfr]; exact stt_ct ct f
                refine lv_istore_n (lv' := [(3, .int (iZ (↑fr))), (0, .ref (B)), (1, .int (iZ (↑nto))), (2, .int (iZ (↑nb)))]) hx hb dM_read_69 rfl hl (by decide) rfl (fun ls hl => ?_)
                refine lv_aload_n hx hb dM_read_70 rfl (lv_at hl 1 rfl) ?_
                refine lv_iload_n hx hb dM_read_71 rfl (lv_at hl 0 rfl) ?_
                refine lv_aload_n hx hb dM_read_72 rfl (lv_at hl 1 rfl) ?_
                refine zm_length hx hb ht hown hK hZ tw_680 dM_read_73 ?_
                refine zc_i (y := iZ (↑ct)) rfl ?_
                refine zr_icmp_ne (tgt := 83) hx hb (by unfold zi; omega) (by unfold zi; omega) dM_read_76 (by decide) (fun c_36 => ?_) (fun c_36 => ?_)
                · refine lv_iconst (v := iZ (0)) hx hb dM_read_83 (by decide) ?_
                  refine W.eq (g2 := F0 m 84 ls ([.int (iZ ((0 : Nat) : Int)), .ref B])) rfl ?_
                  refine zm_put_thrown (x := 0) hx hb ht hown hK hZ hS tw_677 dM_read_84 (fun H locs hZ hS => ?_)
                  have hZ : zMD E B w0 (0, fa, ct, be, fb, sb9, (2049 - st)) H := hZ
                  have hRI0 : RI 0 fr ct fr nb f := ⟨Or.inl rfl, fun _ => ⟨by omega, fun i a b => absurd a (by omega)⟩, fun h9 => absurd h9 (by decide)⟩
                  refine lv_iload_n hx hb dM_read_87 rfl (lv_at hl 0 rfl) ?_
                  refine lv_istore (lv' := [(4, .int (iZ (↑fr))), (3, .int (iZ (↑fr))), (0, .ref (B)), (1, .int (iZ (↑nto))), (2, .int (iZ (↑nb)))]) hx hb dM_read_88 hl (by decide) rfl (fun ls hl => ?_)
                  have L90 : ∀ (fu : Nat) (j : Nat) (t : Nat) (w : Nat → Nat → Nat) (H : Heap) (locs : List Loc) (ls : Array Slot), ct - j < fu → (fr ≤ j ∧ j ≤ ct) → (RI t fr ct j nb f) → (MR w rg) → (∀ i, i < ct → w 1 i = f i) → (∀ i, i < 2049 - st → w 14 i = g (st + i)) → zMD E B w (t, fa, ct, be, fb, sb9, (2049 - st)) H → va_S (zA B 15) s.heap H locs → lv_has ls 5 [(0, .ref (B)), (1, .int (iZ (↑nto))), (2, .int (iZ (↑nb))), (3, .int (iZ (↑fr))), (4, .int (iZ (↑j)))] → W p l e R s m args below meth c H locs 0 0 Q (F0 m 90 ls []) := by
                    intro fu
                    induction fu with
                    | zero => intro j t w H locs ls hm; exact absurd hm (Nat.not_lt_zero _)
                    | succ fu ihL90 =>
                      intro j t w H locs ls hm hj hRI hMR hdr hpa hZ hS hl
                      refine lv_iload hx hb dM_read_90 (lv_at hl 4 rfl) ?_
                      refine lv_aload_n hx hb dM_read_92 rfl (lv_at hl 0 rfl) ?_
                      refine zm_length hx hb ht hown hK hZ tw_680 dM_read_93 ?_
                      refine zc_i (y := iZ (↑ct)) rfl ?_
                      refine zr_icmp_ge (tgt := 131) hx hb (by unfold zi; omega) (by unfold zi; omega) dM_read_96 (by decide) (fun c_37 => ?_) (fun c_37 => ?_)
                      · have hjc : j = ct := by omega
                        rw [hjc, hfr] at hRI
                        refine lv_aload_n hx hb dM_read_131 rfl (lv_at hl 0 rfl) ?_
                        refine zm_thrown hx hb ht hown hK hZ tw_677 dM_read_132 ?_
                        refine zc_i (y := iZ (↑t)) rfl ?_
                        refine zr_if_le (tgt := 139) hx hb (by have := hRI.h1; unfold zi; omega) dM_read_135 (by decide) (fun c_38 => ?_) (fun c_38 => ?_)
                        · have ht0 : t = 0 := by omega
                          rw [ht0] at hRI hZ
                          have hnum := RI_yes hRI
                          have hct0 : 0 < ct := by have := hnum.1; omega
                          refine lv_aload_n hx hb dM_read_139 rfl (lv_at hl 0 rfl) ?_
                          refine zm_row hx hb ht hown hK hZ tw_683 dM_read_140 ?_
                          refine zcS_v (P' := fun (u : (Nat → Nat → Nat) × zC) H => zMD E B u.1 u.2 H) 1 (As := [.ref (B + 4)]) (rest := []) ⟨hx, hb, hml, hown, ht⟩ (mM_clear l E B w (0, fa, ct, be, fb, sb9, (2049 - st)) 4 (by decide) 264 rfl (by decide)) tw_768 tw_766 tw_767 tw_6 qM_clear (by rw [hR]; decide) hZ hK hl.1 rfl rfl (Nat.le_of_ble_eq_true rfl) dM_read_143 ⟨Nat.zero_le _, Nat.zero_le _⟩ hS (fun u H locs hp hZ _ hS => ?_)
                          obtain ⟨w, q9⟩ := u
                          obtain ⟨ho, hq9, hcl⟩ := hp
                          dsimp only at *
                          rw [hq9] at hZ
                          replace hMR : MR w rg := MR_same (ho 2 (by decide)) (ho 3 (by decide)) hMR
                          replace hdr : ∀ i, i < ct → w 1 i = f i := fun i hi => by rw [ho 1 (by decide)]; exact hdr i hi
                          replace hpa : ∀ i, i < 2049 - st → w 14 i = g (st + i) := fun i hi => by rw [ho 14 (by decide)]; exact hpa i hi
                          have hv_4 : rv (w 4) 264 = 0 := by rw [rv_drop (m := 0) (Nat.zero_le _) (fun i _ h => hcl i h)]; rfl
                          have hcl4 := hcl
                          refine lv_iload_n hx hb dM_read_146 rfl (lv_at hl 3 rfl) ?_
                          refine lv_istore (lv' := [(4, .int (iZ (↑fr))), (0, .ref (B)), (1, .int (iZ (↑nto))), (2, .int (iZ (↑nb))), (3, .int (iZ (↑fr)))]) hx hb dM_read_147 hl (by decide) rfl (fun ls hl => ?_)
                          have L149 : ∀ (fu : Nat) (j : Nat) (V : Nat) (w : Nat → Nat → Nat) (H : Heap) (locs : List Loc) (ls : Array Slot), ct - j < fu → (fr ≤ j ∧ j ≤ ct) → (V = hv nb f fr (j - fr)) → (V < rP 128) → (MR w rg) → (∀ i, i < ct → w 1 i = f i) → (∀ i, i < 2049 - st → w 14 i = g (st + i)) → (rv (w 4) 264 = V) → zMD E B w (0, fa, ct, be, fb, sb9, (2049 - st)) H → va_S (zA B 15) s.heap H locs → lv_has ls 5 [(0, .ref (B)), (1, .int (iZ (↑nto))), (2, .int (iZ (↑nb))), (4, .int (iZ (↑j)))] → W p l e R s m args below meth c H locs 0 0 Q (F0 m 149 ls []) := by
                            intro fu
                            induction fu with
                            | zero => intro j V w H locs ls hm; exact absurd hm (Nat.not_lt_zero _)
                            | succ fu ihL149 =>
                              intro j V w H locs ls hm hj hV hV128 hMR hdr hpa hv_4 hZ hS hl
                              refine lv_iload hx hb dM_read_149 (lv_at hl 3 rfl) ?_
                              refine lv_aload_n hx hb dM_read_151 rfl (lv_at hl 0 rfl) ?_
                              refine zm_length hx hb ht hown hK hZ tw_680 dM_read_152 ?_
                              refine zc_i (y := iZ (↑ct)) rfl ?_
                              refine zr_icmp_ge (tgt := 201) hx hb (by unfold zi; omega) (by unfold zi; omega) dM_read_155 (by decide) (fun c_39 => ?_) (fun c_39 => ?_)
                              · have hjc : j = ct := by omega
                                rw [hjc] at hV
                                refine lv_aload_n hx hb dM_read_201 rfl (lv_at hl 0 rfl) ?_
                                refine lv_aload_n hx hb dM_read_202 rfl (lv_at hl 0 rfl) ?_
                                refine zm_draft hx hb ht hown hK hZ tw_679 dM_read_203 ?_
                                refine lv_iconst (v := iZ (0)) hx hb dM_read_206 (by decide) ?_
                                refine W.eq (g2 := F0 m 207 ls (.int (iZ ((0 : Nat) : Int)) :: .ref (B + 1) :: [.ref (B)])) rfl ?_
                                refine zm_ld (k := 1) (i := 0) hx hb hK hZ (by decide) (by show 0 < 2100; omega) dM_read_207 ?_
                                rw [hdr 0 hct0]
                                refine lv_bipush (v := iZ (45)) hx hb dM_read_208 (by decide) ?_
                                refine zr_icmp_ne (tgt := 217) hx hb (by unfold zi; omega) (by unfold zi; omega) dM_read_210 (by decide) (fun c_40 => ?_) (fun c_40 => ?_)
                                · have hb45 : ¬ f 0 = 45 := by omega
                                  refine lv_iconst (v := iZ (0)) hx hb dM_read_217 (by decide) ?_
                                  refine W.eq (g2 := F0 m 218 ls ([.int (iZ (bZ false)), .ref B])) rfl ?_
                                  refine zm_put_below (x := false) hx hb ht hown hK hZ hS tw_684 dM_read_218 (fun H locs hZ hS => ?_)
                                  have hZ : zMD E B w (0, fa, ct, false, fb, sb9, (2049 - st)) H := hZ
                                  refine lv_aload_n hx hb dM_read_221 rfl (lv_at hl 0 rfl) ?_
                                  refine lv_iload_n hx hb dM_read_222 rfl (lv_at hl 1 rfl) ?_
                                  refine zcV_v (P' := fun (u : (Nat → Nat → Nat) × zC) H => zMD E B u.1 u.2 H) 1 (As := [.int (iZ (↑nto))]) (rest := []) rfl ⟨hx, hb, hml, hown, ht⟩ (mM_store l E B w (0, fa, ct, false, fb, sb9, (2049 - st)) nto h10_nto rg hMR) tw_779 tw_776 tw_778 tp_12 tw_6 qM_store (by rw [hR]; decide) (zm_recv hK hZ) hZ hK hl.1 rfl rfl (Nat.le_of_ble_eq_true rfl) dM_read_223 ⟨Nat.zero_le _, Nat.zero_le _⟩ hS (fun u H locs hp hZ _ hS => ?_)
                                  obtain ⟨w, q9⟩ := u
                                  obtain ⟨ho, hbig, hfit⟩ := hp
                                  dsimp only at *
                                  rw [hv_4] at hbig hfit
                                  have hzz : (if false = true then -(((V : Nat) : Int)) else ((V : Nat) : Int)) = rdv nb ct f := by rw [if_neg (by decide)]; unfold rdv sgz; rw [if_neg (fun h9 => hb45 h9.2), ← hfr, ← hV]
                                  have hzX : zX (rdv nb ct f) ↔ V < rP 128 := by rw [← hzz]; exact zX_if
                                  rcases Nat.lt_or_ge (V) (rP 128) with hX | hX
                                  · obtain ⟨hq9, hMR9⟩ := hfit hX
                                    rw [hq9] at hZ
                                    rw [hzz] at hMR9
                                    have hzx := hzX.mpr hX
                                    replace hdr : ∀ i, i < ct → w 1 i = f i := fun i hi => by rw [ho 1 (by decide) (by decide)]; exact hdr i hi
                                    replace hpa : ∀ i, i < 2049 - st → w 14 i = g (st + i) := fun i hi => by rw [ho 14 (by decide) (by decide)]; exact hpa i hi
                                    replace hv_4 : rv (w 4) 264 = V := by rw [ho 4 (by decide) (by decide)]; exact hv_4
                                    have hMR : MR w (va_up rg nto (rdv nb ct f)) := hMR9
                                    refine lv_aload_n hx hb dM_read_226 rfl (lv_at hl 0 rfl) ?_
                                    refine lv_iconst (v := iZ (0)) hx hb dM_read_227 (by decide) ?_
                                    refine W.eq (g2 := F0 m 228 ls ([.int (iZ ((0 : Nat) : Int)), .ref B])) rfl ?_
                                    refine zm_put_length (x := 0) hx hb ht hown hK hZ hS tw_680 dM_read_228 (fun H locs hZ hS => ?_)
                                    have hZ : zMD E B w (0, fa, 0, false, fb, sb9, (2049 - st)) H := hZ
                                    exact hend 231 () _ _ _ dM_read_231 trivial (by rcases SP_g hsp ⟨hk_nto, hgb⟩ with ⟨_, h, _⟩ | ⟨_, h, _⟩ | ⟨hk, _, _, hs⟩; exact absurd hnum h; exact absurd hzx h.2; subst hk; subst hs; exact ⟨hok1, w, (0, fa, 0, false, fb, sb9, (2049 - st)), hZ, ⟨hMR, rfl, (fun i hi => absurd hi (Nat.not_lt_zero _)), rfl, hpa⟩, rfl⟩) hS
                                  · obtain ⟨e1, e2⟩ := Prod.mk.inj (hbig hX)
                                    rw [e2] at hZ
                                    rw [← e1] at hMR hdr hpa
                                    have hzx : ¬ zX (rdv nb ct f) := fun h9 => absurd (hzX.mp h9) (Nat.not_lt.mpr hX)
                                    have hZ : zMD E B w (fa, fa, ct, false, fb, sb9, (2049 - st)) H := hZ
                                    exact absurd hV128 (Nat.not_lt.mpr hX)
                                · have hb45 : f 0 = 45 := by omega
                                  refine lv_iconst (v := iZ (1)) hx hb dM_read_213 (by decide) ?_
                                  refine lv_goto (tgt := 218) hx hb dM_read_214 (by decide) ?_
                                  refine W.eq (g2 := F0 m 218 ls ([.int (iZ (bZ true)), .ref B])) rfl ?_
                                  refine zm_put_below (x := true) hx hb ht hown hK hZ hS tw_684 dM_read_218 (fun H locs hZ hS => ?_)
                                  have hZ : zMD E B w (0, fa, ct, true, fb, sb9, (2049 - st)) H := hZ
                                  refine lv_aload_n hx hb dM_read_221 rfl (lv_at hl 0 rfl) ?_
                                  refine lv_iload_n hx hb dM_read_222 rfl (lv_at hl 1 rfl) ?_
                                  refine zcV_v (P' := fun (u : (Nat → Nat → Nat) × zC) H => zMD E B u.1 u.2 H) 1 (As := [.int (iZ (↑nto))]) (rest := []) rfl ⟨hx, hb, hml, hown, ht⟩ (mM_store l E B w (0, fa, ct, true, fb, sb9, (2049 - st)) nto h10_nto rg hMR) tw_779 tw_776 tw_778 tp_12 tw_6 qM_store (by rw [hR]; decide) (zm_recv hK hZ) hZ hK hl.1 rfl rfl (Nat.le_of_ble_eq_true rfl) dM_read_223 ⟨Nat.zero_le _, Nat.zero_le _⟩ hS (fun u H locs hp hZ _ hS => ?_)
                                  obtain ⟨w, q9⟩ := u
                                  obtain ⟨ho, hbig, hfit⟩ := hp
                                  dsimp only at *
                                  rw [hv_4] at hbig hfit
                                  have hzz : (if true = true then -(((V : Nat) : Int)) else ((V : Nat) : Int)) = rdv nb ct f := by rw [if_pos rfl]; unfold rdv sgz; rw [if_pos ⟨hct0, hb45⟩, ← hfr, ← hV]
                                  have hzX : zX (rdv nb ct f) ↔ V < rP 128 := by rw [← hzz]; exact zX_if
                                  rcases Nat.lt_or_ge (V) (rP 128) with hX | hX
                                  · obtain ⟨hq9, hMR9⟩ := hfit hX
                                    rw [hq9] at hZ
                                    rw [hzz] at hMR9
                                    have hzx := hzX.mpr hX
                                    replace hdr : ∀ i, i < ct → w 1 i = f i := fun i hi => by rw [ho 1 (by decide) (by decide)]; exact hdr i hi
                                    replace hpa : ∀ i, i < 2049 - st → w 14 i = g (st + i) := fun i hi => by rw [ho 14 (by decide) (by decide)]; exact hpa i hi
                                    replace hv_4 : rv (w 4) 264 = V := by rw [ho 4 (by decide) (by decide)]; exact hv_4
                                    have hMR : MR w (va_up rg nto (rdv nb ct f)) := hMR9
                                    refine lv_aload_n hx hb dM_read_226 rfl (lv_at hl 0 rfl) ?_
                                    refine lv_iconst (v := iZ (0)) hx hb dM_read_227 (by decide) ?_
                                    refine W.eq (g2 := F0 m 228 ls ([.int (iZ ((0 : Nat) : Int)), .ref B])) rfl ?_
                                    refine zm_put_length (x := 0) hx hb ht hown hK hZ hS tw_680 dM_read_228 (fun H locs hZ hS => ?_)
                                    have hZ : zMD E B w (0, fa, 0, true, fb, sb9, (2049 - st)) H := hZ
                                    exact hend 231 () _ _ _ dM_read_231 trivial (by rcases SP_g hsp ⟨hk_nto, hgb⟩ with ⟨_, h, _⟩ | ⟨_, h, _⟩ | ⟨hk, _, _, hs⟩; exact absurd hnum h; exact absurd hzx h.2; subst hk; subst hs; exact ⟨hok1, w, (0, fa, 0, true, fb, sb9, (2049 - st)), hZ, ⟨hMR, rfl, (fun i hi => absurd hi (Nat.not_lt_zero _)), rfl, hpa⟩, rfl⟩) hS
                                  · obtain ⟨e1, e2⟩ := Prod.mk.inj (hbig hX)
                                    rw [e2] at hZ
                                    rw [← e1] at hMR hdr hpa
                                    have hzx : ¬ zX (rdv nb ct f) := fun h9 => absurd (hzX.mp h9) (Nat.not_lt.mpr hX)
                                    have hZ : zMD E B w (fa, fa, ct, true, fb, sb9, (2049 - st)) H := hZ
                                    exact absurd hV128 (Nat.not_lt.mpr hX)
                              · refine lv_aload_n hx hb dM_read_158 rfl (lv_at hl 0 rfl) ?_
                                refine zm_row hx hb ht hown hK hZ tw_683 dM_read_159 ?_
                                refine lv_iload_n hx hb dM_read_162 rfl (lv_at hl 2 rfl) ?_
                                refine lv_aload_n hx hb dM_read_163 rfl (lv_at hl 0 rfl) ?_
                                refine zm_draft hx hb ht hown hK hZ tw_679 dM_read_164 ?_
                                refine lv_iload hx hb dM_read_167 (lv_at hl 3 rfl) ?_
                                refine zm_ld (k := 1) (i := j) hx hb hK hZ (by decide) (by show j < 2100; omega) dM_read_169 ?_
                                rw [hdr j (by omega)]
                                refine zcS_i (P' := fun (u : (Nat → Nat → Nat) × zC) H => zMD E B u.1 u.2 H) 1 (As := [.int (iZ (((f j : Nat) : Int)))]) (rest := [.int (iZ (↑nb)), .ref (B + 4)]) ⟨hx, hb, hml, hown, ht⟩ (mM_digit l E B w (0, fa, ct, be, fb, sb9, (2049 - st)) (f j) (by have := hf9 j; omega)) tw_765 tw_763 tw_764 tw_6 qM_digit (by rw [hR]; decide) hZ hK hl.1 rfl rfl (Nat.le_of_ble_eq_true rfl) dM_read_170 ⟨Nat.zero_le _, Nat.zero_le _⟩ hS (fun r9 u H locs hp hZ _ hS => ?_)
                                obtain ⟨hu9, hr1⟩ := hp
                                subst hr1
                                rw [hu9] at hZ
                                dsimp only at hZ
                                clear hu9
                                refine zcS_v (P' := fun (u : (Nat → Nat → Nat) × zC) H => zMD E B u.1 u.2 H) 3 (As := [.ref (B + 4), .int (iZ (↑nb)), .int (iZ (((dg (f j) : Nat) : Int)))]) (rest := []) ⟨hx, hb, hml, hown, ht⟩ (mM_grow l E B w (0, fa, ct, be, fb, sb9, (2049 - st)) 4 (by decide) rfl nb (dg (f j)) (by omega) (dg_le _) (by rw [hv_4]; exact rgrow_264 (by omega) (dg_le _) hV128)) tw_771 tw_769 tw_770 tw_6 qM_grow (by rw [hR]; decide) hZ hK hl.1 rfl rfl (Nat.le_of_ble_eq_true rfl) dM_read_173 ⟨Nat.zero_le _, Nat.zero_le _⟩ hS (fun u H locs hp hZ _ hS => ?_)
                                obtain ⟨w, q9⟩ := u
                                obtain ⟨ho, hq9, hgv⟩ := hp
                                dsimp only at *
                                rw [hq9] at hZ
                                rw [hv_4] at hgv
                                replace hMR : MR w rg := MR_same (ho 2 (by decide)) (ho 3 (by decide)) hMR
                                replace hdr : ∀ i, i < ct → w 1 i = f i := fun i hi => by rw [ho 1 (by decide)]; exact hdr i hi
                                replace hpa : ∀ i, i < 2049 - st → w 14 i = g (st + i) := fun i hi => by rw [ho 14 (by decide)]; exact hpa i hi
                                clear hv_4
                                have hv_4 : rv (w 4) 264 = nb * V + dg (f j) := hgv
                                clear hgv
                                have hV2 : nb * V + dg (f j) = hv nb f fr (j + 1 - fr) := by rw [hV, show j + 1 - fr = (j - fr) + 1 by omega, hv_s, show fr + (j - fr) = j by omega, Nat.mul_comm]
                                refine lv_aload_n hx hb dM_read_176 rfl (lv_at hl 0 rfl) ?_
                                refine zm_row hx hb ht hown hK hZ tw_683 dM_read_177 ?_
                                refine zcS_i (P' := fun (u : (Nat → Nat → Nat) × zC) H => zMD E B u.1 u.2 H) 1 (As := [.ref (B + 4)]) (rest := []) ⟨hx, hb, hml, hown, ht⟩ (mM_size l E B w (0, fa, ct, be, fb, sb9, (2049 - st)) 4 (by decide) 264 rfl (by decide)) tw_774 tw_772 tw_773 tw_6 qM_size (by rw [hR]; decide) hZ hK hl.1 rfl rfl (Nat.le_of_ble_eq_true rfl) dM_read_180 ⟨Nat.zero_le _, Nat.zero_le _⟩ hS (fun r9 u H locs hp hZ _ hS => ?_)
                                obtain ⟨hu9, n, hr1, hn1, hn2, hn3⟩ := hp
                                subst hr1
                                rw [hu9] at hZ
                                dsimp only at hZ
                                clear hu9
                                have hnz : ∀ q, n ≤ q ↔ nb * V + dg (f j) < rP q := fun q => by rw [← hv_4]; exact size_le (hZ.2 4) hn1 hn2 hn3 q
                                refine lv_sipush (v := iZ (128)) hx hb dM_read_183 (by decide) ?_
                                refine zr_icmp_le (tgt := 195) hx hb (by unfold zi; omega) (by unfold zi; omega) dM_read_186 (by decide) (fun c_41 => ?_) (fun c_41 => ?_)
                                · refine lv_iinc (v := iZ (↑j + 1)) (lv' := [(4, .int (iZ (↑j + 1))), (0, .ref (B)), (1, .int (iZ (↑nto))), (2, .int (iZ (↑nb)))]) hx hb dM_read_195 hl (k := 3) rfl (iZ_add _ _) (by decide) rfl (fun ls hl => ?_)
                                  refine lv_goto (tgt := 149) hx hb dM_read_198 (by decide) ?_
                                  rw [show (↑j + 1 : Int) = ↑(j + 1) from by omega] at hl
                                  exact ihL149 (j + 1) (nb * V + dg (f j)) w _ _ _ (by omega) (by omega) (hV2) ((hnz 128).mp (by omega)) hMR hdr hpa hv_4 hZ hS (lv_sub hl [1, 2, 3, 0] rfl)
                                · have hVb : rP 128 ≤ hv nb f fr (ct - fr) := by have h9 := hv_mono (base := nb) (by omega) f fr (j + 1 - fr) (ct - (j + 1)); rw [show j + 1 - fr + (ct - (j + 1)) = ct - fr by omega, ← hV2] at h9; have h8 : ¬ (nb * V + dg (f j)) < rP 128 := fun h7 => absurd ((hnz 128).mpr h7) (by omega); omega
                                  have hnX : ¬ zX (rdv nb ct f) := by unfold rdv; rw [zX_sgz, ← hfr, ← rP_128]; exact Nat.not_lt.mpr hVb
                                  refine lv_aload_n hx hb dM_read_189 rfl (lv_at hl 0 rfl) ?_
                                  refine lv_iconst (v := iZ (3)) hx hb dM_read_190 (by decide) ?_
                                  refine W.eq (g2 := F0 m 191 ls ([.int (iZ ((3 : Nat) : Int)), .ref B])) rfl ?_
                                  refine zm_put_thrown (x := 3) hx hb ht hown hK hZ hS tw_677 dM_read_191 (fun H locs hZ hS => ?_)
                                  have hZ : zMD E B w (3, fa, ct, be, fb, sb9, (2049 - st)) H := hZ
                                  exact hend 194 () _ _ _ dM_read_194 trivial (by rcases SP_g hsp ⟨hk_nto, hgb⟩ with ⟨_, h, _⟩ | h | ⟨_, _, h, _⟩; exact absurd hnum h; rotate_left; exact absurd h hnX; obtain ⟨hk, _, hs⟩ := h; subst hk; subst hs; exact ⟨hok1, w, (3, fa, ct, be, fb, sb9, (2049 - st)), hZ, ⟨hMR, rfl, hdr, rfl, hpa⟩, rfl⟩) hS
                          exact L149 _ fr 0 w _ _ _ (Nat.lt_succ_self _) (by omega) (by rw [Nat.sub_self]; rfl) (rP_pos 128) hMR hdr hpa hv_4 hZ hS (lv_sub hl [1, 2, 3, 0] rfl)
                        · have ht2 : t = 2 := by have := hRI.h1; omega
                          rw [ht2] at hRI hZ
                          have hnn := RI_no hRI
                          exact hend 138 () _ _ _ dM_read_138 trivial (by rcases SP_g hsp ⟨hk_nto, hgb⟩ with h | ⟨_, h, _⟩ | ⟨_, h, _⟩; rotate_left; exact absurd h.1 hnn; exact absurd h hnn; obtain ⟨hk, _, hs⟩ := h; subst hk; subst hs; exact ⟨hok1, w, (2, fa, ct, be, fb, sb9, (2049 - st)), hZ, ⟨hMR, rfl, hdr, rfl, hpa⟩, rfl⟩) hS
                      · refine lv_aload_n hx hb dM_read_99 rfl (lv_at hl 0 rfl) ?_
                        refine lv_aload_n hx hb dM_read_100 rfl (lv_at hl 0 rfl) ?_
                        refine zm_draft hx hb ht hown hK hZ tw_679 dM_read_101 ?_
                        refine lv_iload hx hb dM_read_104 (lv_at hl 4 rfl) ?_
                        refine zm_ld (k := 1) (i := j) hx hb hK hZ (by decide) (by show j < 2100; omega) dM_read_106 ?_
                        rw [hdr j (by omega)]
                        refine zcS_i (P' := fun (u : (Nat → Nat → Nat) × zC) H => zMD E B u.1 u.2 H) 1 (As := [.int (iZ (((f j : Nat) : Int)))]) (rest := [.ref (B)]) ⟨hx, hb, hml, hown, ht⟩ (mM_digit l E B w (t, fa, ct, be, fb, sb9, (2049 - st)) (f j) (by have := hf9 j; omega)) tw_765 tw_763 tw_764 tw_6 qM_digit (by rw [hR]; decide) hZ hK hl.1 rfl rfl (Nat.le_of_ble_eq_true rfl) dM_read_107 ⟨Nat.zero_le _, Nat.zero_le _⟩ hS (fun r9 u H locs hp hZ _ hS => ?_)
                        obtain ⟨hu9, hr1⟩ := hp
                        subst hr1
                        rw [hu9] at hZ
                        dsimp only at hZ
                        clear hu9
                        have hdl := dg_le (f j)
                        refine lv_iload_n hx hb dM_read_110 rfl (lv_at hl 2 rfl) ?_
                        refine zr_icmp_lt (tgt := 118) hx hb (by unfold zi; omega) (by unfold zi; omega) dM_read_111 (by decide) (fun c_42 => ?_) (fun c_42 => ?_)
                        · have hdd : dg (f j) < nb := by omega
                          refine lv_aload_n hx hb dM_read_118 rfl (lv_at hl 0 rfl) ?_
                          refine zm_thrown hx hb ht hown hK hZ tw_677 dM_read_119 ?_
                          refine zc_i (y := iZ (↑t)) rfl ?_
                          refine zm_put_thrown (x := t) hx hb ht hown hK hZ hS tw_677 dM_read_122 (fun H locs hZ hS => ?_)
                          have hZ : zMD E B w (t, fa, ct, be, fb, sb9, (2049 - st)) H := hZ
                          refine lv_iinc (v := iZ (↑j + 1)) (lv' := [(4, .int (iZ (↑j + 1))), (0, .ref (B)), (1, .int (iZ (↑nto))), (2, .int (iZ (↑nb))), (3, .int (iZ (↑fr)))]) hx hb dM_read_125 hl (k := 4) rfl (iZ_add _ _) (by decide) rfl (fun ls hl => ?_)
                          refine lv_goto (tgt := 90) hx hb dM_read_128 (by decide) ?_
                          rw [show (↑j + 1 : Int) = ↑(j + 1) from by omega] at hl
                          exact ihL90 (j + 1) t w _ _ _ (by omega) (by omega) (RI_ok hRI hdd) hMR hdr hpa  hZ hS (lv_sub hl [1, 2, 3, 4, 0] rfl)
                        · have hdd : nb ≤ dg (f j) := by omega
                          refine lv_iconst (v := iZ (2)) hx hb dM_read_114 (by decide) ?_
                          refine lv_goto (tgt := 122) hx hb dM_read_115 (by decide) ?_
                          refine W.eq (g2 := F0 m 122 ls ([.int (iZ ((2 : Nat) : Int)), .ref B])) rfl ?_
                          refine zm_put_thrown (x := 2) hx hb ht hown hK hZ hS tw_677 dM_read_122 (fun H locs hZ hS => ?_)
                          have hZ : zMD E B w (2, fa, ct, be, fb, sb9, (2049 - st)) H := hZ
                          refine lv_iinc (v := iZ (↑j + 1)) (lv' := [(4, .int (iZ (↑j + 1))), (0, .ref (B)), (1, .int (iZ (↑nto))), (2, .int (iZ (↑nb))), (3, .int (iZ (↑fr)))]) hx hb dM_read_125 hl (k := 4) rfl (iZ_add _ _) (by decide) rfl (fun ls hl => ?_)
                          refine lv_goto (tgt := 90) hx hb dM_read_128 (by decide) ?_
                          rw [show (↑j + 1 : Int) = ↑(j + 1) from by omega] at hl
                          exact ihL90 (j + 1) 2 w _ _ _ (by omega) (by omega) (RI_bad hj.1 hdd) hMR hdr hpa  hZ hS (lv_sub hl [1, 2, 3, 4, 0] rfl)
                  exact L90 _ fr 0 w0 _ _ _ (Nat.lt_succ_self _) (by omega) (hRI0) hMR hdr hpa  hZ hS (lv_sub hl [2, 3, 4, 1, 0] rfl)
                · refine lv_iconst (v := iZ (2)) hx hb dM_read_79 (by decide) ?_
                  refine lv_goto (tgt := 84) hx hb dM_read_80 (by decide) ?_
                  refine W.eq (g2 := F0 m 84 ls ([.int (iZ ((2 : Nat) : Int)), .ref B])) rfl ?_
                  refine zm_put_thrown (x := 2) hx hb ht hown hK hZ hS tw_677 dM_read_84 (fun H locs hZ hS => ?_)
                  have hZ : zMD E B w0 (2, fa, ct, be, fb, sb9, (2049 - st)) H := hZ
                  have hRI0 : RI 2 fr ct fr nb f := ⟨Or.inr rfl, fun h9 => absurd h9 (by decide), fun _ => Or.inl (by omega)⟩
                  refine lv_iload_n hx hb dM_read_87 rfl (lv_at hl 0 rfl) ?_
                  refine lv_istore (lv' := [(4, .int (iZ (↑fr))), (3, .int (iZ (↑fr))), (0, .ref (B)), (1, .int (iZ (↑nto))), (2, .int (iZ (↑nb)))]) hx hb dM_read_88 hl (by decide) rfl (fun ls hl => ?_)
                  have L90 : ∀ (fu : Nat) (j : Nat) (t : Nat) (w : Nat → Nat → Nat) (H : Heap) (locs : List Loc) (ls : Array Slot), ct - j < fu → (fr ≤ j ∧ j ≤ ct) → (RI t fr ct j nb f) → (MR w rg) → (∀ i, i < ct → w 1 i = f i) → (∀ i, i < 2049 - st → w 14 i = g (st + i)) → zMD E B w (t, fa, ct, be, fb, sb9, (2049 - st)) H → va_S (zA B 15) s.heap H locs → lv_has ls 5 [(0, .ref (B)), (1, .int (iZ (↑nto))), (2, .int (iZ (↑nb))), (3, .int (iZ (↑fr))), (4, .int (iZ (↑j)))] → W p l e R s m args below meth c H locs 0 0 Q (F0 m 90 ls []) := by
                    intro fu
                    induction fu with
                    | zero => intro j t w H locs ls hm; exact absurd hm (Nat.not_lt_zero _)
                    | succ fu ihL90 =>
                      intro j t w H locs ls hm hj hRI hMR hdr hpa hZ hS hl
                      refine lv_iload hx hb dM_read_90 (lv_at hl 4 rfl) ?_
                      refine lv_aload_n hx hb dM_read_92 rfl (lv_at hl 0 rfl) ?_
                      refine zm_length hx hb ht hown hK hZ tw_680 dM_read_93 ?_
                      refine zc_i (y := iZ (↑ct)) rfl ?_
                      refine zr_icmp_ge (tgt := 131) hx hb (by unfold zi; omega) (by unfold zi; omega) dM_read_96 (by decide) (fun c_43 => ?_) (fun c_43 => ?_)
                      · have hjc : j = ct := by omega
                        rw [hjc, hfr] at hRI
                        refine lv_aload_n hx hb dM_read_131 rfl (lv_at hl 0 rfl) ?_
                        refine zm_thrown hx hb ht hown hK hZ tw_677 dM_read_132 ?_
                        refine zc_i (y := iZ (↑t)) rfl ?_
                        refine zr_if_le (tgt := 139) hx hb (by have := hRI.h1; unfold zi; omega) dM_read_135 (by decide) (fun c_44 => ?_) (fun c_44 => ?_)
                        · have ht0 : t = 0 := by omega
                          rw [ht0] at hRI hZ
                          have hnum := RI_yes hRI
                          have hct0 : 0 < ct := by have := hnum.1; omega
                          refine lv_aload_n hx hb dM_read_139 rfl (lv_at hl 0 rfl) ?_
                          refine zm_row hx hb ht hown hK hZ tw_683 dM_read_140 ?_
                          refine zcS_v (P' := fun (u : (Nat → Nat → Nat) × zC) H => zMD E B u.1 u.2 H) 1 (As := [.ref (B + 4)]) (rest := []) ⟨hx, hb, hml, hown, ht⟩ (mM_clear l E B w (0, fa, ct, be, fb, sb9, (2049 - st)) 4 (by decide) 264 rfl (by decide)) tw_768 tw_766 tw_767 tw_6 qM_clear (by rw [hR]; decide) hZ hK hl.1 rfl rfl (Nat.le_of_ble_eq_true rfl) dM_read_143 ⟨Nat.zero_le _, Nat.zero_le _⟩ hS (fun u H locs hp hZ _ hS => ?_)
                          obtain ⟨w, q9⟩ := u
                          obtain ⟨ho, hq9, hcl⟩ := hp
                          dsimp only at *
                          rw [hq9] at hZ
                          replace hMR : MR w rg := MR_same (ho 2 (by decide)) (ho 3 (by decide)) hMR
                          replace hdr : ∀ i, i < ct → w 1 i = f i := fun i hi => by rw [ho 1 (by decide)]; exact hdr i hi
                          replace hpa : ∀ i, i < 2049 - st → w 14 i = g (st + i) := fun i hi => by rw [ho 14 (by decide)]; exact hpa i hi
                          have hv_4 : rv (w 4) 264 = 0 := by rw [rv_drop (m := 0) (Nat.zero_le _) (fun i _ h => hcl i h)]; rfl
                          have hcl4 := hcl
                          refine lv_iload_n hx hb dM_read_146 rfl (lv_at hl 3 rfl) ?_
                          refine lv_istore (lv' := [(4, .int (iZ (↑fr))), (0, .ref (B)), (1, .int (iZ (↑nto))), (2, .int (iZ (↑nb))), (3, .int (iZ (↑fr)))]) hx hb dM_read_147 hl (by decide) rfl (fun ls hl => ?_)
                          have L149 : ∀ (fu : Nat) (j : Nat) (V : Nat) (w : Nat → Nat → Nat) (H : Heap) (locs : List Loc) (ls : Array Slot), ct - j < fu → (fr ≤ j ∧ j ≤ ct) → (V = hv nb f fr (j - fr)) → (V < rP 128) → (MR w rg) → (∀ i, i < ct → w 1 i = f i) → (∀ i, i < 2049 - st → w 14 i = g (st + i)) → (rv (w 4) 264 = V) → zMD E B w (0, fa, ct, be, fb, sb9, (2049 - st)) H → va_S (zA B 15) s.heap H locs → lv_has ls 5 [(0, .ref (B)), (1, .int (iZ (↑nto))), (2, .int (iZ (↑nb))), (4, .int (iZ (↑j)))] → W p l e R s m args below meth c H locs 0 0 Q (F0 m 149 ls []) := by
                            intro fu
                            induction fu with
                            | zero => intro j V w H locs ls hm; exact absurd hm (Nat.not_lt_zero _)
                            | succ fu ihL149 =>
                              intro j V w H locs ls hm hj hV hV128 hMR hdr hpa hv_4 hZ hS hl
                              refine lv_iload hx hb dM_read_149 (lv_at hl 3 rfl) ?_
                              refine lv_aload_n hx hb dM_read_151 rfl (lv_at hl 0 rfl) ?_
                              refine zm_length hx hb ht hown hK hZ tw_680 dM_read_152 ?_
                              refine zc_i (y := iZ (↑ct)) rfl ?_
                              refine zr_icmp_ge (tgt := 201) hx hb (by unfold zi; omega) (by unfold zi; omega) dM_read_155 (by decide) (fun c_45 => ?_) (fun c_45 => ?_)
                              · have hjc : j = ct := by omega
                                rw [hjc] at hV
                                refine lv_aload_n hx hb dM_read_201 rfl (lv_at hl 0 rfl) ?_
                                refine lv_aload_n hx hb dM_read_202 rfl (lv_at hl 0 rfl) ?_
                                refine zm_draft hx hb ht hown hK hZ tw_679 dM_read_203 ?_
                                refine lv_iconst (v := iZ (0)) hx hb dM_read_206 (by decide) ?_
                                refine W.eq (g2 := F0 m 207 ls (.int (iZ ((0 : Nat) : Int)) :: .ref (B + 1) :: [.ref (B)])) rfl ?_
                                refine zm_ld (k := 1) (i := 0) hx hb hK hZ (by decide) (by show 0 < 2100; omega) dM_read_207 ?_
                                rw [hdr 0 hct0]
                                refine lv_bipush (v := iZ (45)) hx hb dM_read_208 (by decide) ?_
                                refine zr_icmp_ne (tgt := 217) hx hb (by unfold zi; omega) (by unfold zi; omega) dM_read_210 (by decide) (fun c_46 => ?_) (fun c_46 => ?_)
                                · have hb45 : ¬ f 0 = 45 := by omega
                                  refine lv_iconst (v := iZ (0)) hx hb dM_read_217 (by decide) ?_
                                  refine W.eq (g2 := F0 m 218 ls ([.int (iZ (bZ false)), .ref B])) rfl ?_
                                  refine zm_put_below (x := false) hx hb ht hown hK hZ hS tw_684 dM_read_218 (fun H locs hZ hS => ?_)
                                  have hZ : zMD E B w (0, fa, ct, false, fb, sb9, (2049 - st)) H := hZ
                                  refine lv_aload_n hx hb dM_read_221 rfl (lv_at hl 0 rfl) ?_
                                  refine lv_iload_n hx hb dM_read_222 rfl (lv_at hl 1 rfl) ?_
                                  refine zcV_v (P' := fun (u : (Nat → Nat → Nat) × zC) H => zMD E B u.1 u.2 H) 1 (As := [.int (iZ (↑nto))]) (rest := []) rfl ⟨hx, hb, hml, hown, ht⟩ (mM_store l E B w (0, fa, ct, false, fb, sb9, (2049 - st)) nto h10_nto rg hMR) tw_779 tw_776 tw_778 tp_12 tw_6 qM_store (by rw [hR]; decide) (zm_recv hK hZ) hZ hK hl.1 rfl rfl (Nat.le_of_ble_eq_true rfl) dM_read_223 ⟨Nat.zero_le _, Nat.zero_le _⟩ hS (fun u H locs hp hZ _ hS => ?_)
                                  obtain ⟨w, q9⟩ := u
                                  obtain ⟨ho, hbig, hfit⟩ := hp
                                  dsimp only at *
                                  rw [hv_4] at hbig hfit
                                  have hzz : (if false = true then -(((V : Nat) : Int)) else ((V : Nat) : Int)) = rdv nb ct f := by rw [if_neg (by decide)]; unfold rdv sgz; rw [if_neg (fun h9 => hb45 h9.2), ← hfr, ← hV]
                                  have hzX : zX (rdv nb ct f) ↔ V < rP 128 := by rw [← hzz]; exact zX_if
                                  rcases Nat.lt_or_ge (V) (rP 128) with hX | hX
                                  · obtain ⟨hq9, hMR9⟩ := hfit hX
                                    rw [hq9] at hZ
                                    rw [hzz] at hMR9
                                    have hzx := hzX.mpr hX
                                    replace hdr : ∀ i, i < ct → w 1 i = f i := fun i hi => by rw [ho 1 (by decide) (by decide)]; exact hdr i hi
                                    replace hpa : ∀ i, i < 2049 - st → w 14 i = g (st + i) := fun i hi => by rw [ho 14 (by decide) (by decide)]; exact hpa i hi
                                    replace hv_4 : rv (w 4) 264 = V := by rw [ho 4 (by decide) (by decide)]; exact hv_4
                                    have hMR : MR w (va_up rg nto (rdv nb ct f)) := hMR9
                                    refine lv_aload_n hx hb dM_read_226 rfl (lv_at hl 0 rfl) ?_
                                    refine lv_iconst (v := iZ (0)) hx hb dM_read_227 (by decide) ?_
                                    refine W.eq (g2 := F0 m 228 ls ([.int (iZ ((0 : Nat) : Int)), .ref B])) rfl ?_
                                    refine zm_put_length (x := 0) hx hb ht hown hK hZ hS tw_680 dM_read_228 (fun H locs hZ hS => ?_)
                                    have hZ : zMD E B w (0, fa, 0, false, fb, sb9, (2049 - st)) H := hZ
                                    exact hend 231 () _ _ _ dM_read_231 trivial (by rcases SP_g hsp ⟨hk_nto, hgb⟩ with ⟨_, h, _⟩ | ⟨_, h, _⟩ | ⟨hk, _, _, hs⟩; exact absurd hnum h; exact absurd hzx h.2; subst hk; subst hs; exact ⟨hok1, w, (0, fa, 0, false, fb, sb9, (2049 - st)), hZ, ⟨hMR, rfl, (fun i hi => absurd hi (Nat.not_lt_zero _)), rfl, hpa⟩, rfl⟩) hS
                                  · obtain ⟨e1, e2⟩ := Prod.mk.inj (hbig hX)
                                    rw [e2] at hZ
                                    rw [← e1] at hMR hdr hpa
                                    have hzx : ¬ zX (rdv nb ct f) := fun h9 => absurd (hzX.mp h9) (Nat.not_lt.mpr hX)
                                    have hZ : zMD E B w (fa, fa, ct, false, fb, sb9, (2049 - st)) H := hZ
                                    exact absurd hV128 (Nat.not_lt.mpr hX)
                                · have hb45 : f 0 = 45 := by omega
                                  refine lv_iconst (v := iZ (1)) hx hb dM_read_213 (by decide) ?_
                                  refine lv_goto (tgt := 218) hx hb dM_read_214 (by decide) ?_
                                  refine W.eq (g2 := F0 m 218 ls ([.int (iZ (bZ true)), .ref B])) rfl ?_
                                  refine zm_put_below (x := true) hx hb ht hown hK hZ hS tw_684 dM_read_218 (fun H locs hZ hS => ?_)
                                  have hZ : zMD E B w (0, fa, ct, true, fb, sb9, (2049 - st)) H := hZ
                                  refine lv_aload_n hx hb dM_read_221 rfl (lv_at hl 0 rfl) ?_
                                  refine lv_iload_n hx hb dM_read_222 rfl (lv_at hl 1 rfl) ?_
                                  refine zcV_v (P' := fun (u : (Nat → Nat → Nat) × zC) H => zMD E B u.1 u.2 H) 1 (As := [.int (iZ (↑nto))]) (rest := []) rfl ⟨hx, hb, hml, hown, ht⟩ (mM_store l E B w (0, fa, ct, true, fb, sb9, (2049 - st)) nto h10_nto rg hMR) tw_779 tw_776 tw_778 tp_12 tw_6 qM_store (by rw [hR]; decide) (zm_recv hK hZ) hZ hK hl.1 rfl rfl (Nat.le_of_ble_eq_true rfl) dM_read_223 ⟨Nat.zero_le _, Nat.zero_le _⟩ hS (fun u H locs hp hZ _ hS => ?_)
                                  obtain ⟨w, q9⟩ := u
                                  obtain ⟨ho, hbig, hfit⟩ := hp
                                  dsimp only at *
                                  rw [hv_4] at hbig hfit
                                  have hzz : (if true = true then -(((V : Nat) : Int)) else ((V : Nat) : Int)) = rdv nb ct f := by rw [if_pos rfl]; unfold rdv sgz; rw [if_pos ⟨hct0, hb45⟩, ← hfr, ← hV]
                                  have hzX : zX (rdv nb ct f) ↔ V < rP 128 := by rw [← hzz]; exact zX_if
                                  rcases Nat.lt_or_ge (V) (rP 128) with hX | hX
                                  · obtain ⟨hq9, hMR9⟩ := hfit hX
                                    rw [hq9] at hZ
                                    rw [hzz] at hMR9
                                    have hzx := hzX.mpr hX
                                    replace hdr : ∀ i, i < ct → w 1 i = f i := fun i hi => by rw [ho 1 (by decide) (by decide)]; exact hdr i hi
                                    replace hpa : ∀ i, i < 2049 - st → w 14 i = g (st + i) := fun i hi => by rw [ho 14 (by decide) (by decide)]; exact hpa i hi
                                    replace hv_4 : rv (w 4) 264 = V := by rw [ho 4 (by decide) (by decide)]; exact hv_4
                                    have hMR : MR w (va_up rg nto (rdv nb ct f)) := hMR9
                                    refine lv_aload_n hx hb dM_read_226 rfl (lv_at hl 0 rfl) ?_
                                    refine lv_iconst (v := iZ (0)) hx hb dM_read_227 (by decide) ?_
                                    refine W.eq (g2 := F0 m 228 ls ([.int (iZ ((0 : Nat) : Int)), .ref B])) rfl ?_
                                    refine zm_put_length (x := 0) hx hb ht hown hK hZ hS tw_680 dM_read_228 (fun H locs hZ hS => ?_)
                                    have hZ : zMD E B w (0, fa, 0, true, fb, sb9, (2049 - st)) H := hZ
                                    exact hend 231 () _ _ _ dM_read_231 trivial (by rcases SP_g hsp ⟨hk_nto, hgb⟩ with ⟨_, h, _⟩ | ⟨_, h, _⟩ | ⟨hk, _, _, hs⟩; exact absurd hnum h; exact absurd hzx h.2; subst hk; subst hs; exact ⟨hok1, w, (0, fa, 0, true, fb, sb9, (2049 - st)), hZ, ⟨hMR, rfl, (fun i hi => absurd hi (Nat.not_lt_zero _)), rfl, hpa⟩, rfl⟩) hS
                                  · obtain ⟨e1, e2⟩ := Prod.mk.inj (hbig hX)
                                    rw [e2] at hZ
                                    rw [← e1] at hMR hdr hpa
                                    have hzx : ¬ zX (rdv nb ct f) := fun h9 => absurd (hzX.mp h9) (Nat.not_lt.mpr hX)
                                    have hZ : zMD E B w (fa, fa, ct, true, fb, sb9, (2049 - st)) H := hZ
                                    exact absurd hV128 (Nat.not_lt.mpr hX)
                              · refine lv_aload_n hx hb dM_read_158 rfl (lv_at hl 0 rfl) ?_
                                refine zm_row hx hb ht hown hK hZ tw_683 dM_read_159 ?_
                                refine lv_iload_n hx hb dM_read_162 rfl (lv_at hl 2 rfl) ?_
                                refine lv_aload_n hx hb dM_read_163 rfl (lv_at hl 0 rfl) ?_
                                refine zm_draft hx hb ht hown hK hZ tw_679 dM_read_164 ?_
                                refine lv_iload hx hb dM_read_167 (lv_at hl 3 rfl) ?_
                                refine zm_ld (k := 1) (i := j) hx hb hK hZ (by decide) (by show j < 2100; omega) dM_read_169 ?_
                                rw [hdr j (by omega)]
                                refine zcS_i (P' := fun (u : (Nat → Nat → Nat) × zC) H => zMD E B u.1 u.2 H) 1 (As := [.int (iZ (((f j : Nat) : Int)))]) (rest := [.int (iZ (↑nb)), .ref (B + 4)]) ⟨hx, hb, hml, hown, ht⟩ (mM_digit l E B w (0, fa, ct, be, fb, sb9, (2049 - st)) (f j) (by have := hf9 j; omega)) tw_765 tw_763 tw_764 tw_6 qM_digit (by rw [hR]; decide) hZ hK hl.1 rfl rfl (Nat.le_of_ble_eq_true rfl) dM_read_170 ⟨Nat.zero_le _, Nat.zero_le _⟩ hS (fun r9 u H locs hp hZ _ hS => ?_)
                                obtain ⟨hu9, hr1⟩ := hp
                                subst hr1
                                rw [hu9] at hZ
                                dsimp only at hZ
                                clear hu9
                                refine zcS_v (P' := fun (u : (Nat → Nat → Nat) × zC) H => zMD E B u.1 u.2 H) 3 (As := [.ref (B + 4), .int (iZ (↑nb)), .int (iZ (((dg (f j) : Nat) : Int)))]) (rest := []) ⟨hx, hb, hml, hown, ht⟩ (mM_grow l E B w (0, fa, ct, be, fb, sb9, (2049 - st)) 4 (by decide) rfl nb (dg (f j)) (by omega) (dg_le _) (by rw [hv_4]; exact rgrow_264 (by omega) (dg_le _) hV128)) tw_771 tw_769 tw_770 tw_6 qM_grow (by rw [hR]; decide) hZ hK hl.1 rfl rfl (Nat.le_of_ble_eq_true rfl) dM_read_173 ⟨Nat.zero_le _, Nat.zero_le _⟩ hS (fun u H locs hp hZ _ hS => ?_)
                                obtain ⟨w, q9⟩ := u
                                obtain ⟨ho, hq9, hgv⟩ := hp
                                dsimp only at *
                                rw [hq9] at hZ
                                rw [hv_4] at hgv
                                replace hMR : MR w rg := MR_same (ho 2 (by decide)) (ho 3 (by decide)) hMR
                                replace hdr : ∀ i, i < ct → w 1 i = f i := fun i hi => by rw [ho 1 (by decide)]; exact hdr i hi
                                replace hpa : ∀ i, i < 2049 - st → w 14 i = g (st + i) := fun i hi => by rw [ho 14 (by decide)]; exact hpa i hi
                                clear hv_4
                                have hv_4 : rv (w 4) 264 = nb * V + dg (f j) := hgv
                                clear hgv
                                have hV2 : nb * V + dg (f j) = hv nb f fr (j + 1 - fr) := by rw [hV, show j + 1 - fr = (j - fr) + 1 by omega, hv_s, show fr + (j - fr) = j by omega, Nat.mul_comm]
                                refine lv_aload_n hx hb dM_read_176 rfl (lv_at hl 0 rfl) ?_
                                refine zm_row hx hb ht hown hK hZ tw_683 dM_read_177 ?_
                                refine zcS_i (P' := fun (u : (Nat → Nat → Nat) × zC) H => zMD E B u.1 u.2 H) 1 (As := [.ref (B + 4)]) (rest := []) ⟨hx, hb, hml, hown, ht⟩ (mM_size l E B w (0, fa, ct, be, fb, sb9, (2049 - st)) 4 (by decide) 264 rfl (by decide)) tw_774 tw_772 tw_773 tw_6 qM_size (by rw [hR]; decide) hZ hK hl.1 rfl rfl (Nat.le_of_ble_eq_true rfl) dM_read_180 ⟨Nat.zero_le _, Nat.zero_le _⟩ hS (fun r9 u H locs hp hZ _ hS => ?_)
                                obtain ⟨hu9, n, hr1, hn1, hn2, hn3⟩ := hp
                                subst hr1
                                rw [hu9] at hZ
                                dsimp only at hZ
                                clear hu9
                                have hnz : ∀ q, n ≤ q ↔ nb * V + dg (f j) < rP q := fun q => by rw [← hv_4]; exact size_le (hZ.2 4) hn1 hn2 hn3 q
                                refine lv_sipush (v := iZ (128)) hx hb dM_read_183 (by decide) ?_
                                refine zr_icmp_le (tgt := 195) hx hb (by unfold zi; omega) (by unfold zi; omega) dM_read_186 (by decide) (fun c_47 => ?_) (fun c_47 => ?_)
                                · refine lv_iinc (v := iZ (↑j + 1)) (lv' := [(4, .int (iZ (↑j + 1))), (0, .ref (B)), (1, .int (iZ (↑nto))), (2, .int (iZ (↑nb)))]) hx hb dM_read_195 hl (k := 3) rfl (iZ_add _ _) (by decide) rfl (fun ls hl => ?_)
                                  refine lv_goto (tgt := 149) hx hb dM_read_198 (by decide) ?_
                                  rw [show (↑j + 1 : Int) = ↑(j + 1) from by omega] at hl
                                  exact ihL149 (j + 1) (nb * V + dg (f j)) w _ _ _ (by omega) (by omega) (hV2) ((hnz 128).mp (by omega)) hMR hdr hpa hv_4 hZ hS (lv_sub hl [1, 2, 3, 0] rfl)
                                · have hVb : rP 128 ≤ hv nb f fr (ct - fr) := by have h9 := hv_mono (base := nb) (by omega) f fr (j + 1 - fr) (ct - (j + 1)); rw [show j + 1 - fr + (ct - (j + 1)) = ct - fr by omega, ← hV2] at h9; have h8 : ¬ (nb * V + dg (f j)) < rP 128 := fun h7 => absurd ((hnz 128).mpr h7) (by omega); omega
                                  have hnX : ¬ zX (rdv nb ct f) := by unfold rdv; rw [zX_sgz, ← hfr, ← rP_128]; exact Nat.not_lt.mpr hVb
                                  refine lv_aload_n hx hb dM_read_189 rfl (lv_at hl 0 rfl) ?_
                                  refine lv_iconst (v := iZ (3)) hx hb dM_read_190 (by decide) ?_
                                  refine W.eq (g2 := F0 m 191 ls ([.int (iZ ((3 : Nat) : Int)), .ref B])) rfl ?_
                                  refine zm_put_thrown (x := 3) hx hb ht hown hK hZ hS tw_677 dM_read_191 (fun H locs hZ hS => ?_)
                                  have hZ : zMD E B w (3, fa, ct, be, fb, sb9, (2049 - st)) H := hZ
                                  exact hend 194 () _ _ _ dM_read_194 trivial (by rcases SP_g hsp ⟨hk_nto, hgb⟩ with ⟨_, h, _⟩ | h | ⟨_, _, h, _⟩; exact absurd hnum h; rotate_left; exact absurd h hnX; obtain ⟨hk, _, hs⟩ := h; subst hk; subst hs; exact ⟨hok1, w, (3, fa, ct, be, fb, sb9, (2049 - st)), hZ, ⟨hMR, rfl, hdr, rfl, hpa⟩, rfl⟩) hS
                          exact L149 _ fr 0 w _ _ _ (Nat.lt_succ_self _) (by omega) (by rw [Nat.sub_self]; rfl) (rP_pos 128) hMR hdr hpa hv_4 hZ hS (lv_sub hl [1, 2, 3, 0] rfl)
                        · have ht2 : t = 2 := by have := hRI.h1; omega
                          rw [ht2] at hRI hZ
                          have hnn := RI_no hRI
                          exact hend 138 () _ _ _ dM_read_138 trivial (by rcases SP_g hsp ⟨hk_nto, hgb⟩ with h | ⟨_, h, _⟩ | ⟨_, h, _⟩; rotate_left; exact absurd h.1 hnn; exact absurd h hnn; obtain ⟨hk, _, hs⟩ := h; subst hk; subst hs; exact ⟨hok1, w, (2, fa, ct, be, fb, sb9, (2049 - st)), hZ, ⟨hMR, rfl, hdr, rfl, hpa⟩, rfl⟩) hS
                      · refine lv_aload_n hx hb dM_read_99 rfl (lv_at hl 0 rfl) ?_
                        refine lv_aload_n hx hb dM_read_100 rfl (lv_at hl 0 rfl) ?_
                        refine zm_draft hx hb ht hown hK hZ tw_679 dM_read_101 ?_
                        refine lv_iload hx hb dM_read_104 (lv_at hl 4 rfl) ?_
                        refine zm_ld (k := 1) (i := j) hx hb hK hZ (by decide) (by show j < 2100; omega) dM_read_106 ?_
                        rw [hdr j (by omega)]
                        refine zcS_i (P' := fun (u : (Nat → Nat → Nat) × zC) H => zMD E B u.1 u.2 H) 1 (As := [.int (iZ (((f j : Nat) : Int)))]) (rest := [.ref (B)]) ⟨hx, hb, hml, hown, ht⟩ (mM_digit l E B w (t, fa, ct, be, fb, sb9, (2049 - st)) (f j) (by have := hf9 j; omega)) tw_765 tw_763 tw_764 tw_6 qM_digit (by rw [hR]; decide) hZ hK hl.1 rfl rfl (Nat.le_of_ble_eq_true rfl) dM_read_107 ⟨Nat.zero_le _, Nat.zero_le _⟩ hS (fun r9 u H locs hp hZ _ hS => ?_)
                        obtain ⟨hu9, hr1⟩ := hp
                        subst hr1
                        rw [hu9] at hZ
                        dsimp only at hZ
                        clear hu9
                        have hdl := dg_le (f j)
                        refine lv_iload_n hx hb dM_read_110 rfl (lv_at hl 2 rfl) ?_
                        refine zr_icmp_lt (tgt := 118) hx hb (by unfold zi; omega) (by unfold zi; omega) dM_read_111 (by decide) (fun c_48 => ?_) (fun c_48 => ?_)
                        · have hdd : dg (f j) < nb := by omega
                          refine lv_aload_n hx hb dM_read_118 rfl (lv_at hl 0 rfl) ?_
                          refine zm_thrown hx hb ht hown hK hZ tw_677 dM_read_119 ?_
                          refine zc_i (y := iZ (↑t)) rfl ?_
                          refine zm_put_thrown (x := t) hx hb ht hown hK hZ hS tw_677 dM_read_122 (fun H locs hZ hS => ?_)
                          have hZ : zMD E B w (t, fa, ct, be, fb, sb9, (2049 - st)) H := hZ
                          refine lv_iinc (v := iZ (↑j + 1)) (lv' := [(4, .int (iZ (↑j + 1))), (0, .ref (B)), (1, .int (iZ (↑nto))), (2, .int (iZ (↑nb))), (3, .int (iZ (↑fr)))]) hx hb dM_read_125 hl (k := 4) rfl (iZ_add _ _) (by decide) rfl (fun ls hl => ?_)
                          refine lv_goto (tgt := 90) hx hb dM_read_128 (by decide) ?_
                          rw [show (↑j + 1 : Int) = ↑(j + 1) from by omega] at hl
                          exact ihL90 (j + 1) t w _ _ _ (by omega) (by omega) (RI_ok hRI hdd) hMR hdr hpa  hZ hS (lv_sub hl [1, 2, 3, 4, 0] rfl)
                        · have hdd : nb ≤ dg (f j) := by omega
                          refine lv_iconst (v := iZ (2)) hx hb dM_read_114 (by decide) ?_
                          refine lv_goto (tgt := 122) hx hb dM_read_115 (by decide) ?_
                          refine W.eq (g2 := F0 m 122 ls ([.int (iZ ((2 : Nat) : Int)), .ref B])) rfl ?_
                          refine zm_put_thrown (x := 2) hx hb ht hown hK hZ hS tw_677 dM_read_122 (fun H locs hZ hS => ?_)
                          have hZ : zMD E B w (2, fa, ct, be, fb, sb9, (2049 - st)) H := hZ
                          refine lv_iinc (v := iZ (↑j + 1)) (lv' := [(4, .int (iZ (↑j + 1))), (0, .ref (B)), (1, .int (iZ (↑nto))), (2, .int (iZ (↑nb))), (3, .int (iZ (↑fr)))]) hx hb dM_read_125 hl (k := 4) rfl (iZ_add _ _) (by decide) rfl (fun ls hl => ?_)
                          refine lv_goto (tgt := 90) hx hb dM_read_128 (by decide) ?_
                          rw [show (↑j + 1 : Int) = ↑(j + 1) from by omega] at hl
                          exact ihL90 (j + 1) 2 w _ _ _ (by omega) (by omega) (RI_bad hj.1 hdd) hMR hdr hpa  hZ hS (lv_sub hl [1, 2, 3, 4, 0] rfl)
                  exact L90 _ fr 2 w0 _ _ _ (Nat.lt_succ_self _) (by omega) (hRI0) hMR hdr hpa  hZ hS (lv_sub hl [2, 3, 4, 1, 0] rfl)
              · refine lv_iconst (v := iZ (1)) hx hb dM_read_64 (by decide) ?_
                refine lv_goto (tgt := 69) hx hb dM_read_65 (by decide) ?_
                refine zc_i (y := iZ ((stt ct f : Nat) : Int)) (congrArg iZ (by unfold stt; rw [if_pos ⟨by omega, by omega⟩]; rfl)) ?_
                obtain ⟨fr, hfr⟩ : ∃ q, q = stt ct f := ⟨_, rfl⟩
                rw [← hfr]
                have hfrc : fr ≤ ct := by rw [hfr]; exact stt_ct ct f
                refine lv_istore_n (lv' := [(3, .int (iZ (↑fr))), (0, .ref (B)), (1, .int (iZ (↑nto))), (2, .int (iZ (↑nb)))]) hx hb dM_read_69 rfl hl (by decide) rfl (fun ls hl => ?_)
                refine lv_aload_n hx hb dM_read_70 rfl (lv_at hl 1 rfl) ?_
                refine lv_iload_n hx hb dM_read_71 rfl (lv_at hl 0 rfl) ?_
                refine lv_aload_n hx hb dM_read_72 rfl (lv_at hl 1 rfl) ?_
                refine zm_length hx hb ht hown hK hZ tw_680 dM_read_73 ?_
                refine zc_i (y := iZ (↑ct)) rfl ?_
                refine zr_icmp_ne (tgt := 83) hx hb (by unfold zi; omega) (by unfold zi; omega) dM_read_76 (by decide) (fun c_49 => ?_) (fun c_49 => ?_)
                · refine lv_iconst (v := iZ (0)) hx hb dM_read_83 (by decide) ?_
                  refine W.eq (g2 := F0 m 84 ls ([.int (iZ ((0 : Nat) : Int)), .ref B])) rfl ?_
                  refine zm_put_thrown (x := 0) hx hb ht hown hK hZ hS tw_677 dM_read_84 (fun H locs hZ hS => ?_)
                  have hZ : zMD E B w0 (0, fa, ct, be, fb, sb9, (2049 - st)) H := hZ
                  have hRI0 : RI 0 fr ct fr nb f := ⟨Or.inl rfl, fun _ => ⟨by omega, fun i a b => absurd a (by omega)⟩, fun h9 => absurd h9 (by decide)⟩
                  refine lv_iload_n hx hb dM_read_87 rfl (lv_at hl 0 rfl) ?_
                  refine lv_istore (lv' := [(4, .int (iZ (↑fr))), (3, .int (iZ (↑fr))), (0, .ref (B)), (1, .int (iZ (↑nto))), (2, .int (iZ (↑nb)))]) hx hb dM_read_88 hl (by decide) rfl (fun ls hl => ?_)
                  have L90 : ∀ (fu : Nat) (j : Nat) (t : Nat) (w : Nat → Nat → Nat) (H : Heap) (locs : List Loc) (ls : Array Slot), ct - j < fu → (fr ≤ j ∧ j ≤ ct) → (RI t fr ct j nb f) → (MR w rg) → (∀ i, i < ct → w 1 i = f i) → (∀ i, i < 2049 - st → w 14 i = g (st + i)) → zMD E B w (t, fa, ct, be, fb, sb9, (2049 - st)) H → va_S (zA B 15) s.heap H locs → lv_has ls 5 [(0, .ref (B)), (1, .int (iZ (↑nto))), (2, .int (iZ (↑nb))), (3, .int (iZ (↑fr))), (4, .int (iZ (↑j)))] → W p l e R s m args below meth c H locs 0 0 Q (F0 m 90 ls []) := by
                    intro fu
                    induction fu with
                    | zero => intro j t w H locs ls hm; exact absurd hm (Nat.not_lt_zero _)
                    | succ fu ihL90 =>
                      intro j t w H locs ls hm hj hRI hMR hdr hpa hZ hS hl
                      refine lv_iload hx hb dM_read_90 (lv_at hl 4 rfl) ?_
                      refine lv_aload_n hx hb dM_read_92 rfl (lv_at hl 0 rfl) ?_
                      refine zm_length hx hb ht hown hK hZ tw_680 dM_read_93 ?_
                      refine zc_i (y := iZ (↑ct)) rfl ?_
                      refine zr_icmp_ge (tgt := 131) hx hb (by unfold zi; omega) (by unfold zi; omega) dM_read_96 (by decide) (fun c_50 => ?_) (fun c_50 => ?_)
                      · have hjc : j = ct := by omega
                        rw [hjc, hfr] at hRI
                        refine lv_aload_n hx hb dM_read_131 rfl (lv_at hl 0 rfl) ?_
                        refine zm_thrown hx hb ht hown hK hZ tw_677 dM_read_132 ?_
                        refine zc_i (y := iZ (↑t)) rfl ?_
                        refine zr_if_le (tgt := 139) hx hb (by have := hRI.h1; unfold zi; omega) dM_read_135 (by decide) (fun c_51 => ?_) (fun c_51 => ?_)
                        · have ht0 : t = 0 := by omega
                          rw [ht0] at hRI hZ
                          have hnum := RI_yes hRI
                          have hct0 : 0 < ct := by have := hnum.1; omega
                          refine lv_aload_n hx hb dM_read_139 rfl (lv_at hl 0 rfl) ?_
                          refine zm_row hx hb ht hown hK hZ tw_683 dM_read_140 ?_
                          refine zcS_v (P' := fun (u : (Nat → Nat → Nat) × zC) H => zMD E B u.1 u.2 H) 1 (As := [.ref (B + 4)]) (rest := []) ⟨hx, hb, hml, hown, ht⟩ (mM_clear l E B w (0, fa, ct, be, fb, sb9, (2049 - st)) 4 (by decide) 264 rfl (by decide)) tw_768 tw_766 tw_767 tw_6 qM_clear (by rw [hR]; decide) hZ hK hl.1 rfl rfl (Nat.le_of_ble_eq_true rfl) dM_read_143 ⟨Nat.zero_le _, Nat.zero_le _⟩ hS (fun u H locs hp hZ _ hS => ?_)
                          obtain ⟨w, q9⟩ := u
                          obtain ⟨ho, hq9, hcl⟩ := hp
                          dsimp only at *
                          rw [hq9] at hZ
                          replace hMR : MR w rg := MR_same (ho 2 (by decide)) (ho 3 (by decide)) hMR
                          replace hdr : ∀ i, i < ct → w 1 i = f i := fun i hi => by rw [ho 1 (by decide)]; exact hdr i hi
                          replace hpa : ∀ i, i < 2049 - st → w 14 i = g (st + i) := fun i hi => by rw [ho 14 (by decide)]; exact hpa i hi
                          have hv_4 : rv (w 4) 264 = 0 := by rw [rv_drop (m := 0) (Nat.zero_le _) (fun i _ h => hcl i h)]; rfl
                          have hcl4 := hcl
                          refine lv_iload_n hx hb dM_read_146 rfl (lv_at hl 3 rfl) ?_
                          refine lv_istore (lv' := [(4, .int (iZ (↑fr))), (0, .ref (B)), (1, .int (iZ (↑nto))), (2, .int (iZ (↑nb))), (3, .int (iZ (↑fr)))]) hx hb dM_read_147 hl (by decide) rfl (fun ls hl => ?_)
                          have L149 : ∀ (fu : Nat) (j : Nat) (V : Nat) (w : Nat → Nat → Nat) (H : Heap) (locs : List Loc) (ls : Array Slot), ct - j < fu → (fr ≤ j ∧ j ≤ ct) → (V = hv nb f fr (j - fr)) → (V < rP 128) → (MR w rg) → (∀ i, i < ct → w 1 i = f i) → (∀ i, i < 2049 - st → w 14 i = g (st + i)) → (rv (w 4) 264 = V) → zMD E B w (0, fa, ct, be, fb, sb9, (2049 - st)) H → va_S (zA B 15) s.heap H locs → lv_has ls 5 [(0, .ref (B)), (1, .int (iZ (↑nto))), (2, .int (iZ (↑nb))), (4, .int (iZ (↑j)))] → W p l e R s m args below meth c H locs 0 0 Q (F0 m 149 ls []) := by
                            intro fu
                            induction fu with
                            | zero => intro j V w H locs ls hm; exact absurd hm (Nat.not_lt_zero _)
                            | succ fu ihL149 =>
                              intro j V w H locs ls hm hj hV hV128 hMR hdr hpa hv_4 hZ hS hl
                              refine lv_iload hx hb dM_read_149 (lv_at hl 3 rfl) ?_
                              refine lv_aload_n hx hb dM_read_151 rfl (lv_at hl 0 rfl) ?_
                              refine zm_length hx hb ht hown hK hZ tw_680 dM_read_152 ?_
                              refine zc_i (y := iZ (↑ct)) rfl ?_
                              refine zr_icmp_ge (tgt := 201) hx hb (by unfold zi; omega) (by unfold zi; omega) dM_read_155 (by decide) (fun c_52 => ?_) (fun c_52 => ?_)
                              · have hjc : j = ct := by omega
                                rw [hjc] at hV
                                refine lv_aload_n hx hb dM_read_201 rfl (lv_at hl 0 rfl) ?_
                                refine lv_aload_n hx hb dM_read_202 rfl (lv_at hl 0 rfl) ?_
                                refine zm_draft hx hb ht hown hK hZ tw_679 dM_read_203 ?_
                                refine lv_iconst (v := iZ (0)) hx hb dM_read_206 (by decide) ?_
                                refine W.eq (g2 := F0 m 207 ls (.int (iZ ((0 : Nat) : Int)) :: .ref (B + 1) :: [.ref (B)])) rfl ?_
                                refine zm_ld (k := 1) (i := 0) hx hb hK hZ (by decide) (by show 0 < 2100; omega) dM_read_207 ?_
                                rw [hdr 0 hct0]
                                refine lv_bipush (v := iZ (45)) hx hb dM_read_208 (by decide) ?_
                                refine zr_icmp_ne (tgt := 217) hx hb (by unfold zi; omega) (by unfold zi; omega) dM_read_210 (by decide) (fun c_53 => ?_) (fun c_53 => ?_)
                                · have hb45 : ¬ f 0 = 45 := by omega
                                  refine lv_iconst (v := iZ (0)) hx hb dM_read_217 (by decide) ?_
                                  refine W.eq (g2 := F0 m 218 ls ([.int (iZ (bZ false)), .ref B])) rfl ?_
                                  refine zm_put_below (x := false) hx hb ht hown hK hZ hS tw_684 dM_read_218 (fun H locs hZ hS => ?_)
                                  have hZ : zMD E B w (0, fa, ct, false, fb, sb9, (2049 - st)) H := hZ
                                  refine lv_aload_n hx hb dM_read_221 rfl (lv_at hl 0 rfl) ?_
                                  refine lv_iload_n hx hb dM_read_222 rfl (lv_at hl 1 rfl) ?_
                                  refine zcV_v (P' := fun (u : (Nat → Nat → Nat) × zC) H => zMD E B u.1 u.2 H) 1 (As := [.int (iZ (↑nto))]) (rest := []) rfl ⟨hx, hb, hml, hown, ht⟩ (mM_store l E B w (0, fa, ct, false, fb, sb9, (2049 - st)) nto h10_nto rg hMR) tw_779 tw_776 tw_778 tp_12 tw_6 qM_store (by rw [hR]; decide) (zm_recv hK hZ) hZ hK hl.1 rfl rfl (Nat.le_of_ble_eq_true rfl) dM_read_223 ⟨Nat.zero_le _, Nat.zero_le _⟩ hS (fun u H locs hp hZ _ hS => ?_)
                                  obtain ⟨w, q9⟩ := u
                                  obtain ⟨ho, hbig, hfit⟩ := hp
                                  dsimp only at *
                                  rw [hv_4] at hbig hfit
                                  have hzz : (if false = true then -(((V : Nat) : Int)) else ((V : Nat) : Int)) = rdv nb ct f := by rw [if_neg (by decide)]; unfold rdv sgz; rw [if_neg (fun h9 => hb45 h9.2), ← hfr, ← hV]
                                  have hzX : zX (rdv nb ct f) ↔ V < rP 128 := by rw [← hzz]; exact zX_if
                                  rcases Nat.lt_or_ge (V) (rP 128) with hX | hX
                                  · obtain ⟨hq9, hMR9⟩ := hfit hX
                                    rw [hq9] at hZ
                                    rw [hzz] at hMR9
                                    have hzx := hzX.mpr hX
                                    replace hdr : ∀ i, i < ct → w 1 i = f i := fun i hi => by rw [ho 1 (by decide) (by decide)]; exact hdr i hi
                                    replace hpa : ∀ i, i < 2049 - st → w 14 i = g (st + i) := fun i hi => by rw [ho 14 (by decide) (by decide)]; exact hpa i hi
                                    replace hv_4 : rv (w 4) 264 = V := by rw [ho 4 (by decide) (by decide)]; exact hv_4
                                    have hMR : MR w (va_up rg nto (rdv nb ct f)) := hMR9
                                    refine lv_aload_n hx hb dM_read_226 rfl (lv_at hl 0 rfl) ?_
                                    refine lv_iconst (v := iZ (0)) hx hb dM_read_227 (by decide) ?_
                                    refine W.eq (g2 := F0 m 228 ls ([.int (iZ ((0 : Nat) : Int)), .ref B])) rfl ?_
                                    refine zm_put_length (x := 0) hx hb ht hown hK hZ hS tw_680 dM_read_228 (fun H locs hZ hS => ?_)
                                    have hZ : zMD E B w (0, fa, 0, false, fb, sb9, (2049 - st)) H := hZ
                                    exact hend 231 () _ _ _ dM_read_231 trivial (by rcases SP_g hsp ⟨hk_nto, hgb⟩ with ⟨_, h, _⟩ | ⟨_, h, _⟩ | ⟨hk, _, _, hs⟩; exact absurd hnum h; exact absurd hzx h.2; subst hk; subst hs; exact ⟨hok1, w, (0, fa, 0, false, fb, sb9, (2049 - st)), hZ, ⟨hMR, rfl, (fun i hi => absurd hi (Nat.not_lt_zero _)), rfl, hpa⟩, rfl⟩) hS
                                  · obtain ⟨e1, e2⟩ := Prod.mk.inj (hbig hX)
                                    rw [e2] at hZ
                                    rw [← e1] at hMR hdr hpa
                                    have hzx : ¬ zX (rdv nb ct f) := fun h9 => absurd (hzX.mp h9) (Nat.not_lt.mpr hX)
                                    have hZ : zMD E B w (fa, fa, ct, false, fb, sb9, (2049 - st)) H := hZ
                                    exact absurd hV128 (Nat.not_lt.mpr hX)
                                · have hb45 : f 0 = 45 := by omega
                                  refine lv_iconst (v := iZ (1)) hx hb dM_read_213 (by decide) ?_
                                  refine lv_goto (tgt := 218) hx hb dM_read_214 (by decide) ?_
                                  refine W.eq (g2 := F0 m 218 ls ([.int (iZ (bZ true)), .ref B])) rfl ?_
                                  refine zm_put_below (x := true) hx hb ht hown hK hZ hS tw_684 dM_read_218 (fun H locs hZ hS => ?_)
                                  have hZ : zMD E B w (0, fa, ct, true, fb, sb9, (2049 - st)) H := hZ
                                  refine lv_aload_n hx hb dM_read_221 rfl (lv_at hl 0 rfl) ?_
                                  refine lv_iload_n hx hb dM_read_222 rfl (lv_at hl 1 rfl) ?_
                                  refine zcV_v (P' := fun (u : (Nat → Nat → Nat) × zC) H => zMD E B u.1 u.2 H) 1 (As := [.int (iZ (↑nto))]) (rest := []) rfl ⟨hx, hb, hml, hown, ht⟩ (mM_store l E B w (0, fa, ct, true, fb, sb9, (2049 - st)) nto h10_nto rg hMR) tw_779 tw_776 tw_778 tp_12 tw_6 qM_store (by rw [hR]; decide) (zm_recv hK hZ) hZ hK hl.1 rfl rfl (Nat.le_of_ble_eq_true rfl) dM_read_223 ⟨Nat.zero_le _, Nat.zero_le _⟩ hS (fun u H locs hp hZ _ hS => ?_)
                                  obtain ⟨w, q9⟩ := u
                                  obtain ⟨ho, hbig, hfit⟩ := hp
                                  dsimp only at *
                                  rw [hv_4] at hbig hfit
                                  have hzz : (if true = true then -(((V : Nat) : Int)) else ((V : Nat) : Int)) = rdv nb ct f := by rw [if_pos rfl]; unfold rdv sgz; rw [if_pos ⟨hct0, hb45⟩, ← hfr, ← hV]
                                  have hzX : zX (rdv nb ct f) ↔ V < rP 128 := by rw [← hzz]; exact zX_if
                                  rcases Nat.lt_or_ge (V) (rP 128) with hX | hX
                                  · obtain ⟨hq9, hMR9⟩ := hfit hX
                                    rw [hq9] at hZ
                                    rw [hzz] at hMR9
                                    have hzx := hzX.mpr hX
                                    replace hdr : ∀ i, i < ct → w 1 i = f i := fun i hi => by rw [ho 1 (by decide) (by decide)]; exact hdr i hi
                                    replace hpa : ∀ i, i < 2049 - st → w 14 i = g (st + i) := fun i hi => by rw [ho 14 (by decide) (by decide)]; exact hpa i hi
                                    replace hv_4 : rv (w 4) 264 = V := by rw [ho 4 (by decide) (by decide)]; exact hv_4
                                    have hMR : MR w (va_up rg nto (rdv nb ct f)) := hMR9
                                    refine lv_aload_n hx hb dM_read_226 rfl (lv_at hl 0 rfl) ?_
                                    refine lv_iconst (v := iZ (0)) hx hb dM_read_227 (by decide) ?_
                                    refine W.eq (g2 := F0 m 228 ls ([.int (iZ ((0 : Nat) : Int)), .ref B])) rfl ?_
                                    refine zm_put_length (x := 0) hx hb ht hown hK hZ hS tw_680 dM_read_228 (fun H locs hZ hS => ?_)
                                    have hZ : zMD E B w (0, fa, 0, true, fb, sb9, (2049 - st)) H := hZ
                                    exact hend 231 () _ _ _ dM_read_231 trivial (by rcases SP_g hsp ⟨hk_nto, hgb⟩ with ⟨_, h, _⟩ | ⟨_, h, _⟩ | ⟨hk, _, _, hs⟩; exact absurd hnum h; exact absurd hzx h.2; subst hk; subst hs; exact ⟨hok1, w, (0, fa, 0, true, fb, sb9, (2049 - st)), hZ, ⟨hMR, rfl, (fun i hi => absurd hi (Nat.not_lt_zero _)), rfl, hpa⟩, rfl⟩) hS
                                  · obtain ⟨e1, e2⟩ := Prod.mk.inj (hbig hX)
                                    rw [e2] at hZ
                                    rw [← e1] at hMR hdr hpa
                                    have hzx : ¬ zX (rdv nb ct f) := fun h9 => absurd (hzX.mp h9) (Nat.not_lt.mpr hX)
                                    have hZ : zMD E B w (fa, fa, ct, true, fb, sb9, (2049 - st)) H := hZ
                                    exact absurd hV128 (Nat.not_lt.mpr hX)
                              · refine lv_aload_n hx hb dM_read_158 rfl (lv_at hl 0 rfl) ?_
                                refine zm_row hx hb ht hown hK hZ tw_683 dM_read_159 ?_
                                refine lv_iload_n hx hb dM_read_162 rfl (lv_at hl 2 rfl) ?_
                                refine lv_aload_n hx hb dM_read_163 rfl (lv_at hl 0 rfl) ?_
                                refine zm_draft hx hb ht hown hK hZ tw_679 dM_read_164 ?_
                                refine lv_iload hx hb dM_read_167 (lv_at hl 3 rfl) ?_
                                refine zm_ld (k := 1) (i := j) hx hb hK hZ (by decide) (by show j < 2100; omega) dM_read_169 ?_
                                rw [hdr j (by omega)]
                                refine zcS_i (P' := fun (u : (Nat → Nat → Nat) × zC) H => zMD E B u.1 u.2 H) 1 (As := [.int (iZ (((f j : Nat) : Int)))]) (rest := [.int (iZ (↑nb)), .ref (B + 4)]) ⟨hx, hb, hml, hown, ht⟩ (mM_digit l E B w (0, fa, ct, be, fb, sb9, (2049 - st)) (f j) (by have := hf9 j; omega)) tw_765 tw_763 tw_764 tw_6 qM_digit (by rw [hR]; decide) hZ hK hl.1 rfl rfl (Nat.le_of_ble_eq_true rfl) dM_read_170 ⟨Nat.zero_le _, Nat.zero_le _⟩ hS (fun r9 u H locs hp hZ _ hS => ?_)
                                obtain ⟨hu9, hr1⟩ := hp
                                subst hr1
                                rw [hu9] at hZ
                                dsimp only at hZ
                                clear hu9
                                refine zcS_v (P' := fun (u : (Nat → Nat → Nat) × zC) H => zMD E B u.1 u.2 H) 3 (As := [.ref (B + 4), .int (iZ (↑nb)), .int (iZ (((dg (f j) : Nat) : Int)))]) (rest := []) ⟨hx, hb, hml, hown, ht⟩ (mM_grow l E B w (0, fa, ct, be, fb, sb9, (2049 - st)) 4 (by decide) rfl nb (dg (f j)) (by omega) (dg_le _) (by rw [hv_4]; exact rgrow_264 (by omega) (dg_le _) hV128)) tw_771 tw_769 tw_770 tw_6 qM_grow (by rw [hR]; decide) hZ hK hl.1 rfl rfl (Nat.le_of_ble_eq_true rfl) dM_read_173 ⟨Nat.zero_le _, Nat.zero_le _⟩ hS (fun u H locs hp hZ _ hS => ?_)
                                obtain ⟨w, q9⟩ := u
                                obtain ⟨ho, hq9, hgv⟩ := hp
                                dsimp only at *
                                rw [hq9] at hZ
                                rw [hv_4] at hgv
                                replace hMR : MR w rg := MR_same (ho 2 (by decide)) (ho 3 (by decide)) hMR
                                replace hdr : ∀ i, i < ct → w 1 i = f i := fun i hi => by rw [ho 1 (by decide)]; exact hdr i hi
                                replace hpa : ∀ i, i < 2049 - st → w 14 i = g (st + i) := fun i hi => by rw [ho 14 (by decide)]; exact hpa i hi
                                clear hv_4
                                have hv_4 : rv (w 4) 264 = nb * V + dg (f j) := hgv
                                clear hgv
                                have hV2 : nb * V + dg (f j) = hv nb f fr (j + 1 - fr) := by rw [hV, show j + 1 - fr = (j - fr) + 1 by omega, hv_s, show fr + (j - fr) = j by omega, Nat.mul_comm]
                                refine lv_aload_n hx hb dM_read_176 rfl (lv_at hl 0 rfl) ?_
                                refine zm_row hx hb ht hown hK hZ tw_683 dM_read_177 ?_
                                refine zcS_i (P' := fun (u : (Nat → Nat → Nat) × zC) H => zMD E B u.1 u.2 H) 1 (As := [.ref (B + 4)]) (rest := []) ⟨hx, hb, hml, hown, ht⟩ (mM_size l E B w (0, fa, ct, be, fb, sb9, (2049 - st)) 4 (by decide) 264 rfl (by decide)) tw_774 tw_772 tw_773 tw_6 qM_size (by rw [hR]; decide) hZ hK hl.1 rfl rfl (Nat.le_of_ble_eq_true rfl) dM_read_180 ⟨Nat.zero_le _, Nat.zero_le _⟩ hS (fun r9 u H locs hp hZ _ hS => ?_)
                                obtain ⟨hu9, n, hr1, hn1, hn2, hn3⟩ := hp
                                subst hr1
                                rw [hu9] at hZ
                                dsimp only at hZ
                                clear hu9
                                have hnz : ∀ q, n ≤ q ↔ nb * V + dg (f j) < rP q := fun q => by rw [← hv_4]; exact size_le (hZ.2 4) hn1 hn2 hn3 q
                                refine lv_sipush (v := iZ (128)) hx hb dM_read_183 (by decide) ?_
                                refine zr_icmp_le (tgt := 195) hx hb (by unfold zi; omega) (by unfold zi; omega) dM_read_186 (by decide) (fun c_54 => ?_) (fun c_54 => ?_)
                                · refine lv_iinc (v := iZ (↑j + 1)) (lv' := [(4, .int (iZ (↑j + 1))), (0, .ref (B)), (1, .int (iZ (↑nto))), (2, .int (iZ (↑nb)))]) hx hb dM_read_195 hl (k := 3) rfl (iZ_add _ _) (by decide) rfl (fun ls hl => ?_)
                                  refine lv_goto (tgt := 149) hx hb dM_read_198 (by decide) ?_
                                  rw [show (↑j + 1 : Int) = ↑(j + 1) from by omega] at hl
                                  exact ihL149 (j + 1) (nb * V + dg (f j)) w _ _ _ (by omega) (by omega) (hV2) ((hnz 128).mp (by omega)) hMR hdr hpa hv_4 hZ hS (lv_sub hl [1, 2, 3, 0] rfl)
                                · have hVb : rP 128 ≤ hv nb f fr (ct - fr) := by have h9 := hv_mono (base := nb) (by omega) f fr (j + 1 - fr) (ct - (j + 1)); rw [show j + 1 - fr + (ct - (j + 1)) = ct - fr by omega, ← hV2] at h9; have h8 : ¬ (nb * V + dg (f j)) < rP 128 := fun h7 => absurd ((hnz 128).mpr h7) (by omega); omega
                                  have hnX : ¬ zX (rdv nb ct f) := by unfold rdv; rw [zX_sgz, ← hfr, ← rP_128]; exact Nat.not_lt.mpr hVb
                                  refine lv_aload_n hx hb dM_read_189 rfl (lv_at hl 0 rfl) ?_
                                  refine lv_iconst (v := iZ (3)) hx hb dM_read_190 (by decide) ?_
                                  refine W.eq (g2 := F0 m 191 ls ([.int (iZ ((3 : Nat) : Int)), .ref B])) rfl ?_
                                  refine zm_put_thrown (x := 3) hx hb ht hown hK hZ hS tw_677 dM_read_191 (fun H locs hZ hS => ?_)
                                  have hZ : zMD E B w (3, fa, ct, be, fb, sb9, (2049 - st)) H := hZ
                                  exact hend 194 () _ _ _ dM_read_194 trivial (by rcases SP_g hsp ⟨hk_nto, hgb⟩ with ⟨_, h, _⟩ | h | ⟨_, _, h, _⟩; exact absurd hnum h; rotate_left; exact absurd h hnX; obtain ⟨hk, _, hs⟩ := h; subst hk; subst hs; exact ⟨hok1, w, (3, fa, ct, be, fb, sb9, (2049 - st)), hZ, ⟨hMR, rfl, hdr, rfl, hpa⟩, rfl⟩) hS
                          exact L149 _ fr 0 w _ _ _ (Nat.lt_succ_self _) (by omega) (by rw [Nat.sub_self]; rfl) (rP_pos 128) hMR hdr hpa hv_4 hZ hS (lv_sub hl [1, 2, 3, 0] rfl)
                        · have ht2 : t = 2 := by have := hRI.h1; omega
                          rw [ht2] at hRI hZ
                          have hnn := RI_no hRI
                          exact hend 138 () _ _ _ dM_read_138 trivial (by rcases SP_g hsp ⟨hk_nto, hgb⟩ with h | ⟨_, h, _⟩ | ⟨_, h, _⟩; rotate_left; exact absurd h.1 hnn; exact absurd h hnn; obtain ⟨hk, _, hs⟩ := h; subst hk; subst hs; exact ⟨hok1, w, (2, fa, ct, be, fb, sb9, (2049 - st)), hZ, ⟨hMR, rfl, hdr, rfl, hpa⟩, rfl⟩) hS
                      · refine lv_aload_n hx hb dM_read_99 rfl (lv_at hl 0 rfl) ?_
                        refine lv_aload_n hx hb dM_read_100 rfl (lv_at hl 0 rfl) ?_
                        refine zm_draft hx hb ht hown hK hZ tw_679 dM_read_101 ?_
                        refine lv_iload hx hb dM_read_104 (lv_at hl 4 rfl) ?_
                        refine zm_ld (k := 1) (i := j) hx hb hK hZ (by decide) (by show j < 2100; omega) dM_read_106 ?_
                        rw [hdr j (by omega)]
                        refine zcS_i (P' := fun (u : (Nat → Nat → Nat) × zC) H => zMD E B u.1 u.2 H) 1 (As := [.int (iZ (((f j : Nat) : Int)))]) (rest := [.ref (B)]) ⟨hx, hb, hml, hown, ht⟩ (mM_digit l E B w (t, fa, ct, be, fb, sb9, (2049 - st)) (f j) (by have := hf9 j; omega)) tw_765 tw_763 tw_764 tw_6 qM_digit (by rw [hR]; decide) hZ hK hl.1 rfl rfl (Nat.le_of_ble_eq_true rfl) dM_read_107 ⟨Nat.zero_le _, Nat.zero_le _⟩ hS (fun r9 u H locs hp hZ _ hS => ?_)
                        obtain ⟨hu9, hr1⟩ := hp
                        subst hr1
                        rw [hu9] at hZ
                        dsimp only at hZ
                        clear hu9
                        have hdl := dg_le (f j)
                        refine lv_iload_n hx hb dM_read_110 rfl (lv_at hl 2 rfl) ?_
                        refine zr_icmp_lt (tgt := 118) hx hb (by unfold zi; omega) (by unfold zi; omega) dM_read_111 (by decide) (fun c_55 => ?_) (fun c_55 => ?_)
                        · have hdd : dg (f j) < nb := by omega
                          refine lv_aload_n hx hb dM_read_118 rfl (lv_at hl 0 rfl) ?_
                          refine zm_thrown hx hb ht hown hK hZ tw_677 dM_read_119 ?_
                          refine zc_i (y := iZ (↑t)) rfl ?_
                          refine zm_put_thrown (x := t) hx hb ht hown hK hZ hS tw_677 dM_read_122 (fun H locs hZ hS => ?_)
                          have hZ : zMD E B w (t, fa, ct, be, fb, sb9, (2049 - st)) H := hZ
                          refine lv_iinc (v := iZ (↑j + 1)) (lv' := [(4, .int (iZ (↑j + 1))), (0, .ref (B)), (1, .int (iZ (↑nto))), (2, .int (iZ (↑nb))), (3, .int (iZ (↑fr)))]) hx hb dM_read_125 hl (k := 4) rfl (iZ_add _ _) (by decide) rfl (fun ls hl => ?_)
                          refine lv_goto (tgt := 90) hx hb dM_read_128 (by decide) ?_
                          rw [show (↑j + 1 : Int) = ↑(j + 1) from by omega] at hl
                          exact ihL90 (j + 1) t w _ _ _ (by omega) (by omega) (RI_ok hRI hdd) hMR hdr hpa  hZ hS (lv_sub hl [1, 2, 3, 4, 0] rfl)
                        · have hdd : nb ≤ dg (f j) := by omega
                          refine lv_iconst (v := iZ (2)) hx hb dM_read_114 (by decide) ?_
                          refine lv_goto (tgt := 122) hx hb dM_read_115 (by decide) ?_
                          refine W.eq (g2 := F0 m 122 ls ([.int (iZ ((2 : Nat) : Int)), .ref B])) rfl ?_
                          refine zm_put_thrown (x := 2) hx hb ht hown hK hZ hS tw_677 dM_read_122 (fun H locs hZ hS => ?_)
                          have hZ : zMD E B w (2, fa, ct, be, fb, sb9, (2049 - st)) H := hZ
                          refine lv_iinc (v := iZ (↑j + 1)) (lv' := [(4, .int (iZ (↑j + 1))), (0, .ref (B)), (1, .int (iZ (↑nto))), (2, .int (iZ (↑nb))), (3, .int (iZ (↑fr)))]) hx hb dM_read_125 hl (k := 4) rfl (iZ_add _ _) (by decide) rfl (fun ls hl => ?_)
                          refine lv_goto (tgt := 90) hx hb dM_read_128 (by decide) ?_
                          rw [show (↑j + 1 : Int) = ↑(j + 1) from by omega] at hl
                          exact ihL90 (j + 1) 2 w _ _ _ (by omega) (by omega) (RI_bad hj.1 hdd) hMR hdr hpa  hZ hS (lv_sub hl [1, 2, 3, 4, 0] rfl)
                  exact L90 _ fr 0 w0 _ _ _ (Nat.lt_succ_self _) (by omega) (hRI0) hMR hdr hpa  hZ hS (lv_sub hl [2, 3, 4, 1, 0] rfl)
                · refine lv_iconst (v := iZ (2)) hx hb dM_read_79 (by decide) ?_
                  refine lv_goto (tgt := 84) hx hb dM_read_80 (by decide) ?_
                  refine W.eq (g2 := F0 m 84 ls ([.int (iZ ((2 : Nat) : Int)), .ref B])) rfl ?_
                  refine zm_put_thrown (x := 2) hx hb ht hown hK hZ hS tw_677 dM_read_84 (fun H locs hZ hS => ?_)
                  have hZ : zMD E B w0 (2, fa, ct, be, fb, sb9, (2049 - st)) H := hZ
                  have hRI0 : RI 2 fr ct fr nb f := ⟨Or.inr rfl, fun h9 => absurd h9 (by decide), fun _ => Or.inl (by omega)⟩
                  refine lv_iload_n hx hb dM_read_87 rfl (lv_at hl 0 rfl) ?_
                  refine lv_istore (lv' := [(4, .int (iZ (↑fr))), (3, .int (iZ (↑fr))), (0, .ref (B)), (1, .int (iZ (↑nto))), (2, .int (iZ (↑nb)))]) hx hb dM_read_88 hl (by decide) rfl (fun ls hl => ?_)
                  have L90 : ∀ (fu : Nat) (j : Nat) (t : Nat) (w : Nat → Nat → Nat) (H : Heap) (locs : List Loc) (ls : Array Slot), ct - j < fu → (fr ≤ j ∧ j ≤ ct) → (RI t fr ct j nb f) → (MR w rg) → (∀ i, i < ct → w 1 i = f i) → (∀ i, i < 2049 - st → w 14 i = g (st + i)) → zMD E B w (t, fa, ct, be, fb, sb9, (2049 - st)) H → va_S (zA B 15) s.heap H locs → lv_has ls 5 [(0, .ref (B)), (1, .int (iZ (↑nto))), (2, .int (iZ (↑nb))), (3, .int (iZ (↑fr))), (4, .int (iZ (↑j)))] → W p l e R s m args below meth c H locs 0 0 Q (F0 m 90 ls []) := by
                    intro fu
                    induction fu with
                    | zero => intro j t w H locs ls hm; exact absurd hm (Nat.not_lt_zero _)
                    | succ fu ihL90 =>
                      intro j t w H locs ls hm hj hRI hMR hdr hpa hZ hS hl
                      refine lv_iload hx hb dM_read_90 (lv_at hl 4 rfl) ?_
                      refine lv_aload_n hx hb dM_read_92 rfl (lv_at hl 0 rfl) ?_
                      refine zm_length hx hb ht hown hK hZ tw_680 dM_read_93 ?_
                      refine zc_i (y := iZ (↑ct)) rfl ?_
                      refine zr_icmp_ge (tgt := 131) hx hb (by unfold zi; omega) (by unfold zi; omega) dM_read_96 (by decide) (fun c_56 => ?_) (fun c_56 => ?_)
                      · have hjc : j = ct := by omega
                        rw [hjc, hfr] at hRI
                        refine lv_aload_n hx hb dM_read_131 rfl (lv_at hl 0 rfl) ?_
                        refine zm_thrown hx hb ht hown hK hZ tw_677 dM_read_132 ?_
                        refine zc_i (y := iZ (↑t)) rfl ?_
                        refine zr_if_le (tgt := 139) hx hb (by have := hRI.h1; unfold zi; omega) dM_read_135 (by decide) (fun c_57 => ?_) (fun c_57 => ?_)
                        · have ht0 : t = 0 := by omega
                          rw [ht0] at hRI hZ
                          have hnum := RI_yes hRI
                          have hct0 : 0 < ct := by have := hnum.1; omega
                          refine lv_aload_n hx hb dM_read_139 rfl (lv_at hl 0 rfl) ?_
                          refine zm_row hx hb ht hown hK hZ tw_683 dM_read_140 ?_
                          refine zcS_v (P' := fun (u : (Nat → Nat → Nat) × zC) H => zMD E B u.1 u.2 H) 1 (As := [.ref (B + 4)]) (rest := []) ⟨hx, hb, hml, hown, ht⟩ (mM_clear l E B w (0, fa, ct, be, fb, sb9, (2049 - st)) 4 (by decide) 264 rfl (by decide)) tw_768 tw_766 tw_767 tw_6 qM_clear (by rw [hR]; decide) hZ hK hl.1 rfl rfl (Nat.le_of_ble_eq_true rfl) dM_read_143 ⟨Nat.zero_le _, Nat.zero_le _⟩ hS (fun u H locs hp hZ _ hS => ?_)
                          obtain ⟨w, q9⟩ := u
                          obtain ⟨ho, hq9, hcl⟩ := hp
                          dsimp only at *
                          rw [hq9] at hZ
                          replace hMR : MR w rg := MR_same (ho 2 (by decide)) (ho 3 (by decide)) hMR
                          replace hdr : ∀ i, i < ct → w 1 i = f i := fun i hi => by rw [ho 1 (by decide)]; exact hdr i hi
                          replace hpa : ∀ i, i < 2049 - st → w 14 i = g (st + i) := fun i hi => by rw [ho 14 (by decide)]; exact hpa i hi
                          have hv_4 : rv (w 4) 264 = 0 := by rw [rv_drop (m := 0) (Nat.zero_le _) (fun i _ h => hcl i h)]; rfl
                          have hcl4 := hcl
                          refine lv_iload_n hx hb dM_read_146 rfl (lv_at hl 3 rfl) ?_
                          refine lv_istore (lv' := [(4, .int (iZ (↑fr))), (0, .ref (B)), (1, .int (iZ (↑nto))), (2, .int (iZ (↑nb))), (3, .int (iZ (↑fr)))]) hx hb dM_read_147 hl (by decide) rfl (fun ls hl => ?_)
                          have L149 : ∀ (fu : Nat) (j : Nat) (V : Nat) (w : Nat → Nat → Nat) (H : Heap) (locs : List Loc) (ls : Array Slot), ct - j < fu → (fr ≤ j ∧ j ≤ ct) → (V = hv nb f fr (j - fr)) → (V < rP 128) → (MR w rg) → (∀ i, i < ct → w 1 i = f i) → (∀ i, i < 2049 - st → w 14 i = g (st + i)) → (rv (w 4) 264 = V) → zMD E B w (0, fa, ct, be, fb, sb9, (2049 - st)) H → va_S (zA B 15) s.heap H locs → lv_has ls 5 [(0, .ref (B)), (1, .int (iZ (↑nto))), (2, .int (iZ (↑nb))), (4, .int (iZ (↑j)))] → W p l e R s m args below meth c H locs 0 0 Q (F0 m 149 ls []) := by
                            intro fu
                            induction fu with
                            | zero => intro j V w H locs ls hm; exact absurd hm (Nat.not_lt_zero _)
                            | succ fu ihL149 =>
                              intro j V w H locs ls hm hj hV hV128 hMR hdr hpa hv_4 hZ hS hl
                              refine lv_iload hx hb dM_read_149 (lv_at hl 3 rfl) ?_
                              refine lv_aload_n hx hb dM_read_151 rfl (lv_at hl 0 rfl) ?_
                              refine zm_length hx hb ht hown hK hZ tw_680 dM_read_152 ?_
                              refine zc_i (y := iZ (↑ct)) rfl ?_
                              refine zr_icmp_ge (tgt := 201) hx hb (by unfold zi; omega) (by unfold zi; omega) dM_read_155 (by decide) (fun c_58 => ?_) (fun c_58 => ?_)
                              · have hjc : j = ct := by omega
                                rw [hjc] at hV
                                refine lv_aload_n hx hb dM_read_201 rfl (lv_at hl 0 rfl) ?_
                                refine lv_aload_n hx hb dM_read_202 rfl (lv_at hl 0 rfl) ?_
                                refine zm_draft hx hb ht hown hK hZ tw_679 dM_read_203 ?_
                                refine lv_iconst (v := iZ (0)) hx hb dM_read_206 (by decide) ?_
                                refine W.eq (g2 := F0 m 207 ls (.int (iZ ((0 : Nat) : Int)) :: .ref (B + 1) :: [.ref (B)])) rfl ?_
                                refine zm_ld (k := 1) (i := 0) hx hb hK hZ (by decide) (by show 0 < 2100; omega) dM_read_207 ?_
                                rw [hdr 0 hct0]
                                refine lv_bipush (v := iZ (45)) hx hb dM_read_208 (by decide) ?_
                                refine zr_icmp_ne (tgt := 217) hx hb (by unfold zi; omega) (by unfold zi; omega) dM_read_210 (by decide) (fun c_59 => ?_) (fun c_59 => ?_)
                                · have hb45 : ¬ f 0 = 45 := by omega
                                  refine lv_iconst (v := iZ (0)) hx hb dM_read_217 (by decide) ?_
                                  refine W.eq (g2 := F0 m 218 ls ([.int (iZ (bZ false)), .ref B])) rfl ?_
                                  refine zm_put_below (x := false) hx hb ht hown hK hZ hS tw_684 dM_read_218 (fun H locs hZ hS => ?_)
                                  have hZ : zMD E B w (0, fa, ct, false, fb, sb9, (2049 - st)) H := hZ
                                  refine lv_aload_n hx hb dM_read_221 rfl (lv_at hl 0 rfl) ?_
                                  refine lv_iload_n hx hb dM_read_222 rfl (lv_at hl 1 rfl) ?_
                                  refine zcV_v (P' := fun (u : (Nat → Nat → Nat) × zC) H => zMD E B u.1 u.2 H) 1 (As := [.int (iZ (↑nto))]) (rest := []) rfl ⟨hx, hb, hml, hown, ht⟩ (mM_store l E B w (0, fa, ct, false, fb, sb9, (2049 - st)) nto h10_nto rg hMR) tw_779 tw_776 tw_778 tp_12 tw_6 qM_store (by rw [hR]; decide) (zm_recv hK hZ) hZ hK hl.1 rfl rfl (Nat.le_of_ble_eq_true rfl) dM_read_223 ⟨Nat.zero_le _, Nat.zero_le _⟩ hS (fun u H locs hp hZ _ hS => ?_)
                                  obtain ⟨w, q9⟩ := u
                                  obtain ⟨ho, hbig, hfit⟩ := hp
                                  dsimp only at *
                                  rw [hv_4] at hbig hfit
                                  have hzz : (if false = true then -(((V : Nat) : Int)) else ((V : Nat) : Int)) = rdv nb ct f := by rw [if_neg (by decide)]; unfold rdv sgz; rw [if_neg (fun h9 => hb45 h9.2), ← hfr, ← hV]
                                  have hzX : zX (rdv nb ct f) ↔ V < rP 128 := by rw [← hzz]; exact zX_if
                                  rcases Nat.lt_or_ge (V) (rP 128) with hX | hX
                                  · obtain ⟨hq9, hMR9⟩ := hfit hX
                                    rw [hq9] at hZ
                                    rw [hzz] at hMR9
                                    have hzx := hzX.mpr hX
                                    replace hdr : ∀ i, i < ct → w 1 i = f i := fun i hi => by rw [ho 1 (by decide) (by decide)]; exact hdr i hi
                                    replace hpa : ∀ i, i < 2049 - st → w 14 i = g (st + i) := fun i hi => by rw [ho 14 (by decide) (by decide)]; exact hpa i hi
                                    replace hv_4 : rv (w 4) 264 = V := by rw [ho 4 (by decide) (by decide)]; exact hv_4
                                    have hMR : MR w (va_up rg nto (rdv nb ct f)) := hMR9
                                    refine lv_aload_n hx hb dM_read_226 rfl (lv_at hl 0 rfl) ?_
                                    refine lv_iconst (v := iZ (0)) hx hb dM_read_227 (by decide) ?_
                                    refine W.eq (g2 := F0 m 228 ls ([.int (iZ ((0 : Nat) : Int)), .ref B])) rfl ?_
                                    refine zm_put_length (x := 0) hx hb ht hown hK hZ hS tw_680 dM_read_228 (fun H locs hZ hS => ?_)
                                    have hZ : zMD E B w (0, fa, 0, false, fb, sb9, (2049 - st)) H := hZ
                                    exact hend 231 () _ _ _ dM_read_231 trivial (by rcases SP_g hsp ⟨hk_nto, hgb⟩ with ⟨_, h, _⟩ | ⟨_, h, _⟩ | ⟨hk, _, _, hs⟩; exact absurd hnum h; exact absurd hzx h.2; subst hk; subst hs; exact ⟨hok1, w, (0, fa, 0, false, fb, sb9, (2049 - st)), hZ, ⟨hMR, rfl, (fun i hi => absurd hi (Nat.not_lt_zero _)), rfl, hpa⟩, rfl⟩) hS
                                  · obtain ⟨e1, e2⟩ := Prod.mk.inj (hbig hX)
                                    rw [e2] at hZ
                                    rw [← e1] at hMR hdr hpa
                                    have hzx : ¬ zX (rdv nb ct f) := fun h9 => absurd (hzX.mp h9) (Nat.not_lt.mpr hX)
                                    have hZ : zMD E B w (fa, fa, ct, false, fb, sb9, (2049 - st)) H := hZ
                                    exact absurd hV128 (Nat.not_lt.mpr hX)
                                · have hb45 : f 0 = 45 := by omega
                                  refine lv_iconst (v := iZ (1)) hx hb dM_read_213 (by decide) ?_
                                  refine lv_goto (tgt := 218) hx hb dM_read_214 (by decide) ?_
                                  refine W.eq (g2 := F0 m 218 ls ([.int (iZ (bZ true)), .ref B])) rfl ?_
                                  refine zm_put_below (x := true) hx hb ht hown hK hZ hS tw_684 dM_read_218 (fun H locs hZ hS => ?_)
                                  have hZ : zMD E B w (0, fa, ct, true, fb, sb9, (2049 - st)) H := hZ
                                  refine lv_aload_n hx hb dM_read_221 rfl (lv_at hl 0 rfl) ?_
                                  refine lv_iload_n hx hb dM_read_222 rfl (lv_at hl 1 rfl) ?_
                                  refine zcV_v (P' := fun (u : (Nat → Nat → Nat) × zC) H => zMD E B u.1 u.2 H) 1 (As := [.int (iZ (↑nto))]) (rest := []) rfl ⟨hx, hb, hml, hown, ht⟩ (mM_store l E B w (0, fa, ct, true, fb, sb9, (2049 - st)) nto h10_nto rg hMR) tw_779 tw_776 tw_778 tp_12 tw_6 qM_store (by rw [hR]; decide) (zm_recv hK hZ) hZ hK hl.1 rfl rfl (Nat.le_of_ble_eq_true rfl) dM_read_223 ⟨Nat.zero_le _, Nat.zero_le _⟩ hS (fun u H locs hp hZ _ hS => ?_)
                                  obtain ⟨w, q9⟩ := u
                                  obtain ⟨ho, hbig, hfit⟩ := hp
                                  dsimp only at *
                                  rw [hv_4] at hbig hfit
                                  have hzz : (if true = true then -(((V : Nat) : Int)) else ((V : Nat) : Int)) = rdv nb ct f := by rw [if_pos rfl]; unfold rdv sgz; rw [if_pos ⟨hct0, hb45⟩, ← hfr, ← hV]
                                  have hzX : zX (rdv nb ct f) ↔ V < rP 128 := by rw [← hzz]; exact zX_if
                                  rcases Nat.lt_or_ge (V) (rP 128) with hX | hX
                                  · obtain ⟨hq9, hMR9⟩ := hfit hX
                                    rw [hq9] at hZ
                                    rw [hzz] at hMR9
                                    have hzx := hzX.mpr hX
                                    replace hdr : ∀ i, i < ct → w 1 i = f i := fun i hi => by rw [ho 1 (by decide) (by decide)]; exact hdr i hi
                                    replace hpa : ∀ i, i < 2049 - st → w 14 i = g (st + i) := fun i hi => by rw [ho 14 (by decide) (by decide)]; exact hpa i hi
                                    replace hv_4 : rv (w 4) 264 = V := by rw [ho 4 (by decide) (by decide)]; exact hv_4
                                    have hMR : MR w (va_up rg nto (rdv nb ct f)) := hMR9
                                    refine lv_aload_n hx hb dM_read_226 rfl (lv_at hl 0 rfl) ?_
                                    refine lv_iconst (v := iZ (0)) hx hb dM_read_227 (by decide) ?_
                                    refine W.eq (g2 := F0 m 228 ls ([.int (iZ ((0 : Nat) : Int)), .ref B])) rfl ?_
                                    refine zm_put_length (x := 0) hx hb ht hown hK hZ hS tw_680 dM_read_228 (fun H locs hZ hS => ?_)
                                    have hZ : zMD E B w (0, fa, 0, true, fb, sb9, (2049 - st)) H := hZ
                                    exact hend 231 () _ _ _ dM_read_231 trivial (by rcases SP_g hsp ⟨hk_nto, hgb⟩ with ⟨_, h, _⟩ | ⟨_, h, _⟩ | ⟨hk, _, _, hs⟩; exact absurd hnum h; exact absurd hzx h.2; subst hk; subst hs; exact ⟨hok1, w, (0, fa, 0, true, fb, sb9, (2049 - st)), hZ, ⟨hMR, rfl, (fun i hi => absurd hi (Nat.not_lt_zero _)), rfl, hpa⟩, rfl⟩) hS
                                  · obtain ⟨e1, e2⟩ := Prod.mk.inj (hbig hX)
                                    rw [e2] at hZ
                                    rw [← e1] at hMR hdr hpa
                                    have hzx : ¬ zX (rdv nb ct f) := fun h9 => absurd (hzX.mp h9) (Nat.not_lt.mpr hX)
                                    have hZ : zMD E B w (fa, fa, ct, true, fb, sb9, (2049 - st)) H := hZ
                                    exact absurd hV128 (Nat.not_lt.mpr hX)
                              · refine lv_aload_n hx hb dM_read_158 rfl (lv_at hl 0 rfl) ?_
                                refine zm_row hx hb ht hown hK hZ tw_683 dM_read_159 ?_
                                refine lv_iload_n hx hb dM_read_162 rfl (lv_at hl 2 rfl) ?_
                                refine lv_aload_n hx hb dM_read_163 rfl (lv_at hl 0 rfl) ?_
                                refine zm_draft hx hb ht hown hK hZ tw_679 dM_read_164 ?_
                                refine lv_iload hx hb dM_read_167 (lv_at hl 3 rfl) ?_
                                refine zm_ld (k := 1) (i := j) hx hb hK hZ (by decide) (by show j < 2100; omega) dM_read_169 ?_
                                rw [hdr j (by omega)]
                                refine zcS_i (P' := fun (u : (Nat → Nat → Nat) × zC) H => zMD E B u.1 u.2 H) 1 (As := [.int (iZ (((f j : Nat) : Int)))]) (rest := [.int (iZ (↑nb)), .ref (B + 4)]) ⟨hx, hb, hml, hown, ht⟩ (mM_digit l E B w (0, fa, ct, be, fb, sb9, (2049 - st)) (f j) (by have := hf9 j; omega)) tw_765 tw_763 tw_764 tw_6 qM_digit (by rw [hR]; decide) hZ hK hl.1 rfl rfl (Nat.le_of_ble_eq_true rfl) dM_read_170 ⟨Nat.zero_le _, Nat.zero_le _⟩ hS (fun r9 u H locs hp hZ _ hS => ?_)
                                obtain ⟨hu9, hr1⟩ := hp
                                subst hr1
                                rw [hu9] at hZ
                                dsimp only at hZ
                                clear hu9
                                refine zcS_v (P' := fun (u : (Nat → Nat → Nat) × zC) H => zMD E B u.1 u.2 H) 3 (As := [.ref (B + 4), .int (iZ (↑nb)), .int (iZ (((dg (f j) : Nat) : Int)))]) (rest := []) ⟨hx, hb, hml, hown, ht⟩ (mM_grow l E B w (0, fa, ct, be, fb, sb9, (2049 - st)) 4 (by decide) rfl nb (dg (f j)) (by omega) (dg_le _) (by rw [hv_4]; exact rgrow_264 (by omega) (dg_le _) hV128)) tw_771 tw_769 tw_770 tw_6 qM_grow (by rw [hR]; decide) hZ hK hl.1 rfl rfl (Nat.le_of_ble_eq_true rfl) dM_read_173 ⟨Nat.zero_le _, Nat.zero_le _⟩ hS (fun u H locs hp hZ _ hS => ?_)
                                obtain ⟨w, q9⟩ := u
                                obtain ⟨ho, hq9, hgv⟩ := hp
                                dsimp only at *
                                rw [hq9] at hZ
                                rw [hv_4] at hgv
                                replace hMR : MR w rg := MR_same (ho 2 (by decide)) (ho 3 (by decide)) hMR
                                replace hdr : ∀ i, i < ct → w 1 i = f i := fun i hi => by rw [ho 1 (by decide)]; exact hdr i hi
                                replace hpa : ∀ i, i < 2049 - st → w 14 i = g (st + i) := fun i hi => by rw [ho 14 (by decide)]; exact hpa i hi
                                clear hv_4
                                have hv_4 : rv (w 4) 264 = nb * V + dg (f j) := hgv
                                clear hgv
                                have hV2 : nb * V + dg (f j) = hv nb f fr (j + 1 - fr) := by rw [hV, show j + 1 - fr = (j - fr) + 1 by omega, hv_s, show fr + (j - fr) = j by omega, Nat.mul_comm]
                                refine lv_aload_n hx hb dM_read_176 rfl (lv_at hl 0 rfl) ?_
                                refine zm_row hx hb ht hown hK hZ tw_683 dM_read_177 ?_
                                refine zcS_i (P' := fun (u : (Nat → Nat → Nat) × zC) H => zMD E B u.1 u.2 H) 1 (As := [.ref (B + 4)]) (rest := []) ⟨hx, hb, hml, hown, ht⟩ (mM_size l E B w (0, fa, ct, be, fb, sb9, (2049 - st)) 4 (by decide) 264 rfl (by decide)) tw_774 tw_772 tw_773 tw_6 qM_size (by rw [hR]; decide) hZ hK hl.1 rfl rfl (Nat.le_of_ble_eq_true rfl) dM_read_180 ⟨Nat.zero_le _, Nat.zero_le _⟩ hS (fun r9 u H locs hp hZ _ hS => ?_)
                                obtain ⟨hu9, n, hr1, hn1, hn2, hn3⟩ := hp
                                subst hr1
                                rw [hu9] at hZ
                                dsimp only at hZ
                                clear hu9
                                have hnz : ∀ q, n ≤ q ↔ nb * V + dg (f j) < rP q := fun q => by rw [← hv_4]; exact size_le (hZ.2 4) hn1 hn2 hn3 q
                                refine lv_sipush (v := iZ (128)) hx hb dM_read_183 (by decide) ?_
                                refine zr_icmp_le (tgt := 195) hx hb (by unfold zi; omega) (by unfold zi; omega) dM_read_186 (by decide) (fun c_60 => ?_) (fun c_60 => ?_)
                                · refine lv_iinc (v := iZ (↑j + 1)) (lv' := [(4, .int (iZ (↑j + 1))), (0, .ref (B)), (1, .int (iZ (↑nto))), (2, .int (iZ (↑nb)))]) hx hb dM_read_195 hl (k := 3) rfl (iZ_add _ _) (by decide) rfl (fun ls hl => ?_)
                                  refine lv_goto (tgt := 149) hx hb dM_read_198 (by decide) ?_
                                  rw [show (↑j + 1 : Int) = ↑(j + 1) from by omega] at hl
                                  exact ihL149 (j + 1) (nb * V + dg (f j)) w _ _ _ (by omega) (by omega) (hV2) ((hnz 128).mp (by omega)) hMR hdr hpa hv_4 hZ hS (lv_sub hl [1, 2, 3, 0] rfl)
                                · have hVb : rP 128 ≤ hv nb f fr (ct - fr) := by have h9 := hv_mono (base := nb) (by omega) f fr (j + 1 - fr) (ct - (j + 1)); rw [show j + 1 - fr + (ct - (j + 1)) = ct - fr by omega, ← hV2] at h9; have h8 : ¬ (nb * V + dg (f j)) < rP 128 := fun h7 => absurd ((hnz 128).mpr h7) (by omega); omega
                                  have hnX : ¬ zX (rdv nb ct f) := by unfold rdv; rw [zX_sgz, ← hfr, ← rP_128]; exact Nat.not_lt.mpr hVb
                                  refine lv_aload_n hx hb dM_read_189 rfl (lv_at hl 0 rfl) ?_
                                  refine lv_iconst (v := iZ (3)) hx hb dM_read_190 (by decide) ?_
                                  refine W.eq (g2 := F0 m 191 ls ([.int (iZ ((3 : Nat) : Int)), .ref B])) rfl ?_
                                  refine zm_put_thrown (x := 3) hx hb ht hown hK hZ hS tw_677 dM_read_191 (fun H locs hZ hS => ?_)
                                  have hZ : zMD E B w (3, fa, ct, be, fb, sb9, (2049 - st)) H := hZ
                                  exact hend 194 () _ _ _ dM_read_194 trivial (by rcases SP_g hsp ⟨hk_nto, hgb⟩ with ⟨_, h, _⟩ | h | ⟨_, _, h, _⟩; exact absurd hnum h; rotate_left; exact absurd h hnX; obtain ⟨hk, _, hs⟩ := h; subst hk; subst hs; exact ⟨hok1, w, (3, fa, ct, be, fb, sb9, (2049 - st)), hZ, ⟨hMR, rfl, hdr, rfl, hpa⟩, rfl⟩) hS
                          exact L149 _ fr 0 w _ _ _ (Nat.lt_succ_self _) (by omega) (by rw [Nat.sub_self]; rfl) (rP_pos 128) hMR hdr hpa hv_4 hZ hS (lv_sub hl [1, 2, 3, 0] rfl)
                        · have ht2 : t = 2 := by have := hRI.h1; omega
                          rw [ht2] at hRI hZ
                          have hnn := RI_no hRI
                          exact hend 138 () _ _ _ dM_read_138 trivial (by rcases SP_g hsp ⟨hk_nto, hgb⟩ with h | ⟨_, h, _⟩ | ⟨_, h, _⟩; rotate_left; exact absurd h.1 hnn; exact absurd h hnn; obtain ⟨hk, _, hs⟩ := h; subst hk; subst hs; exact ⟨hok1, w, (2, fa, ct, be, fb, sb9, (2049 - st)), hZ, ⟨hMR, rfl, hdr, rfl, hpa⟩, rfl⟩) hS
                      · refine lv_aload_n hx hb dM_read_99 rfl (lv_at hl 0 rfl) ?_
                        refine lv_aload_n hx hb dM_read_100 rfl (lv_at hl 0 rfl) ?_
                        refine zm_draft hx hb ht hown hK hZ tw_679 dM_read_101 ?_
                        refine lv_iload hx hb dM_read_104 (lv_at hl 4 rfl) ?_
                        refine zm_ld (k := 1) (i := j) hx hb hK hZ (by decide) (by show j < 2100; omega) dM_read_106 ?_
                        rw [hdr j (by omega)]
                        refine zcS_i (P' := fun (u : (Nat → Nat → Nat) × zC) H => zMD E B u.1 u.2 H) 1 (As := [.int (iZ (((f j : Nat) : Int)))]) (rest := [.ref (B)]) ⟨hx, hb, hml, hown, ht⟩ (mM_digit l E B w (t, fa, ct, be, fb, sb9, (2049 - st)) (f j) (by have := hf9 j; omega)) tw_765 tw_763 tw_764 tw_6 qM_digit (by rw [hR]; decide) hZ hK hl.1 rfl rfl (Nat.le_of_ble_eq_true rfl) dM_read_107 ⟨Nat.zero_le _, Nat.zero_le _⟩ hS (fun r9 u H locs hp hZ _ hS => ?_)
                        obtain ⟨hu9, hr1⟩ := hp
                        subst hr1
                        rw [hu9] at hZ
                        dsimp only at hZ
                        clear hu9
                        have hdl := dg_le (f j)
                        refine lv_iload_n hx hb dM_read_110 rfl (lv_at hl 2 rfl) ?_
                        refine zr_icmp_lt (tgt := 118) hx hb (by unfold zi; omega) (by unfold zi; omega) dM_read_111 (by decide) (fun c_61 => ?_) (fun c_61 => ?_)
                        · have hdd : dg (f j) < nb := by omega
                          refine lv_aload_n hx hb dM_read_118 rfl (lv_at hl 0 rfl) ?_
                          refine zm_thrown hx hb ht hown hK hZ tw_677 dM_read_119 ?_
                          refine zc_i (y := iZ (↑t)) rfl ?_
                          refine zm_put_thrown (x := t) hx hb ht hown hK hZ hS tw_677 dM_read_122 (fun H locs hZ hS => ?_)
                          have hZ : zMD E B w (t, fa, ct, be, fb, sb9, (2049 - st)) H := hZ
                          refine lv_iinc (v := iZ (↑j + 1)) (lv' := [(4, .int (iZ (↑j + 1))), (0, .ref (B)), (1, .int (iZ (↑nto))), (2, .int (iZ (↑nb))), (3, .int (iZ (↑fr)))]) hx hb dM_read_125 hl (k := 4) rfl (iZ_add _ _) (by decide) rfl (fun ls hl => ?_)
                          refine lv_goto (tgt := 90) hx hb dM_read_128 (by decide) ?_
                          rw [show (↑j + 1 : Int) = ↑(j + 1) from by omega] at hl
                          exact ihL90 (j + 1) t w _ _ _ (by omega) (by omega) (RI_ok hRI hdd) hMR hdr hpa  hZ hS (lv_sub hl [1, 2, 3, 4, 0] rfl)
                        · have hdd : nb ≤ dg (f j) := by omega
                          refine lv_iconst (v := iZ (2)) hx hb dM_read_114 (by decide) ?_
                          refine lv_goto (tgt := 122) hx hb dM_read_115 (by decide) ?_
                          refine W.eq (g2 := F0 m 122 ls ([.int (iZ ((2 : Nat) : Int)), .ref B])) rfl ?_
                          refine zm_put_thrown (x := 2) hx hb ht hown hK hZ hS tw_677 dM_read_122 (fun H locs hZ hS => ?_)
                          have hZ : zMD E B w (2, fa, ct, be, fb, sb9, (2049 - st)) H := hZ
                          refine lv_iinc (v := iZ (↑j + 1)) (lv' := [(4, .int (iZ (↑j + 1))), (0, .ref (B)), (1, .int (iZ (↑nto))), (2, .int (iZ (↑nb))), (3, .int (iZ (↑fr)))]) hx hb dM_read_125 hl (k := 4) rfl (iZ_add _ _) (by decide) rfl (fun ls hl => ?_)
                          refine lv_goto (tgt := 90) hx hb dM_read_128 (by decide) ?_
                          rw [show (↑j + 1 : Int) = ↑(j + 1) from by omega] at hl
                          exact ihL90 (j + 1) 2 w _ _ _ (by omega) (by omega) (RI_bad hj.1 hdd) hMR hdr hpa  hZ hS (lv_sub hl [1, 2, 3, 4, 0] rfl)
                  exact L90 _ fr 2 w0 _ _ _ (Nat.lt_succ_self _) (by omega) (hRI0) hMR hdr hpa  hZ hS (lv_sub hl [2, 3, 4, 1, 0] rfl)
        · exact absurd c_6 (by decide)
      · have hng : ¬ (2 ≤ base ∧ base ≤ 36) := by omega
        refine lv_iconst (v := iZ (1)) hx hb dM_read_19 (by decide) ?_
        refine lv_goto (tgt := 24) hx hb dM_read_20 (by decide) ?_
        refine W.eq (g2 := F0 m 24 ls ([.int (iZ ((1 : Nat) : Int)), .ref B])) rfl ?_
        refine zm_put_thrown (x := 1) hx hb ht hown hK hZ hS tw_677 dM_read_24 (fun H locs hZ hS => ?_)
        have hZ : zMD E B w0 (1, fa, ct, be, fb, sb9, (2049 - st)) H := hZ
        refine lv_aload_n hx hb dM_read_27 rfl (lv_at hl 0 rfl) ?_
        refine zm_thrown hx hb ht hown hK hZ tw_677 dM_read_28 ?_
        refine zc_i (y := iZ (((1 : Nat) : Int))) rfl ?_
        refine zr_if_le (tgt := 35) hx hb (by decide) dM_read_31 (by decide) (fun c_62 => ?_) (fun c_62 => ?_)
        · exact absurd c_62 (by decide)
        · exact hend 34 () _ _ _ dM_read_34 trivial (by obtain ⟨hk, hs⟩ := SP_1 hsp (fun h9 => hng (by first | exact h9 | exact h9.1 | exact h9.2.1 | exact h9.2.2.1 | exact h9.2.2.2.1 | exact h9.2.2.2 | exact h9.2.2 | exact h9.2)); subst hk; subst hs; exact ⟨hok1, w0, (1, fa, ct, be, fb, sb9, (2049 - st)), hZ, ⟨hMR, rfl, hdr, rfl, hpa⟩, rfl⟩) hS
