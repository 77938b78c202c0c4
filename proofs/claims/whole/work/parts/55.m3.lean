def rx (d : Nat → Nat) (n : Nat) : Nat → Nat := fun i => if i < n then d i else 0
theorem rv_rx (d : Nat → Nat) {n j : Nat} (h : n ≤ j) : rv (rx d n) j = rv d n := by
  rw [rv_drop (m := n) h (fun i h1 _ => by unfold rx; rw [if_neg (by omega)])]
  exact rv_congr fun i hi => by unfold rx; rw [if_pos hi]
theorem mulstep {u u' w : Nat → Nat} {f c z p i : Nat} (hI : rv u' (p + i) + c * rP (p + i) = rv u (p + i) + f * rP p * rv w i) (hz : z = u (p + i) + f * w i + c) :
    rv (va_up u' (p + i) (z % 65536)) (p + (i + 1)) + z / 65536 * rP (p + (i + 1)) = rv u (p + (i + 1)) + f * rP p * rv w (i + 1) := by
  rw [← Nat.add_assoc, rdstep, rv_s, rv_s, hz]
  rw [rP_add] at hI ⊢
  generalize rv u' (p + i) = A at *
  generalize rv u (p + i) = Bv at *
  generalize rv w i = C at *
  generalize rP p = P at *
  generalize rP i = Pi at *
  generalize u (p + i) = y at *
  generalize w i = x at *
  rw [Nat.add_mul, Nat.add_mul, Nat.mul_add, Nat.add_comm _ (c * (P * Pi)), ← Nat.add_assoc, hI]
  have e : f * x * (P * Pi) = f * P * (x * Pi) := by rw [Nat.mul_assoc, Nat.mul_assoc, Nat.mul_left_comm x P Pi]
  rw [e]
  omega
theorem mul_carry {d0 a6 : Nat → Nat} {i j nb A x Bv c : Nat} (hI : rv a6 (i + j) + c * rP (i + j) = rv d0 (i + j) + x * rP i * Bv) (hd : rv d0 (i + j) ≤ A * Bv) (hA : A < rP i) (hx : x < 65536) (hB : Bv < rP nb) (hj : nb + 1 ≤ j) : c = 0 := by
  rcases Nat.eq_zero_or_pos c with h | h
  · exact h
  · exfalso
    have h1 := Nat.mul_le_mul_right (rP (i + j)) h
    rw [Nat.one_mul] at h1
    have h2 : x * rP i * Bv ≤ 65535 * rP i * Bv := Nat.mul_le_mul_right _ (Nat.mul_le_mul_right _ (by omega))
    have h3 : A * Bv + 65535 * rP i * Bv ≤ 65536 * rP i * Bv := by rw [← Nat.add_mul]; exact Nat.mul_le_mul_right _ (by omega)
    have h4 : 65536 * rP i * Bv < rP (i + 1) * rP nb ∨ Bv = 0 := by
      rcases Nat.eq_zero_or_pos Bv with h0 | h0
      · exact Or.inr h0
      · left
        rw [← rP_s]
        exact Nat.mul_lt_mul_of_pos_left hB (rP_pos _)
    have h5 : rP (i + 1) * rP nb ≤ rP (i + j) := by rw [← rP_add]; exact rP_mono (by omega)
    rcases h4 with h4 | h4
    · omega
    · rw [h4, Nat.mul_zero] at hI hd
      have := rP_pos (i + j)
      omega
theorem mul_row {d0 a6 : Nat → Nat} {k n Y : Nat} (hk : k ≤ n) (hI : rv a6 k = rv d0 k + Y) (hu : ∀ q, k ≤ q → a6 q = d0 q) : rv a6 n = rv d0 n + Y := by
  have := rv_tail hk (fun j h1 _ => hu j h1)
  omega
set_option maxHeartbeats 4000000 in
set_option maxRecDepth 100000 in
theorem mM_multiplyRows (l : Launch) (E : zE) (B : Nat) (w0 : Nat → Nat → Nat) (q0 : zC) (ka : Nat) (hk_ka : 4 ≤ ka ∧ ka ≤ 13) (kb : Nat) (hk_kb : 4 ≤ kb ∧ kb ≤ 13) (kt : Nat) (hk_kt : 4 ≤ kt ∧ kt ≤ 13) (hln_ka : mln ka = 264) (hln_kb : mln kb = 264) (hln_kt : mln kt = 264) (ha6 : ka ≠ 6) (hb6 : kb ≠ 6) (ht6 : kt ≠ 6) :
    Met l yM_multiplyRows (zws yM_multiplyRows cM_multiplyRows 10 none) { frames := 1, cells := 0, slots := 0, locals := 30 } (zPc E (zMD E B w0 q0) [.ref (B), .ref (B + ka), .ref (B + kb), .ref (B + kt)]) (va_Qv (fun u : (Nat → Nat → Nat) × zC => (∀ j, j ≠ 6 → j ≠ kt → u.1 j = w0 j) ∧ u.2 = q0 ∧ rv (u.1 kt) 264 = rv (w0 ka) 264 * rv (w0 kb) 264 % rP 264) (fun u t => zMD E B u.1 u.2 t.heap ∧ zK E t) (zA B 15)) 0 0 (zA B 15) := by
  refine zof_v (P' := fun (u : (Nat → Nat → Nat) × zC) H => zMD E B u.1 u.2 H) (by decide) (Nat.le_of_ble_eq_true rfl) fun p e R s m args below meth c Q ls hR hx hb hml ht hown hK hZ hl hend => ?_
  have hS : va_S (zA B 15) s.heap s.heap [] := va_S.rf
  have hown : s.vm.findClass "WholeDeskModel" = some m.cls := hown
  have hl : lv_has ls 10 [(0, .ref (B)), (1, .ref (B + ka)), (2, .ref (B + kb)), (3, .ref (B + kt))] := hl
  have fr : ∀ jx, jx ≠ 6 → w0 jx = w0 jx := fun jx _ => rfl
  refine lv_aload_n hx hb dM_multiplyRows_0 rfl (lv_at hl 0 rfl) ?_
  refine zm_product hx hb ht hown hK hZ tw_686 dM_multiplyRows_1 ?_
  refine zcS_v (P' := fun (u : (Nat → Nat → Nat) × zC) H => zMD E B u.1 u.2 H) 1 (As := [.ref (B + 6)]) (rest := []) ⟨hx, hb, hml, hown, ht⟩ (mM_clear l E B w0 q0 6 (by decide) 528 rfl (by decide)) tw_768 tw_766 tw_767 tw_6 qM_clear (by rw [hR]; decide) hZ hK hl.1 rfl rfl (Nat.le_of_ble_eq_true rfl) dM_multiplyRows_4 ⟨Nat.zero_le _, Nat.zero_le _⟩ hS (fun u H locs hp hZ _ hS => ?_)
  obtain ⟨w, q9⟩ := u
  obtain ⟨ho, hq9, hcl6⟩ := hp
  dsimp only at ho hq9 hZ hcl6
  rw [hq9] at hZ
  have fr : ∀ jx, jx ≠ 6 → w jx = w0 jx := fun jx h0 => (ho jx h0).trans (fr jx h0)
  have hP0 : rv (w 6) 528 = 0 := by rw [rv_drop (m := 0) (Nat.zero_le _) (fun i _ h => hcl6 i h)]; rfl
  have hwa : w ka = w0 ka := fr ka ha6
  have hwb : w kb = w0 kb := fr kb hb6
  refine lv_aload_n hx hb dM_multiplyRows_7 rfl (lv_at hl 1 rfl) ?_
  refine zcS_i (P' := fun (u : (Nat → Nat → Nat) × zC) H => zMD E B u.1 u.2 H) 1 (As := [.ref (B + ka)]) (rest := []) ⟨hx, hb, hml, hown, ht⟩ (mM_size l E B w q0 ka hk_ka 264 hln_ka (by omega)) tw_774 tw_772 tw_773 tw_6 qM_size (by rw [hR]; decide) hZ hK hl.1 rfl rfl (Nat.le_of_ble_eq_true rfl) dM_multiplyRows_8 ⟨Nat.zero_le _, Nat.zero_le _⟩ hS (fun r9 u H locs hp hZ _ hS => ?_)
  obtain ⟨hu9, na, hr1, hna1, hna2, hna3⟩ := hp
  subst hr1
  subst hu9
  dsimp only at hZ
  rw [hwa] at hna2 hna3
  refine lv_istore (lv' := [(4, .int (iZ (↑na))), (0, .ref (B)), (1, .ref (B + ka)), (2, .ref (B + kb)), (3, .ref (B + kt))]) hx hb dM_multiplyRows_11 hl (by decide) rfl (fun ls hl => ?_)
  refine lv_aload_n hx hb dM_multiplyRows_13 rfl (lv_at hl 3 rfl) ?_
  refine zcS_i (P' := fun (u : (Nat → Nat → Nat) × zC) H => zMD E B u.1 u.2 H) 1 (As := [.ref (B + kb)]) (rest := []) ⟨hx, hb, hml, hown, ht⟩ (mM_size l E B w q0 kb hk_kb 264 hln_kb (by omega)) tw_774 tw_772 tw_773 tw_6 qM_size (by rw [hR]; decide) hZ hK hl.1 rfl rfl (Nat.le_of_ble_eq_true rfl) dM_multiplyRows_14 ⟨Nat.zero_le _, Nat.zero_le _⟩ hS (fun r9 u H locs hp hZ _ hS => ?_)
  obtain ⟨hu9, nb, hr1, hnb1, hnb2, hnb3⟩ := hp
  subst hr1
  subst hu9
  dsimp only at hZ
  rw [hwb] at hnb2 hnb3
  have eA : rv (w0 ka) 264 = rv (w0 ka) na := rv_drop hna1 hna2
  have eB : rv (w0 kb) 264 = rv (w0 kb) nb := rv_drop hnb1 hnb2
  refine lv_istore (lv' := [(5, .int (iZ (↑nb))), (4, .int (iZ (↑na))), (0, .ref (B)), (1, .ref (B + ka)), (2, .ref (B + kb)), (3, .ref (B + kt))]) hx hb dM_multiplyRows_17 hl (by decide) rfl (fun ls hl => ?_)
  refine lv_iconst (v := iZ (0)) hx hb dM_multiplyRows_19 (by decide) ?_
  refine lv_istore (lv' := [(6, .int (iZ (0))), (5, .int (iZ (↑nb))), (4, .int (iZ (↑na))), (0, .ref (B)), (1, .ref (B + ka)), (2, .ref (B + kb)), (3, .ref (B + kt))]) hx hb dM_multiplyRows_20 hl (by decide) rfl (fun ls hl => ?_)
  have L22 : ∀ (fu : Nat) (i : Nat) (w : Nat → Nat → Nat) (H : Heap) (locs : List Loc) (ls : Array Slot), na - i < fu → (i ≤ na) → (rv (w 6) 528 = rv (w0 ka) i * rv (w0 kb) nb) → (∀ jx, jx ≠ 6 → w jx = w0 jx) → zMD E B w q0 H → va_S (zA B 15) s.heap H locs → lv_has ls 10 [(0, .ref (B)), (1, .ref (B + ka)), (2, .ref (B + kb)), (3, .ref (B + kt)), (4, .int (iZ (↑na))), (5, .int (iZ (↑nb))), (6, .int (iZ (↑i)))] → W p l e R s m args below meth c H locs 0 0 Q (F0 m 22 ls []) := by
    intro fu
    induction fu with
    | zero => intro i w H locs ls hm; exact absurd hm (Nat.not_lt_zero _)
    | succ fu ihL22 =>
      intro i w H locs ls hm hi hP fr hZ hS hl
      refine lv_iload hx hb dM_multiplyRows_22 (lv_at hl 6 rfl) ?_
      refine lv_iload hx hb dM_multiplyRows_24 (lv_at hl 4 rfl) ?_
      refine zr_icmp_ge (tgt := 124) hx hb (by unfold zi; omega) (by unfold zi; omega) dM_multiplyRows_26 (by decide) (fun c_1 => ?_) (fun c_1 => ?_)
      · have hZo := hZ.2
        have fro := fr
        refine lv_aload_n hx hb dM_multiplyRows_124 rfl (lv_at hl 0 rfl) ?_
        refine zm_product hx hb ht hown hK hZ tw_686 dM_multiplyRows_125 ?_
        refine lv_aload_n hx hb dM_multiplyRows_128 rfl (lv_at hl 3 rfl) ?_
        refine zcS_v (P' := fun (u : (Nat → Nat → Nat) × zC) H => zMD E B u.1 u.2 H) 2 (As := [.ref (B + 6), .ref (B + kt)]) (rest := []) ⟨hx, hb, hml, hown, ht⟩ (mM_copy l E B w q0 6 (by decide) kt hk_kt 528 rfl (by omega) 264 hln_kt (by omega) (Ne.symm ht6)) tw_798 tw_796 tw_797 tw_6 qM_copy (by rw [hR]; decide) hZ hK hl.1 rfl rfl (Nat.le_of_ble_eq_true rfl) dM_multiplyRows_129 ⟨Nat.zero_le _, Nat.zero_le _⟩ hS (fun u H locs hp hZ _ hS => ?_)
        obtain ⟨w, q9⟩ := u
        obtain ⟨ho, hq9, hcp⟩ := hp
        dsimp only at ho hq9 hZ hcp
        rw [hq9] at hZ
        have hin : i = na := by omega
        rw [hin, ← eA, ← eB] at hP
        have hfin : rv (w kt) 264 = rv (w0 ka) 264 * rv (w0 kb) 264 % rP 264 := by
          rw [rv_congr (e := _) (fun q hq => (hcp q hq).trans (if_pos (by omega))), ← hP, show 528 = 264 + 264 from rfl, rv_mod (hZo 6)]
        exact hend 132 (w, q0) _ _ _ dM_multiplyRows_132 (⟨fun j h1 h2 => (ho j h2).trans (fro j h1), rfl, hfin⟩) hZ hS
      · obtain ⟨d0, hd0⟩ : ∃ d, d = w 6 := ⟨_, rfl⟩
        have hd0P : rv d0 528 = rv (w0 ka) i * rv (w0 kb) nb := by rw [hd0]; exact hP
        refine lv_lconst (v := lZ (0)) hx hb dM_multiplyRows_29 (by decide) ?_
        refine lv_lstore (lv' := [(7, .long (lZ (0))), (0, .ref (B)), (1, .ref (B + ka)), (2, .ref (B + kb)), (3, .ref (B + kt)), (4, .int (iZ (↑na))), (5, .int (iZ (↑nb))), (6, .int (iZ (↑i)))]) hx hb dM_multiplyRows_30 hl (by decide) rfl (fun ls hl => ?_)
        refine lv_iconst (v := iZ (0)) hx hb dM_multiplyRows_32 (by decide) ?_
        refine lv_istore (lv' := [(9, .int (iZ (0))), (7, .long (lZ (0))), (0, .ref (B)), (1, .ref (B + ka)), (2, .ref (B + kb)), (3, .ref (B + kt)), (4, .int (iZ (↑na))), (5, .int (iZ (↑nb))), (6, .int (iZ (↑i)))]) hx hb dM_multiplyRows_33 hl (by decide) rfl (fun ls hl => ?_)
        have L35 : ∀ (fu : Nat) (j : Nat) (cr : Nat) (w : Nat → Nat → Nat) (H : Heap) (locs : List Loc) (ls : Array Slot), nb + 2 - j < fu → (j ≤ nb + 1) → (rv (w 6) (i + j) + cr * rP (i + j) = rv d0 (i + j) + w0 ka i * rP i * rv (rx (w0 kb) nb) j) → (∀ q, i + j ≤ q → w 6 q = d0 q) → (cr ≤ 65535) → (∀ jx, jx ≠ 6 → w jx = w0 jx) → zMD E B w q0 H → va_S (zA B 15) s.heap H locs → lv_has ls 10 [(0, .ref (B)), (1, .ref (B + ka)), (2, .ref (B + kb)), (3, .ref (B + kt)), (4, .int (iZ (↑na))), (5, .int (iZ (↑nb))), (6, .int (iZ (↑i))), (7, .long (lZ (↑cr))), (9, .int (iZ (↑j)))] → W p l e R s m args below meth c H locs 0 0 Q (F0 m 35 ls []) := by
          intro fu
          induction fu with
          | zero => intro j cr w H locs ls hm; exact absurd hm (Nat.not_lt_zero _)
          | succ fu ihL35 =>
            intro j cr w H locs ls hm hj hI hu hcr fr hZ hS hl
            refine lv_iload hx hb dM_multiplyRows_35 (lv_at hl 8 rfl) ?_
            refine lv_iload hx hb dM_multiplyRows_37 (lv_at hl 5 rfl) ?_
            refine zr_icmp_lt (tgt := 49) hx hb (by unfold zi; omega) (by unfold zi; omega) dM_multiplyRows_39 (by decide) (fun c_2 => ?_) (fun c_2 => ?_)
            · have hla := hZ.2 ka i
              rw [fr ka ha6] at hla
              have hlt := rv_lt (d := w0 ka) (fun q => by have := hZ.2 ka q; rw [fr ka ha6] at this; exact this) i
              have hjn : j ≤ nb := by
                rcases Nat.lt_or_ge nb j with h9 | h9
                · exfalso
                  have hltb := rv_lt (d := w0 kb) (fun q => by have := hZ.2 kb q; rw [fr kb hb6] at this; exact this) nb
                  rw [rv_rx _ (show nb ≤ j by omega)] at hI
                  have hc9 := mul_carry hI (Nat.le_trans (rv_mono (show i + j ≤ 528 by omega)) (Nat.le_of_eq hd0P)) hlt hla hltb (by omega)
                  omega
                · exact h9
              refine lv_lload hx hb dM_multiplyRows_49 (lv_at hl 7 rfl) ?_
              refine lv_aload_n hx hb dM_multiplyRows_51 rfl (lv_at hl 0 rfl) ?_
              refine zm_product hx hb ht hown hK hZ tw_686 dM_multiplyRows_52 ?_
              refine lv_iload hx hb dM_multiplyRows_55 (lv_at hl 6 rfl) ?_
              refine lv_iload hx hb dM_multiplyRows_57 (lv_at hl 8 rfl) ?_
              refine zr_iadd hx hb dM_multiplyRows_59 ?_
              rw [show (↑i + ↑j : Int) = ((i + j : Nat) : Int) by omega]
              refine zm_ld (k := 6) (i := i + j) hx hb hK hZ (by decide) (by show i + j < 528; omega) dM_multiplyRows_60 ?_
              have hl6 := hZ.2 6 (i + j)
              rw [hu (i + j) (Nat.le_refl _)] at hl6 ⊢
              refine zr_i2l hx hb (by unfold zi; omega) dM_multiplyRows_61 ?_
              refine zr_ladd hx hb dM_multiplyRows_62 ?_
              refine lv_iload hx hb dM_multiplyRows_63 (lv_at hl 8 rfl) ?_
              refine lv_iload hx hb dM_multiplyRows_65 (lv_at hl 5 rfl) ?_
              refine zr_icmp_ge (tgt := 84) hx hb (by unfold zi; omega) (by unfold zi; omega) dM_multiplyRows_67 (by decide) (fun c_3 => ?_) (fun c_3 => ?_)
              · have hrx : rx (w0 kb) nb j = 0 := by unfold rx; rw [if_neg (by omega)]
                have hpr : w0 ka i * rx (w0 kb) nb j ≤ 65535 * 65535 := by rw [hrx, Nat.mul_zero]; exact Nat.zero_le _
                refine lv_lconst (v := lZ (0)) hx hb dM_multiplyRows_84 (by decide) ?_
                refine zc_l (y := lZ ((w0 ka i * rx (w0 kb) nb j : Nat) : Int)) (congrArg lZ (by rw [hrx, Nat.mul_zero]; rfl)) ?_
                refine zr_ladd hx hb dM_multiplyRows_85 ?_
                obtain ⟨z, hz⟩ : ∃ z, z = d0 (i + j) + w0 ka i * rx (w0 kb) nb j + cr := ⟨_, rfl⟩
                refine zc_l (y := lZ ↑z) (congrArg lZ (by omega)) ?_
                refine lv_lstore (lv' := [(7, .long (lZ (↑z))), (0, .ref (B)), (1, .ref (B + ka)), (2, .ref (B + kb)), (3, .ref (B + kt)), (4, .int (iZ (↑na))), (5, .int (iZ (↑nb))), (6, .int (iZ (↑i))), (9, .int (iZ (↑j)))]) hx hb dM_multiplyRows_86 hl (by decide) rfl (fun ls hl => ?_)
                refine lv_aload_n hx hb dM_multiplyRows_88 rfl (lv_at hl 1 rfl) ?_
                refine zm_product hx hb ht hown hK hZ tw_686 dM_multiplyRows_89 ?_
                refine lv_iload hx hb dM_multiplyRows_92 (lv_at hl 7 rfl) ?_
                refine lv_iload hx hb dM_multiplyRows_94 (lv_at hl 8 rfl) ?_
                refine zr_iadd hx hb dM_multiplyRows_96 ?_
                refine lv_lload hx hb dM_multiplyRows_97 (lv_at hl 0 rfl) ?_
                refine lv_ldc2 (v := lZ (65535)) hx hb hown (ht _ tw_775) dM_multiplyRows_99 ?_
                refine zr_mask (n := 16) (P := 65536) hx hb (Nat.le_of_ble_eq_true rfl) p2_16 m2_16 dM_multiplyRows_102 ?_
                refine zr_l2i hx hb dM_multiplyRows_103 ?_
                rw [show (↑z % 65536 : Int) = ((z % 65536 : Nat) : Int) from by omega]
                rw [show (↑i + ↑j : Int) = ((i + j : Nat) : Int) by omega]
                refine zm_st (k := 6) (i := i + j) (x := z % 65536) hx hb hK hZ hS (by decide) (by show i + j < 528; omega) (by omega) dM_multiplyRows_104 (fun H locs hZ hS => ?_)
                have fr : ∀ jx, jx ≠ 6 → (mup w 6 (i + j) (z % 65536)) jx = w0 jx := fun jx h0 => (mup_ne _ _ _ h0).trans (fr jx h0)
                refine lv_lload hx hb dM_multiplyRows_105 (lv_at hl 0 rfl) ?_
                refine lv_bipush (v := iZ (16)) hx hb dM_multiplyRows_107 (by decide) ?_
                refine zr_lshr (n := 16) (P := 65536) hx hb (by unfold zl; omega) (Nat.le_of_ble_eq_true rfl) (p2_16) dM_multiplyRows_109 ?_
                refine zc_l (y := lZ (((z / 65536 : Nat) : Int))) (congrArg lZ (by omega)) ?_
                refine lv_lstore (lv' := [(7, .long (lZ (((z / 65536 : Nat) : Int)))), (0, .ref (B)), (1, .ref (B + ka)), (2, .ref (B + kb)), (3, .ref (B + kt)), (4, .int (iZ (↑na))), (5, .int (iZ (↑nb))), (6, .int (iZ (↑i))), (9, .int (iZ (↑j)))]) hx hb dM_multiplyRows_110 hl (by decide) rfl (fun ls hl => ?_)
                refine lv_iinc (v := iZ (↑j + 1)) (lv' := [(9, .int (iZ (↑j + 1))), (7, .long (lZ (((z / 65536 : Nat) : Int)))), (0, .ref (B)), (1, .ref (B + ka)), (2, .ref (B + kb)), (3, .ref (B + kt)), (4, .int (iZ (↑na))), (5, .int (iZ (↑nb))), (6, .int (iZ (↑i)))]) hx hb dM_multiplyRows_112 hl (k := 8) rfl (iZ_add _ _) (by decide) rfl (fun ls hl => ?_)
                refine lv_goto (tgt := 35) hx hb dM_multiplyRows_115 (by decide) ?_
                rw [show (↑j + 1 : Int) = ↑(j + 1) from by omega] at hl
                exact ihL35 (j + 1) (z / 65536) (mup w 6 (i + j) (z % 65536)) _ _ _ (by omega) (by omega) (by rw [mup_at]; exact mulstep hI hz) (fun q hq => by rw [mup_at, va_up_ne _ _ (by omega)]; exact hu q (by omega)) (by omega) fr hZ hS (lv_sub hl [2, 3, 4, 5, 6, 7, 8, 1, 0] rfl)
              · refine lv_aload_n hx hb dM_multiplyRows_70 rfl (lv_at hl 1 rfl) ?_
                refine lv_iload hx hb dM_multiplyRows_71 (lv_at hl 6 rfl) ?_
                refine zm_ld (k := ka) (i := i) hx hb hK hZ (by omega) (by omega) dM_multiplyRows_73 ?_
                rw [fr ka ha6]
                refine zr_i2l hx hb (by unfold zi; omega) dM_multiplyRows_74 ?_
                refine lv_aload_n hx hb dM_multiplyRows_75 rfl (lv_at hl 2 rfl) ?_
                refine lv_iload hx hb dM_multiplyRows_76 (lv_at hl 8 rfl) ?_
                refine zm_ld (k := kb) (i := j) hx hb hK hZ (by omega) (by omega) dM_multiplyRows_78 ?_
                have hlb := hZ.2 kb j
                rw [fr kb hb6] at hlb ⊢
                have hrx : rx (w0 kb) nb j = w0 kb j := by unfold rx; rw [if_pos (by omega)]
                refine zr_i2l hx hb (by unfold zi; omega) dM_multiplyRows_79 ?_
                refine zr_lmul hx hb dM_multiplyRows_80 ?_
                have hpr : w0 ka i * w0 kb j ≤ 65535 * 65535 := Nat.mul_le_mul (by omega) (by omega)
                refine zc_l (y := lZ ((w0 ka i * rx (w0 kb) nb j : Nat) : Int)) (congrArg lZ (by rw [hrx, Int.natCast_mul])) ?_
                rw [← hrx] at hpr
                refine lv_goto (tgt := 85) hx hb dM_multiplyRows_81 (by decide) ?_
                refine zr_ladd hx hb dM_multiplyRows_85 ?_
                obtain ⟨z, hz⟩ : ∃ z, z = d0 (i + j) + w0 ka i * rx (w0 kb) nb j + cr := ⟨_, rfl⟩
                refine zc_l (y := lZ ↑z) (congrArg lZ (by omega)) ?_
                refine lv_lstore (lv' := [(7, .long (lZ (↑z))), (0, .ref (B)), (1, .ref (B + ka)), (2, .ref (B + kb)), (3, .ref (B + kt)), (4, .int (iZ (↑na))), (5, .int (iZ (↑nb))), (6, .int (iZ (↑i))), (9, .int (iZ (↑j)))]) hx hb dM_multiplyRows_86 hl (by decide) rfl (fun ls hl => ?_)
                refine lv_aload_n hx hb dM_multiplyRows_88 rfl (lv_at hl 1 rfl) ?_
                refine zm_product hx hb ht hown hK hZ tw_686 dM_multiplyRows_89 ?_
                refine lv_iload hx hb dM_multiplyRows_92 (lv_at hl 7 rfl) ?_
                refine lv_iload hx hb dM_multiplyRows_94 (lv_at hl 8 rfl) ?_
                refine zr_iadd hx hb dM_multiplyRows_96 ?_
                refine lv_lload hx hb dM_multiplyRows_97 (lv_at hl 0 rfl) ?_
                refine lv_ldc2 (v := lZ (65535)) hx hb hown (ht _ tw_775) dM_multiplyRows_99 ?_
                refine zr_mask (n := 16) (P := 65536) hx hb (Nat.le_of_ble_eq_true rfl) p2_16 m2_16 dM_multiplyRows_102 ?_
                refine zr_l2i hx hb dM_multiplyRows_103 ?_
                rw [show (↑z % 65536 : Int) = ((z % 65536 : Nat) : Int) from by omega]
                rw [show (↑i + ↑j : Int) = ((i + j : Nat) : Int) by omega]
                refine zm_st (k := 6) (i := i + j) (x := z % 65536) hx hb hK hZ hS (by decide) (by show i + j < 528; omega) (by omega) dM_multiplyRows_104 (fun H locs hZ hS => ?_)
                have fr : ∀ jx, jx ≠ 6 → (mup w 6 (i + j) (z % 65536)) jx = w0 jx := fun jx h0 => (mup_ne _ _ _ h0).trans (fr jx h0)
                refine lv_lload hx hb dM_multiplyRows_105 (lv_at hl 0 rfl) ?_
                refine lv_bipush (v := iZ (16)) hx hb dM_multiplyRows_107 (by decide) ?_
                refine zr_lshr (n := 16) (P := 65536) hx hb (by unfold zl; omega) (Nat.le_of_ble_eq_true rfl) (p2_16) dM_multiplyRows_109 ?_
                refine zc_l (y := lZ (((z / 65536 : Nat) : Int))) (congrArg lZ (by omega)) ?_
                refine lv_lstore (lv' := [(7, .long (lZ (((z / 65536 : Nat) : Int)))), (0, .ref (B)), (1, .ref (B + ka)), (2, .ref (B + kb)), (3, .ref (B + kt)), (4, .int (iZ (↑na))), (5, .int (iZ (↑nb))), (6, .int (iZ (↑i))), (9, .int (iZ (↑j)))]) hx hb dM_multiplyRows_110 hl (by decide) rfl (fun ls hl => ?_)
                refine lv_iinc (v := iZ (↑j + 1)) (lv' := [(9, .int (iZ (↑j + 1))), (7, .long (lZ (((z / 65536 : Nat) : Int)))), (0, .ref (B)), (1, .ref (B + ka)), (2, .ref (B + kb)), (3, .ref (B + kt)), (4, .int (iZ (↑na))), (5, .int (iZ (↑nb))), (6, .int (iZ (↑i)))]) hx hb dM_multiplyRows_112 hl (k := 8) rfl (iZ_add _ _) (by decide) rfl (fun ls hl => ?_)
                refine lv_goto (tgt := 35) hx hb dM_multiplyRows_115 (by decide) ?_
                rw [show (↑j + 1 : Int) = ↑(j + 1) from by omega] at hl
                exact ihL35 (j + 1) (z / 65536) (mup w 6 (i + j) (z % 65536)) _ _ _ (by omega) (by omega) (by rw [mup_at]; exact mulstep hI hz) (fun q hq => by rw [mup_at, va_up_ne _ _ (by omega)]; exact hu q (by omega)) (by omega) fr hZ hS (lv_sub hl [2, 3, 4, 5, 6, 7, 8, 1, 0] rfl)
            · refine lv_lload hx hb dM_multiplyRows_42 (lv_at hl 7 rfl) ?_
              refine lv_lconst (v := lZ (0)) hx hb dM_multiplyRows_44 (by decide) ?_
              refine zr_lcmp_eq (tgt := 118) hx hb (by unfold zl; omega) (by unfold zl; omega) dM_multiplyRows_45 dM_multiplyRows_46 (by decide) (fun c_4 => ?_) (fun c_4 => ?_)
              · have hc0 : cr = 0 := by omega
                refine lv_iinc (v := iZ (↑i + 1)) (lv' := [(6, .int (iZ (↑i + 1))), (0, .ref (B)), (1, .ref (B + ka)), (2, .ref (B + kb)), (3, .ref (B + kt)), (4, .int (iZ (↑na))), (5, .int (iZ (↑nb))), (7, .long (lZ (↑cr))), (9, .int (iZ (↑j)))]) hx hb dM_multiplyRows_118 hl (k := 6) rfl (iZ_add _ _) (by decide) rfl (fun ls hl => ?_)
                refine lv_goto (tgt := 22) hx hb dM_multiplyRows_121 (by decide) ?_
                rw [show (↑i + 1 : Int) = ↑(i + 1) from by omega] at hl
                exact ihL22 (i + 1) w _ _ _ (by omega) (by omega) (by rw [mul_row (n := 528) (k := i + j) (by omega) (by rw [hc0, Nat.zero_mul, Nat.add_zero, rv_rx _ (show nb ≤ j by omega)] at hI; exact hI) hu, hd0P, rv_s, Nat.add_mul]) fr hZ hS (lv_sub hl [1, 2, 3, 4, 5, 6, 0] rfl)
              · have hla := hZ.2 ka i
                rw [fr ka ha6] at hla
                have hlt := rv_lt (d := w0 ka) (fun q => by have := hZ.2 ka q; rw [fr ka ha6] at this; exact this) i
                have hjn : j ≤ nb := by
                  rcases Nat.lt_or_ge nb j with h9 | h9
                  · exfalso
                    have hltb := rv_lt (d := w0 kb) (fun q => by have := hZ.2 kb q; rw [fr kb hb6] at this; exact this) nb
                    rw [rv_rx _ (show nb ≤ j by omega)] at hI
                    have hc9 := mul_carry hI (Nat.le_trans (rv_mono (show i + j ≤ 528 by omega)) (Nat.le_of_eq hd0P)) hlt hla hltb (by omega)
                    omega
                  · exact h9
                refine lv_lload hx hb dM_multiplyRows_49 (lv_at hl 7 rfl) ?_
                refine lv_aload_n hx hb dM_multiplyRows_51 rfl (lv_at hl 0 rfl) ?_
                refine zm_product hx hb ht hown hK hZ tw_686 dM_multiplyRows_52 ?_
                refine lv_iload hx hb dM_multiplyRows_55 (lv_at hl 6 rfl) ?_
                refine lv_iload hx hb dM_multiplyRows_57 (lv_at hl 8 rfl) ?_
                refine zr_iadd hx hb dM_multiplyRows_59 ?_
                rw [show (↑i + ↑j : Int) = ((i + j : Nat) : Int) by omega]
                refine zm_ld (k := 6) (i := i + j) hx hb hK hZ (by decide) (by show i + j < 528; omega) dM_multiplyRows_60 ?_
                have hl6 := hZ.2 6 (i + j)
                rw [hu (i + j) (Nat.le_refl _)] at hl6 ⊢
                refine zr_i2l hx hb (by unfold zi; omega) dM_multiplyRows_61 ?_
                refine zr_ladd hx hb dM_multiplyRows_62 ?_
                refine lv_iload hx hb dM_multiplyRows_63 (lv_at hl 8 rfl) ?_
                refine lv_iload hx hb dM_multiplyRows_65 (lv_at hl 5 rfl) ?_
                refine zr_icmp_ge (tgt := 84) hx hb (by unfold zi; omega) (by unfold zi; omega) dM_multiplyRows_67 (by decide) (fun c_5 => ?_) (fun c_5 => ?_)
                · have hrx : rx (w0 kb) nb j = 0 := by unfold rx; rw [if_neg (by omega)]
                  have hpr : w0 ka i * rx (w0 kb) nb j ≤ 65535 * 65535 := by rw [hrx, Nat.mul_zero]; exact Nat.zero_le _
                  refine lv_lconst (v := lZ (0)) hx hb dM_multiplyRows_84 (by decide) ?_
                  refine zc_l (y := lZ ((w0 ka i * rx (w0 kb) nb j : Nat) : Int)) (congrArg lZ (by rw [hrx, Nat.mul_zero]; rfl)) ?_
                  refine zr_ladd hx hb dM_multiplyRows_85 ?_
                  obtain ⟨z, hz⟩ : ∃ z, z = d0 (i + j) + w0 ka i * rx (w0 kb) nb j + cr := ⟨_, rfl⟩
                  refine zc_l (y := lZ ↑z) (congrArg lZ (by omega)) ?_
                  refine lv_lstore (lv' := [(7, .long (lZ (↑z))), (0, .ref (B)), (1, .ref (B + ka)), (2, .ref (B + kb)), (3, .ref (B + kt)), (4, .int (iZ (↑na))), (5, .int (iZ (↑nb))), (6, .int (iZ (↑i))), (9, .int (iZ (↑j)))]) hx hb dM_multiplyRows_86 hl (by decide) rfl (fun ls hl => ?_)
                  refine lv_aload_n hx hb dM_multiplyRows_88 rfl (lv_at hl 1 rfl) ?_
                  refine zm_product hx hb ht hown hK hZ tw_686 dM_multiplyRows_89 ?_
                  refine lv_iload hx hb dM_multiplyRows_92 (lv_at hl 7 rfl) ?_
                  refine lv_iload hx hb dM_multiplyRows_94 (lv_at hl 8 rfl) ?_
                  refine zr_iadd hx hb dM_multiplyRows_96 ?_
                  refine lv_lload hx hb dM_multiplyRows_97 (lv_at hl 0 rfl) ?_
                  refine lv_ldc2 (v := lZ (65535)) hx hb hown (ht _ tw_775) dM_multiplyRows_99 ?_
                  refine zr_mask (n := 16) (P := 65536) hx hb (Nat.le_of_ble_eq_true rfl) p2_16 m2_16 dM_multiplyRows_102 ?_
                  refine zr_l2i hx hb dM_multiplyRows_103 ?_
                  rw [show (↑z % 65536 : Int) = ((z % 65536 : Nat) : Int) from by omega]
                  rw [show (↑i + ↑j : Int) = ((i + j : Nat) : Int) by omega]
                  refine zm_st (k := 6) (i := i + j) (x := z % 65536) hx hb hK hZ hS (by decide) (by show i + j < 528; omega) (by omega) dM_multiplyRows_104 (fun H locs hZ hS => ?_)
                  have fr : ∀ jx, jx ≠ 6 → (mup w 6 (i + j) (z % 65536)) jx = w0 jx := fun jx h0 => (mup_ne _ _ _ h0).trans (fr jx h0)
                  refine lv_lload hx hb dM_multiplyRows_105 (lv_at hl 0 rfl) ?_
                  refine lv_bipush (v := iZ (16)) hx hb dM_multiplyRows_107 (by decide) ?_
                  refine zr_lshr (n := 16) (P := 65536) hx hb (by unfold zl; omega) (Nat.le_of_ble_eq_true rfl) (p2_16) dM_multiplyRows_109 ?_
                  refine zc_l (y := lZ (((z / 65536 : Nat) : Int))) (congrArg lZ (by omega)) ?_
                  refine lv_lstore (lv' := [(7, .long (lZ (((z / 65536 : Nat) : Int)))), (0, .ref (B)), (1, .ref (B + ka)), (2, .ref (B + kb)), (3, .ref (B + kt)), (4, .int (iZ (↑na))), (5, .int (iZ (↑nb))), (6, .int (iZ (↑i))), (9, .int (iZ (↑j)))]) hx hb dM_multiplyRows_110 hl (by decide) rfl (fun ls hl => ?_)
                  refine lv_iinc (v := iZ (↑j + 1)) (lv' := [(9, .int (iZ (↑j + 1))), (7, .long (lZ (((z / 65536 : Nat) : Int)))), (0, .ref (B)), (1, .ref (B + ka)), (2, .ref (B + kb)), (3, .ref (B + kt)), (4, .int (iZ (↑na))), (5, .int (iZ (↑nb))), (6, .int (iZ (↑i)))]) hx hb dM_multiplyRows_112 hl (k := 8) rfl (iZ_add _ _) (by decide) rfl (fun ls hl => ?_)
                  refine lv_goto (tgt := 35) hx hb dM_multiplyRows_115 (by decide) ?_
                  rw [show (↑j + 1 : Int) = ↑(j + 1) from by omega] at hl
                  exact ihL35 (j + 1) (z / 65536) (mup w 6 (i + j) (z % 65536)) _ _ _ (by omega) (by omega) (by rw [mup_at]; exact mulstep hI hz) (fun q hq => by rw [mup_at, va_up_ne _ _ (by omega)]; exact hu q (by omega)) (by omega) fr hZ hS (lv_sub hl [2, 3, 4, 5, 6, 7, 8, 1, 0] rfl)
                · refine lv_aload_n hx hb dM_multiplyRows_70 rfl (lv_at hl 1 rfl) ?_
                  refine lv_iload hx hb dM_multiplyRows_71 (lv_at hl 6 rfl) ?_
                  refine zm_ld (k := ka) (i := i) hx hb hK hZ (by omega) (by omega) dM_multiplyRows_73 ?_
                  rw [fr ka ha6]
                  refine zr_i2l hx hb (by unfold zi; omega) dM_multiplyRows_74 ?_
                  refine lv_aload_n hx hb dM_multiplyRows_75 rfl (lv_at hl 2 rfl) ?_
                  refine lv_iload hx hb dM_multiplyRows_76 (lv_at hl 8 rfl) ?_
                  refine zm_ld (k := kb) (i := j) hx hb hK hZ (by omega) (by omega) dM_multiplyRows_78 ?_
                  have hlb := hZ.2 kb j
                  rw [fr kb hb6] at hlb ⊢
                  have hrx : rx (w0 kb) nb j = w0 kb j := by unfold rx; rw [if_pos (by omega)]
                  refine zr_i2l hx hb (by unfold zi; omega) dM_multiplyRows_79 ?_
                  refine zr_lmul hx hb dM_multiplyRows_80 ?_
                  have hpr : w0 ka i * w0 kb j ≤ 65535 * 65535 := Nat.mul_le_mul (by omega) (by omega)
                  refine zc_l (y := lZ ((w0 ka i * rx (w0 kb) nb j : Nat) : Int)) (congrArg lZ (by rw [hrx, Int.natCast_mul])) ?_
                  rw [← hrx] at hpr
                  refine lv_goto (tgt := 85) hx hb dM_multiplyRows_81 (by decide) ?_
                  refine zr_ladd hx hb dM_multiplyRows_85 ?_
                  obtain ⟨z, hz⟩ : ∃ z, z = d0 (i + j) + w0 ka i * rx (w0 kb) nb j + cr := ⟨_, rfl⟩
                  refine zc_l (y := lZ ↑z) (congrArg lZ (by omega)) ?_
                  refine lv_lstore (lv' := [(7, .long (lZ (↑z))), (0, .ref (B)), (1, .ref (B + ka)), (2, .ref (B + kb)), (3, .ref (B + kt)), (4, .int (iZ (↑na))), (5, .int (iZ (↑nb))), (6, .int (iZ (↑i))), (9, .int (iZ (↑j)))]) hx hb dM_multiplyRows_86 hl (by decide) rfl (fun ls hl => ?_)
                  refine lv_aload_n hx hb dM_multiplyRows_88 rfl (lv_at hl 1 rfl) ?_
                  refine zm_product hx hb ht hown hK hZ tw_686 dM_multiplyRows_89 ?_
                  refine lv_iload hx hb dM_multiplyRows_92 (lv_at hl 7 rfl) ?_
                  refine lv_iload hx hb dM_multiplyRows_94 (lv_at hl 8 rfl) ?_
                  refine zr_iadd hx hb dM_multiplyRows_96 ?_
                  refine lv_lload hx hb dM_multiplyRows_97 (lv_at hl 0 rfl) ?_
                  refine lv_ldc2 (v := lZ (65535)) hx hb hown (ht _ tw_775) dM_multiplyRows_99 ?_
                  refine zr_mask (n := 16) (P := 65536) hx hb (Nat.le_of_ble_eq_true rfl) p2_16 m2_16 dM_multiplyRows_102 ?_
                  refine zr_l2i hx hb dM_multiplyRows_103 ?_
                  rw [show (↑z % 65536 : Int) = ((z % 65536 : Nat) : Int) from by omega]
                  rw [show (↑i + ↑j : Int) = ((i + j : Nat) : Int) by omega]
                  refine zm_st (k := 6) (i := i + j) (x := z % 65536) hx hb hK hZ hS (by decide) (by show i + j < 528; omega) (by omega) dM_multiplyRows_104 (fun H locs hZ hS => ?_)
                  have fr : ∀ jx, jx ≠ 6 → (mup w 6 (i + j) (z % 65536)) jx = w0 jx := fun jx h0 => (mup_ne _ _ _ h0).trans (fr jx h0)
                  refine lv_lload hx hb dM_multiplyRows_105 (lv_at hl 0 rfl) ?_
                  refine lv_bipush (v := iZ (16)) hx hb dM_multiplyRows_107 (by decide) ?_
                  refine zr_lshr (n := 16) (P := 65536) hx hb (by unfold zl; omega) (Nat.le_of_ble_eq_true rfl) (p2_16) dM_multiplyRows_109 ?_
                  refine zc_l (y := lZ (((z / 65536 : Nat) : Int))) (congrArg lZ (by omega)) ?_
                  refine lv_lstore (lv' := [(7, .long (lZ (((z / 65536 : Nat) : Int)))), (0, .ref (B)), (1, .ref (B + ka)), (2, .ref (B + kb)), (3, .ref (B + kt)), (4, .int (iZ (↑na))), (5, .int (iZ (↑nb))), (6, .int (iZ (↑i))), (9, .int (iZ (↑j)))]) hx hb dM_multiplyRows_110 hl (by decide) rfl (fun ls hl => ?_)
                  refine lv_iinc (v := iZ (↑j + 1)) (lv' := [(9, .int (iZ (↑j + 1))), (7, .long (lZ (((z / 65536 : Nat) : Int)))), (0, .ref (B)), (1, .ref (B + ka)), (2, .ref (B + kb)), (3, .ref (B + kt)), (4, .int (iZ (↑na))), (5, .int (iZ (↑nb))), (6, .int (iZ (↑i)))]) hx hb dM_multiplyRows_112 hl (k := 8) rfl (iZ_add _ _) (by decide) rfl (fun ls hl => ?_)
                  refine lv_goto (tgt := 35) hx hb dM_multiplyRows_115 (by decide) ?_
                  rw [show (↑j + 1 : Int) = ↑(j + 1) from by omega] at hl
                  exact ihL35 (j + 1) (z / 65536) (mup w 6 (i + j) (z % 65536)) _ _ _ (by omega) (by omega) (by rw [mup_at]; exact mulstep hI hz) (fun q hq => by rw [mup_at, va_up_ne _ _ (by omega)]; exact hu q (by omega)) (by omega) fr hZ hS (lv_sub hl [2, 3, 4, 5, 6, 7, 8, 1, 0] rfl)
        exact L35 _ 0 0 w _ _ _ (Nat.lt_succ_self _) (Nat.zero_le _) (by rw [hd0]; show _ + 0 * _ = _ + _ * 0; omega) (fun q _ => by rw [hd0]) (Nat.zero_le _) fr hZ hS (lv_sub hl [2, 3, 4, 5, 6, 7, 8, 1, 0] rfl)
  exact L22 _ 0 w _ _ _ (Nat.lt_succ_self _) (Nat.zero_le _) (by rw [hP0, show rv (w0 ka) 0 = 0 from rfl, Nat.zero_mul]) fr hZ hS (lv_sub hl [3, 4, 5, 6, 2, 1, 0] rfl)

/-- register i of the reference holds x -/
def mreg (w : Nat → Nat → Nat) (i : Nat) (x : Int) : Prop := rv (fun j => w 2 (128 * i + j)) 128 = x.natAbs ∧ w 3 i = bN (decide (x < 0))
def MR (w : Nat → Nat → Nat) (rg : Nat → Int) : Prop := ∀ i, i < 10 → mreg w i (rg i)
theorem MR_same {w w' : Nat → Nat → Nat} {rg : Nat → Int} (h2 : w' 2 = w 2) (h3 : w' 3 = w 3) (h : MR w rg) : MR w' rg := fun i hi => by
  have := h i hi
  unfold mreg at *
  rw [h2, h3]
  exact this
theorem MR_up {w w' : Nat → Nat → Nat} {rg : Nat → Int} {to X : Nat} {b : Bool} {d : Nat → Nat} (hto : to < 10) (hX : rv d 264 = X) (hd : ∀ i, 128 ≤ i → i < 264 → d i = 0) (h2 : ∀ i, i < 1280 → w' 2 i = if 128 * to ≤ i ∧ i < 128 * to + 128 then d (i - 128 * to) else w 2 i) (h3 : w' 3 = va_up (w 3) to (bN (b && decide (X ≠ 0)))) (h : MR w rg) : MR w' (va_up rg to (if b = true then -((X : Nat) : Int) else ((X : Nat) : Int))) := by
  intro i hi
  by_cases h9 : i = to
  · subst h9
    rw [va_up_self]
    unfold mreg
    constructor
    · have e1 : rv (fun j => w' 2 (128 * i + j)) 128 = rv d 128 := rv_congr fun j hj => by
        show w' 2 (128 * i + j) = d j
        rw [h2 _ (by omega), if_pos (by omega), Nat.add_sub_cancel_left]
      rw [e1, ← rv_drop (n := 264) (by decide) hd, hX]
      split <;> omega
    · rw [h3, va_up_self]
      cases b
      · rw [if_neg (by decide), Bool.false_and, decide_eq_false (by omega)]
      · rw [if_pos rfl, Bool.true_and]
        congr 1
        rw [Bool.eq_iff_iff, decide_eq_true_iff, decide_eq_true_iff]
        omega
  · rw [va_up_ne _ _ h9]
    have := h i hi
    unfold mreg at *
    constructor
    · rw [← this.1]
      exact rv_congr fun j hj => by
        show w' 2 (128 * i + j) = w 2 (128 * i + j)
        rw [h2 _ (by omega), if_neg (by omega)]
    · rw [h3, va_up_ne _ _ h9]; exact this.2
def nzz (d : Nat → Nat) (i : Nat) : Prop := ∃ j, j < i ∧ d j ≠ 0
set_option maxHeartbeats 4000000 in
set_option maxRecDepth 100000 in
theorem mM_store (l : Launch) (E : zE) (B : Nat) (w0 : Nat → Nat → Nat) (q0 : zC) (to : Nat) (hto : to < 10) (rg : Nat → Int) (hMR : MR w0 rg) :
    Met l yM_store (zws yM_store cM_store 4 none) { frames := 1, cells := 0, slots := 0, locals := 24 } (zPc E (zMD E B w0 q0) [.ref (B), .int (iZ (↑to))]) (va_Qv (fun u : (Nat → Nat → Nat) × zC => (∀ j, j ≠ 2 → j ≠ 3 → u.1 j = w0 j) ∧ (rP 128 ≤ rv (w0 4) 264 → u = (w0, q0.2.1, q0.2)) ∧ (rv (w0 4) 264 < rP 128 → u.2 = q0 ∧ MR u.1 (va_up rg to (if q0.2.2.2.1 = true then -(((rv (w0 4) 264 : Nat) : Int)) else ((rv (w0 4) 264 : Nat) : Int))))) (fun u t => zMD E B u.1 u.2 t.heap ∧ zK E t) (zA B 15)) 0 0 (zA B 15) := by
  obtain ⟨th, fa, le, be, fb, sb9, pr⟩ := q0
  dsimp only
  refine zof_v (P' := fun (u : (Nat → Nat → Nat) × zC) H => zMD E B u.1 u.2 H) (by decide) (Nat.le_of_ble_eq_true rfl) fun p e R s m args below meth c Q ls hR hx hb hml ht hown hK hZ hl hend => ?_
  have hS : va_S (zA B 15) s.heap s.heap [] := va_S.rf
  have hown : s.vm.findClass "WholeDeskModel" = some m.cls := hown
  have hl : lv_has ls 4 [(0, .ref (B)), (1, .int (iZ (↑to)))] := hl
  have fr : ∀ jx, jx ≠ 2 → jx ≠ 3 → w0 jx = w0 jx := fun jx _ _ => rfl
  refine lv_aload_n hx hb dM_store_0 rfl (lv_at hl 0 rfl) ?_
  refine zm_row hx hb ht hown hK hZ tw_683 dM_store_1 ?_
  refine zcS_i (P' := fun (u : (Nat → Nat → Nat) × zC) H => zMD E B u.1 u.2 H) 1 (As := [.ref (B + 4)]) (rest := []) ⟨hx, hb, hml, hown, ht⟩ (mM_size l E B w0 (th, fa, le, be, fb, sb9, pr) 4 (by decide) 264 rfl (by omega)) tw_774 tw_772 tw_773 tw_6 qM_size (by rw [hR]; decide) hZ hK hl.1 rfl rfl (Nat.le_of_ble_eq_true rfl) dM_store_4 ⟨Nat.zero_le _, Nat.zero_le _⟩ hS (fun r9 u H locs hp hZ _ hS => ?_)
  obtain ⟨hu9, n, hr1, hn1, hn2, hn3⟩ := hp
  subst hr1
  subst hu9
  dsimp only at hZ
  refine lv_sipush (v := iZ (128)) hx hb dM_store_7 (by decide) ?_
  refine zr_icmp_le (tgt := 22) hx hb (by unfold zi; omega) (by unfold zi; omega) dM_store_10 (by decide) (fun c_1 => ?_) (fun c_1 => ?_)
  · have hXn : rv (w0 4) 264 = rv (w0 4) n := rv_drop hn1 hn2
    have hsm : rv (w0 4) 264 < rP 128 := by rw [hXn]; exact Nat.lt_of_lt_of_le (rv_lt (hZ.2 4) n) (rP_mono (by omega))
    have hd4 : ∀ i, 128 ≤ i → i < 264 → w0 4 i = 0 := fun i h1 h2 => hn2 i (by omega) h2
    refine lv_iconst (v := iZ (0)) hx hb dM_store_22 (by decide) ?_
    refine lv_istore_n (lv' := [(2, .int (iZ (0))), (0, .ref (B)), (1, .int (iZ (↑to)))]) hx hb dM_store_23 rfl hl (by decide) rfl (fun ls hl => ?_)
    refine lv_iconst (v := iZ (0)) hx hb dM_store_24 (by decide) ?_
    refine lv_istore_n (lv' := [(3, .int (iZ (0))), (2, .int (iZ (0))), (0, .ref (B)), (1, .int (iZ (↑to)))]) hx hb dM_store_25 rfl hl (by decide) rfl (fun ls hl => ?_)
    have L26 : ∀ (fu : Nat) (i : Nat) (b : Bool) (w : Nat → Nat → Nat) (H : Heap) (locs : List Loc) (ls : Array Slot), 128 - i < fu → (i ≤ 128) → (∀ q, q < 1280 → w 2 q = if 128 * to ≤ q ∧ q < 128 * to + i then w0 4 (q - 128 * to) else w0 2 q) → (w 3 = w0 3) → (b = true ↔ nzz (w0 4) i) → (∀ jx, jx ≠ 2 → jx ≠ 3 → w jx = w0 jx) → zMD E B w (th, fa, le, be, fb, sb9, pr) H → va_S (zA B 15) s.heap H locs → lv_has ls 4 [(0, .ref (B)), (1, .int (iZ (↑to))), (2, .int (iZ (bZ b))), (3, .int (iZ (↑i)))] → W p l e R s m args below meth c H locs 0 0 Q (F0 m 26 ls []) := by
      intro fu
      induction fu with
      | zero => intro i b w H locs ls hm; exact absurd hm (Nat.not_lt_zero _)
      | succ fu ihL26 =>
        intro i b w H locs ls hm hi h2 h33 hb9 fr hZ hS hl
        refine lv_iload_n hx hb dM_store_26 rfl (lv_at hl 3 rfl) ?_
        refine lv_sipush (v := iZ (128)) hx hb dM_store_27 (by decide) ?_
        refine zr_icmp_ge (tgt := 76) hx hb (by unfold zi; omega) (by unfold zi; omega) dM_store_30 (by decide) (fun c_2 => ?_) (fun c_2 => ?_)
        · have hi9 : i = 128 := by omega
          rw [hi9] at h2 hb9
          have hbX : b = decide (rv (w0 4) 264 ≠ 0) := by
            rw [Bool.eq_iff_iff, hb9, decide_eq_true_iff]
            constructor
            · rintro ⟨j, h1, h3⟩ h9
              apply h3
              rw [← rv_digit (d := w0 4) (fun q => by have := hZ.2 4 q; rw [fr 4 (by decide) (by decide)] at this; exact this) (show j < 264 by omega), h9, Nat.zero_div]
            · intro h9
              rcases Classical.em (nzz (w0 4) 128) with h8 | h8
              · exact h8
              · exfalso
                apply h9
                rw [rv_drop (m := 0) (Nat.zero_le _) (fun q _ hq => by rcases Nat.lt_or_ge q 128 with h7 | h7; exact Classical.byContradiction (fun h6 => h8 ⟨q, h7, h6⟩); exact hd4 q h7 hq)]
                rfl
          refine lv_aload_n hx hb dM_store_76 rfl (lv_at hl 0 rfl) ?_
          refine zm_minus hx hb ht hown hK hZ tw_682 dM_store_77 ?_
          refine lv_iload_n hx hb dM_store_80 rfl (lv_at hl 1 rfl) ?_
          refine lv_aload_n hx hb dM_store_81 rfl (lv_at hl 0 rfl) ?_
          refine zm_below hx hb ht hown hK hZ tw_684 dM_store_82 ?_
          refine zc_i (y := iZ (bZ be)) rfl ?_
          refine zr_if_eq (tgt := 96) hx hb (by have := bZ_01 be; omega) dM_store_85 (by decide) (fun c_3 => ?_) (fun c_3 => ?_)
          · refine lv_iconst (v := iZ (0)) hx hb dM_store_96 (by decide) ?_
            have hbv : false = (be && decide (rv (w0 4) 264 ≠ 0)) := by rw [show be = false from bZ_f.mp (by assumption), Bool.false_and]
            refine W.eq (g2 := F0 m 97 ls (.int (iZ (bZ false)) :: .int (iZ (↑to)) :: .ref (B + 3) :: [])) rfl ?_
            refine zm_stz (i := to) (x := false) hx hb hK hZ hS (by omega) dM_store_97 (fun H locs hZ hS => ?_)
            have fr : ∀ jx, jx ≠ 2 → jx ≠ 3 → (mup w 3 to (bN false)) jx = w0 jx := fun jx h0 h1 => (mup_ne _ _ _ h1).trans (fr jx h0 h1)
            exact hend 98 (mup w 3 to (bN false), (th, fa, le, be, fb, sb9, pr)) _ _ _ dM_store_98 (⟨fr, fun h9 => absurd hsm (Nat.not_lt.mpr h9), fun _ => ⟨rfl, MR_up (w' := mup w 3 to (bN false)) hto rfl hd4 (fun q hq => by rw [mup_ne _ _ _ (show 2 ≠ 3 by decide)]; exact h2 q hq) (by rw [mup_at, h33, hbv]) hMR⟩⟩) hZ hS
          · refine lv_iload_n hx hb dM_store_88 rfl (lv_at hl 2 rfl) ?_
            refine zr_if_eq (tgt := 96) hx hb (by have := bZ_01 b; omega) dM_store_89 (by decide) (fun c_4 => ?_) (fun c_4 => ?_)
            · refine lv_iconst (v := iZ (0)) hx hb dM_store_96 (by decide) ?_
              have hbv : false = (be && decide (rv (w0 4) 264 ≠ 0)) := by rw [← hbX, show b = false from bZ_f.mp (by assumption), Bool.and_false]
              refine W.eq (g2 := F0 m 97 ls (.int (iZ (bZ false)) :: .int (iZ (↑to)) :: .ref (B + 3) :: [])) rfl ?_
              refine zm_stz (i := to) (x := false) hx hb hK hZ hS (by omega) dM_store_97 (fun H locs hZ hS => ?_)
              have fr : ∀ jx, jx ≠ 2 → jx ≠ 3 → (mup w 3 to (bN false)) jx = w0 jx := fun jx h0 h1 => (mup_ne _ _ _ h1).trans (fr jx h0 h1)
              exact hend 98 (mup w 3 to (bN false), (th, fa, le, be, fb, sb9, pr)) _ _ _ dM_store_98 (⟨fr, fun h9 => absurd hsm (Nat.not_lt.mpr h9), fun _ => ⟨rfl, MR_up (w' := mup w 3 to (bN false)) hto rfl hd4 (fun q hq => by rw [mup_ne _ _ _ (show 2 ≠ 3 by decide)]; exact h2 q hq) (by rw [mup_at, h33, hbv]) hMR⟩⟩) hZ hS
            · refine lv_iconst (v := iZ (1)) hx hb dM_store_92 (by decide) ?_
              refine lv_goto (tgt := 97) hx hb dM_store_93 (by decide) ?_
              have hbv : true = (be && decide (rv (w0 4) 264 ≠ 0)) := by rw [← hbX, show be = true from bZ_nf.mp (by assumption), show b = true from bZ_nf.mp (by assumption)]; rfl
              refine W.eq (g2 := F0 m 97 ls (.int (iZ (bZ true)) :: .int (iZ (↑to)) :: .ref (B + 3) :: [])) rfl ?_
              refine zm_stz (i := to) (x := true) hx hb hK hZ hS (by omega) dM_store_97 (fun H locs hZ hS => ?_)
              have fr : ∀ jx, jx ≠ 2 → jx ≠ 3 → (mup w 3 to (bN true)) jx = w0 jx := fun jx h0 h1 => (mup_ne _ _ _ h1).trans (fr jx h0 h1)
              exact hend 98 (mup w 3 to (bN true), (th, fa, le, be, fb, sb9, pr)) _ _ _ dM_store_98 (⟨fr, fun h9 => absurd hsm (Nat.not_lt.mpr h9), fun _ => ⟨rfl, MR_up (w' := mup w 3 to (bN true)) hto rfl hd4 (fun q hq => by rw [mup_ne _ _ _ (show 2 ≠ 3 by decide)]; exact h2 q hq) (by rw [mup_at, h33, hbv]) hMR⟩⟩) hZ hS
        · refine lv_aload_n hx hb dM_store_33 rfl (lv_at hl 0 rfl) ?_
          refine zm_kept hx hb ht hown hK hZ tw_681 dM_store_34 ?_
          refine lv_sipush (v := iZ (128)) hx hb dM_store_37 (by decide) ?_
          refine lv_iload_n hx hb dM_store_40 rfl (lv_at hl 1 rfl) ?_
          refine zr_imul hx hb dM_store_41 ?_
          refine lv_iload_n hx hb dM_store_42 rfl (lv_at hl 3 rfl) ?_
          refine zr_iadd hx hb dM_store_43 ?_
          refine lv_aload_n hx hb dM_store_44 rfl (lv_at hl 0 rfl) ?_
          refine zm_row hx hb ht hown hK hZ tw_683 dM_store_45 ?_
          refine lv_iload_n hx hb dM_store_48 rfl (lv_at hl 3 rfl) ?_
          refine zm_ld (k := 4) (i := i) hx hb hK hZ (by decide) (by show i < 264; omega) dM_store_49 ?_
          have h44 : w 4 i = w0 4 i := by rw [fr 4 (by decide) (by decide)]
          rw [show ((128 * ↑to) + ↑i : Int) = ((128 * to + i : Nat) : Int) by omega]
          refine zm_st (k := 2) (i := 128 * to + i) (x := w 4 i) hx hb hK hZ hS (by decide) (by show 128 * to + i < 1280; omega) (hZ.2 _ _) dM_store_50 (fun H locs hZ hS => ?_)
          have fr : ∀ jx, jx ≠ 2 → jx ≠ 3 → (mup w 2 (128 * to + i) (w 4 i)) jx = w0 jx := fun jx h0 h1 => (mup_ne _ _ _ h0).trans (fr jx h0 h1)
          refine lv_iload_n hx hb dM_store_51 rfl (lv_at hl 2 rfl) ?_
          refine zr_if_ne (tgt := 64) hx hb (by have := bZ_01 b; omega) dM_store_52 (by decide) (fun c_5 => ?_) (fun c_5 => ?_)
          · have hbt : b = true := bZ_nf.mp (by assumption)
            refine lv_iconst (v := iZ (1)) hx hb dM_store_64 (by decide) ?_
            refine lv_goto (tgt := 69) hx hb dM_store_65 (by decide) ?_
            refine lv_istore_n (lv' := [(2, .int (iZ (1))), (0, .ref (B)), (1, .int (iZ (↑to))), (3, .int (iZ (↑i)))]) hx hb dM_store_69 rfl hl (by decide) rfl (fun ls hl => ?_)
            refine lv_iinc (v := iZ (↑i + 1)) (lv' := [(3, .int (iZ (↑i + 1))), (2, .int (iZ (1))), (0, .ref (B)), (1, .int (iZ (↑to)))]) hx hb dM_store_70 hl (k := 3) rfl (iZ_add _ _) (by decide) rfl (fun ls hl => ?_)
            refine lv_goto (tgt := 26) hx hb dM_store_73 (by decide) ?_
            rw [show (↑i + 1 : Int) = ↑(i + 1) from by omega] at hl
            rw [show (1 : Int) = bZ true from rfl] at hl
            exact ihL26 (i + 1) true (mup w 2 (128 * to + i) (w 4 i)) _ _ _ (by omega) (by omega) (fun q hq => by rw [mup_at]; by_cases h9 : q = 128 * to + i; rw [h9, va_up_self, if_pos (by omega), h44, Nat.add_sub_cancel_left]; rw [va_up_ne _ _ h9, h2 q hq]; by_cases h8 : 128 * to ≤ q ∧ q < 128 * to + i; rw [if_pos h8, if_pos (by omega)]; rw [if_neg h8, if_neg (by omega)]) (by rw [mup_ne _ _ _ (by decide)]; exact h33) (⟨fun _ => by obtain ⟨j, h1, h2⟩ := hb9.mp hbt; exact ⟨j, by omega, h2⟩, fun _ => rfl⟩) fr hZ hS (lv_sub hl [2, 3, 1, 0] rfl)
          · have hbf : b = false := bZ_f.mp (by omega)
            refine lv_aload_n hx hb dM_store_55 rfl (lv_at hl 0 rfl) ?_
            refine zm_row hx hb ht hown hK hZ tw_683 dM_store_56 ?_
            refine lv_iload_n hx hb dM_store_59 rfl (lv_at hl 3 rfl) ?_
            refine zm_ld (k := 4) (i := i) hx hb hK hZ (by decide) (by show i < 264; omega) dM_store_60 ?_
            rw [fr 4 (by decide) (by decide)]
            have hl4 := hZ.2 4 i
            rw [fr 4 (by decide) (by decide)] at hl4
            refine zr_if_eq (tgt := 68) hx hb (by unfold zi; omega) dM_store_61 (by decide) (fun c_6 => ?_) (fun c_6 => ?_)
            · refine lv_iconst (v := iZ (0)) hx hb dM_store_68 (by decide) ?_
              refine lv_istore_n (lv' := [(2, .int (iZ (0))), (0, .ref (B)), (1, .int (iZ (↑to))), (3, .int (iZ (↑i)))]) hx hb dM_store_69 rfl hl (by decide) rfl (fun ls hl => ?_)
              refine lv_iinc (v := iZ (↑i + 1)) (lv' := [(3, .int (iZ (↑i + 1))), (2, .int (iZ (0))), (0, .ref (B)), (1, .int (iZ (↑to)))]) hx hb dM_store_70 hl (k := 3) rfl (iZ_add _ _) (by decide) rfl (fun ls hl => ?_)
              refine lv_goto (tgt := 26) hx hb dM_store_73 (by decide) ?_
              rw [show (↑i + 1 : Int) = ↑(i + 1) from by omega] at hl
              rw [show (0 : Int) = bZ false from rfl] at hl
              exact ihL26 (i + 1) false (mup w 2 (128 * to + i) (w 4 i)) _ _ _ (by omega) (by omega) (fun q hq => by rw [mup_at]; by_cases h9 : q = 128 * to + i; rw [h9, va_up_self, if_pos (by omega), h44, Nat.add_sub_cancel_left]; rw [va_up_ne _ _ h9, h2 q hq]; by_cases h8 : 128 * to ≤ q ∧ q < 128 * to + i; rw [if_pos h8, if_pos (by omega)]; rw [if_neg h8, if_neg (by omega)]) (by rw [mup_ne _ _ _ (by decide)]; exact h33) (⟨fun h9 => absurd h9 (by decide), fun ⟨j, h1, h2⟩ => by by_cases h9 : j = i; rw [h9] at h2; omega; exact absurd (hb9.mpr ⟨j, by omega, h2⟩) (by rw [hbf]; decide)⟩) fr hZ hS (lv_sub hl [2, 3, 1, 0] rfl)
            · refine lv_iconst (v := iZ (1)) hx hb dM_store_64 (by decide) ?_
              refine lv_goto (tgt := 69) hx hb dM_store_65 (by decide) ?_
              refine lv_istore_n (lv' := [(2, .int (iZ (1))), (0, .ref (B)), (1, .int (iZ (↑to))), (3, .int (iZ (↑i)))]) hx hb dM_store_69 rfl hl (by decide) rfl (fun ls hl => ?_)
              refine lv_iinc (v := iZ (↑i + 1)) (lv' := [(3, .int (iZ (↑i + 1))), (2, .int (iZ (1))), (0, .ref (B)), (1, .int (iZ (↑to)))]) hx hb dM_store_70 hl (k := 3) rfl (iZ_add _ _) (by decide) rfl (fun ls hl => ?_)
              refine lv_goto (tgt := 26) hx hb dM_store_73 (by decide) ?_
              rw [show (↑i + 1 : Int) = ↑(i + 1) from by omega] at hl
              rw [show (1 : Int) = bZ true from rfl] at hl
              exact ihL26 (i + 1) true (mup w 2 (128 * to + i) (w 4 i)) _ _ _ (by omega) (by omega) (fun q hq => by rw [mup_at]; by_cases h9 : q = 128 * to + i; rw [h9, va_up_self, if_pos (by omega), h44, Nat.add_sub_cancel_left]; rw [va_up_ne _ _ h9, h2 q hq]; by_cases h8 : 128 * to ≤ q ∧ q < 128 * to + i; rw [if_pos h8, if_pos (by omega)]; rw [if_neg h8, if_neg (by omega)]) (by rw [mup_ne _ _ _ (by decide)]; exact h33) (⟨fun _ => ⟨i, by omega, by omega⟩, fun _ => rfl⟩) fr hZ hS (lv_sub hl [2, 3, 1, 0] rfl)
    exact L26 _ 0 false w0 _ _ _ (Nat.lt_succ_self _) (Nat.zero_le _) (fun q _ => by rw [if_neg (by omega)]) (rfl) (⟨fun h9 => absurd h9 (by decide), fun ⟨j, hj, _⟩ => absurd hj (Nat.not_lt_zero _)⟩) fr hZ hS (lv_sub hl [2, 3, 1, 0] rfl)
  · have hbig : rP 128 ≤ rv (w0 4) 264 := by have h9 := rv_ge (hn3 (by omega)); rw [show n - 1 + 1 = n by omega] at h9; have h8 := rv_mono (d := w0 4) hn1; have h7 := rP_mono (show 128 ≤ n - 1 by omega); omega
    refine lv_aload_n hx hb dM_store_13 rfl (lv_at hl 0 rfl) ?_
    refine lv_aload_n hx hb dM_store_14 rfl (lv_at hl 0 rfl) ?_
    refine zm_fault hx hb ht hown hK hZ tw_678 dM_store_15 ?_
    refine zc_i (y := iZ (↑fa)) rfl ?_
    refine zm_put_thrown (x := fa) hx hb ht hown hK hZ hS tw_677 dM_store_18 (fun H locs hZ hS => ?_)
    have hZ : zMD E B w0 (fa, fa, le, be, fb, sb9, pr) H := hZ
    exact hend 21 (w0, (fa, fa, le, be, fb, sb9, pr)) _ _ _ dM_store_21 (⟨fr, fun _ => rfl, fun h9 => absurd h9 (Nat.not_lt.mpr hbig)⟩) hZ hS
