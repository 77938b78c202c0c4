theorem jstep {u u' w : Nat → Nat} {f c z : Int} {i : Nat} (hI : (rv u' i : Int) + c * rP i = rv u i + f * rv w i) (hz : z = u i + f * w i + c) :
    (rv (va_up u' i (z % 65536).toNat) (i + 1) : Int) + z / 65536 * rP (i + 1) = rv u (i + 1) + f * rv w (i + 1) := by
  have h := rmix_step (u := u) (u' := u') (w := w) (f := f) (c := c) (z := z) (p := 0) (i := i) (by rw [Nat.zero_add, rP_0]; rw [show f * ((1 : Nat) : Int) = f by omega]; exact hI) (by rw [Nat.zero_add]; exact hz)
  rw [Nat.zero_add, Nat.zero_add, rP_0, show f * ((1 : Nat) : Int) = f by omega] at h
  exact h
theorem rv_tail {d e : Nat → Nat} {k n : Nat} (hk : k ≤ n) (h : ∀ j, k ≤ j → j < n → d j = e j) : (rv d n : Int) - rv e n = rv d k - rv e k := by
  obtain ⟨r, rfl⟩ : ∃ r, n = k + r := ⟨n - k, by omega⟩
  rw [rv_split, rv_split, rv_congr (d := fun i => d (k + i)) (e := fun i => e (k + i)) (fun i hi => h _ (by omega) (by omega))]
  omega
theorem join_end {a a' b : Nat → Nat} {f cr : Int} {k n : Nat} (hk : k ≤ n) (hI : (rv a' k : Int) + cr * rP k = rv a k + f * rv b k) (hu : ∀ j, k ≤ j → a' j = a j) (ha' : ∀ j, a' j < 65536) (hY0 : 0 ≤ (rv a n : Int) + f * rv b n) (hY1 : (rv a n : Int) + f * rv b n < rP n) (he : k = n ∨ (cr = 0 ∧ ∀ j, k ≤ j → j < n → b j = 0)) : (rv a' n : Int) = rv a n + f * rv b n := by
  rcases he with h | ⟨h, hb⟩
  · subst h
    exact (rno_carry hI (Int.natCast_nonneg _) (by have := rv_lt ha' k; omega) hY0 hY1).2
  · rw [h, Int.zero_mul, Int.add_zero] at hI
    have h1 := rv_tail (d := a') (e := a) hk (fun j h1 _ => hu j h1)
    rw [rv_drop hk hb]
    omega
set_option maxHeartbeats 4000000 in
set_option maxRecDepth 100000 in
theorem mM_join (l : Launch) (E : zE) (B : Nat) (w0 : Nat → Nat → Nat) (q0 : zC) (ka : Nat) (hk_ka : 4 ≤ ka ∧ ka ≤ 13) (kb : Nat) (hk_kb : 4 ≤ kb ∧ kb ≤ 13) (hln_ka : mln ka = 264) (hln_kb : mln kb = 264) (hne : kb ≠ ka) (sz : Nat) (hsz : sz ≤ 264) (sm : Nat) (hsm : sm ≤ 4294967296) (aw : Bool) (hzb : ∀ i, sz ≤ i → i < 264 → w0 kb i = 0) (hY0 : 0 ≤ (rv (w0 ka) 264 : Int) + (if aw = true then -((sm : Nat) : Int) else ((sm : Nat) : Int)) * rv (w0 kb) 264) (hY1 : (rv (w0 ka) 264 : Int) + (if aw = true then -((sm : Nat) : Int) else ((sm : Nat) : Int)) * rv (w0 kb) 264 < rP 264) :
    Met l yM_join (zws yM_join cM_join 11 none) { frames := 0, cells := 0, slots := 0, locals := 0 } (zPc E (zMD E B w0 q0) [.ref (B + ka), .ref (B + kb), .int (iZ (↑sz)), .long (lZ (↑sm)), .int (iZ (bZ aw))]) (va_Qv (fun u : (Nat → Nat → Nat) × zC => (∀ j, j ≠ ka → u.1 j = w0 j) ∧ u.2 = q0 ∧ (rv (u.1 ka) 264 : Int) = (rv (w0 ka) 264 : Int) + (if aw = true then -((sm : Nat) : Int) else ((sm : Nat) : Int)) * rv (w0 kb) 264) (fun u t => zMD E B u.1 u.2 t.heap ∧ zK E t) (zA B 15)) 0 0 (zA B 15) := by
  refine zof_v (P' := fun (u : (Nat → Nat → Nat) × zC) H => zMD E B u.1 u.2 H) (by decide) (Nat.le_of_ble_eq_true rfl) fun p e R s m args below meth c Q ls hR hx hb hml ht hown hK hZ hl hend => ?_
  have hS : va_S (zA B 15) s.heap s.heap [] := va_S.rf
  have hown : s.vm.findClass "WholeDeskModel" = some m.cls := hown
  have hl : lv_has ls 11 [(0, .ref (B + ka)), (1, .ref (B + kb)), (2, .int (iZ (↑sz))), (3, .long (lZ (↑sm))), (5, .int (iZ (bZ aw)))] := hl
  obtain ⟨f, hf⟩ : ∃ f, f = (if aw = true then -((sm : Nat) : Int) else ((sm : Nat) : Int)) := ⟨_, rfl⟩
  rw [← hf] at hY0 hY1 hend
  have fr : ∀ jx, jx ≠ ka → w0 jx = w0 jx := fun jx _ => rfl
  refine lv_lconst (v := lZ (0)) hx hb dM_join_0 (by decide) ?_
  refine lv_lstore (lv' := [(6, .long (lZ (0))), (0, .ref (B + ka)), (1, .ref (B + kb)), (2, .int (iZ (↑sz))), (3, .long (lZ (↑sm))), (5, .int (iZ (bZ aw)))]) hx hb dM_join_1 hl (by decide) rfl (fun ls hl => ?_)
  refine lv_iconst (v := iZ (0)) hx hb dM_join_3 (by decide) ?_
  refine lv_istore (lv' := [(8, .int (iZ (0))), (6, .long (lZ (0))), (0, .ref (B + ka)), (1, .ref (B + kb)), (2, .int (iZ (↑sz))), (3, .long (lZ (↑sm))), (5, .int (iZ (bZ aw)))]) hx hb dM_join_4 hl (by decide) rfl (fun ls hl => ?_)
  have L6 : ∀ (fu : Nat) (k : Nat) (cr : Int) (w : Nat → Nat → Nat) (H : Heap) (locs : List Loc) (ls : Array Slot), 264 - k < fu → (k ≤ 264) → ((rv (w ka) k : Int) + cr * rP k = rv (w0 ka) k + f * rv (w0 kb) k) → (∀ j, k ≤ j → w ka j = w0 ka j) → (-4294967296 ≤ cr ∧ cr ≤ 4294967296) → (∀ jx, jx ≠ ka → w jx = w0 jx) → zMD E B w q0 H → va_S (zA B 15) s.heap H locs → lv_has ls 11 [(0, .ref (B + ka)), (1, .ref (B + kb)), (2, .int (iZ (↑sz))), (3, .long (lZ (↑sm))), (5, .int (iZ (bZ aw))), (6, .long (lZ (cr))), (8, .int (iZ (↑k)))] → W p l e R s m args below meth c H locs 0 0 Q (F0 m 6 ls []) := by
    intro fu
    induction fu with
    | zero => intro k cr w H locs ls hm; exact absurd hm (Nat.not_lt_zero _)
    | succ fu ihL6 =>
      intro k cr w H locs ls hm hk hI hu hcr fr hZ hS hl
      refine lv_iload hx hb dM_join_6 (lv_at hl 6 rfl) ?_
      refine lv_aload_n hx hb dM_join_8 rfl (lv_at hl 0 rfl) ?_
      refine zm_len (k := ka) hx hb hK hZ (by omega) dM_join_9 ?_
      rw [show mln ka = 264 from hln_ka]
      refine zr_icmp_ge (tgt := 93) hx hb (by unfold zi; omega) (by unfold zi; omega) dM_join_10 (by decide) (fun c_1 => ?_) (fun c_1 => ?_)
      · have hfin := join_end (n := 264) hk hI hu (hZ.2 ka) hY0 hY1 (Or.inl (by omega))
        exact hend 93 (w, q0) _ _ _ dM_join_93 (⟨fr, rfl, hfin⟩) hZ hS
      · refine lv_iload hx hb dM_join_13 (lv_at hl 6 rfl) ?_
        refine lv_iload_n hx hb dM_join_15 rfl (lv_at hl 2 rfl) ?_
        refine zr_icmp_lt (tgt := 26) hx hb (by unfold zi; omega) (by unfold zi; omega) dM_join_16 (by decide) (fun c_2 => ?_) (fun c_2 => ?_)
        · refine lv_iload hx hb dM_join_26 (lv_at hl 6 rfl) ?_
          refine lv_iload_n hx hb dM_join_28 rfl (lv_at hl 2 rfl) ?_
          refine zr_icmp_ge (tgt := 42) hx hb (by unfold zi; omega) (by unfold zi; omega) dM_join_29 (by decide) (fun c_3 => ?_) (fun c_3 => ?_)
          · have hkb0 : w0 kb k = 0 := hzb k (by omega) (by omega)
            have hp1 : w0 kb k * sm ≤ 65535 * 4294967296 := by rw [hkb0, Nat.zero_mul]; exact Nat.zero_le _
            refine lv_lconst (v := lZ (0)) hx hb dM_join_42 (by decide) ?_
            refine zc_l (y := lZ ((w0 kb k * sm : Nat) : Int)) (congrArg lZ (by rw [hkb0, Nat.zero_mul]; rfl)) ?_
            refine lv_lstore (lv' := [(9, .long (lZ (((w0 kb k * sm : Nat) : Int)))), (0, .ref (B + ka)), (1, .ref (B + kb)), (2, .int (iZ (↑sz))), (3, .long (lZ (↑sm))), (5, .int (iZ (bZ aw))), (6, .long (lZ (cr))), (8, .int (iZ (↑k)))]) hx hb dM_join_43 hl (by decide) rfl (fun ls hl => ?_)
            refine lv_lload hx hb dM_join_45 (lv_at hl 6 rfl) ?_
            refine lv_aload_n hx hb dM_join_47 rfl (lv_at hl 1 rfl) ?_
            refine lv_iload hx hb dM_join_48 (lv_at hl 7 rfl) ?_
            refine zm_ld (k := ka) (i := k) hx hb hK hZ (by omega) (by omega) dM_join_50 ?_
            have hla := hZ.2 ka k
            refine zr_i2l hx hb (by unfold zi; omega) dM_join_51 ?_
            rw [hu k (Nat.le_refl k)] at hla ⊢
            refine zr_ladd hx hb dM_join_52 ?_
            refine lv_iload hx hb dM_join_53 (lv_at hl 5 rfl) ?_
            refine zr_if_eq (tgt := 64) hx hb (by have := bZ_01 aw; omega) dM_join_55 (by decide) (fun c_4 => ?_) (fun c_4 => ?_)
            · have hft : f = ((sm : Nat) : Int) := by rw [hf, if_neg (by rw [show aw = false from bZ_f.mp (by assumption)]; decide)]
              refine lv_lload hx hb dM_join_64 (lv_at hl 0 rfl) ?_
              refine zr_ladd hx hb dM_join_66 ?_
              obtain ⟨z, hz⟩ : ∃ z : Int, z = (w0 ka k : Int) + f * (w0 kb k : Int) + cr := ⟨_, rfl⟩
              have hz2 : z = (w0 ka k : Int) + ((w0 kb k * sm : Nat) : Int) + cr := by rw [hz, hft, Int.natCast_mul, Int.mul_comm (sm : Int)]
              refine zc_l (y := lZ z) (congrArg lZ (by rw [hz2]; omega)) ?_
              refine lv_lstore (lv' := [(6, .long (lZ (z))), (9, .long (lZ (((w0 kb k * sm : Nat) : Int)))), (0, .ref (B + ka)), (1, .ref (B + kb)), (2, .int (iZ (↑sz))), (3, .long (lZ (↑sm))), (5, .int (iZ (bZ aw))), (8, .int (iZ (↑k)))]) hx hb dM_join_67 hl (by decide) rfl (fun ls hl => ?_)
              refine lv_aload_n hx hb dM_join_69 rfl (lv_at hl 2 rfl) ?_
              refine lv_iload hx hb dM_join_70 (lv_at hl 7 rfl) ?_
              refine lv_lload hx hb dM_join_72 (lv_at hl 0 rfl) ?_
              refine lv_ldc2 (v := lZ (65535)) hx hb hown (ht _ tw_775) dM_join_74 ?_
              refine zr_mask (n := 16) (P := 65536) hx hb (Nat.le_of_ble_eq_true rfl) p2_16 m2_16 dM_join_77 ?_
              refine zr_l2i hx hb dM_join_78 ?_
              rw [show (z % 65536 : Int) = (((z % 65536).toNat : Nat) : Int) from by omega]
              refine zm_st (k := ka) (i := k) (x := (z % 65536).toNat) hx hb hK hZ hS (by omega) (by omega) (by omega) dM_join_79 (fun H locs hZ hS => ?_)
              have fr : ∀ jx, jx ≠ ka → (mup w ka k ((z % 65536).toNat)) jx = w0 jx := fun jx h0 => (mup_ne _ _ _ h0).trans (fr jx h0)
              refine lv_lload hx hb dM_join_80 (lv_at hl 0 rfl) ?_
              refine lv_bipush (v := iZ (16)) hx hb dM_join_82 (by decide) ?_
              refine zr_lshr (n := 16) (P := 65536) hx hb (by unfold zl; omega) (Nat.le_of_ble_eq_true rfl) (p2_16) dM_join_84 ?_
              refine lv_lstore (lv' := [(6, .long (lZ (z / 65536))), (9, .long (lZ (((w0 kb k * sm : Nat) : Int)))), (0, .ref (B + ka)), (1, .ref (B + kb)), (2, .int (iZ (↑sz))), (3, .long (lZ (↑sm))), (5, .int (iZ (bZ aw))), (8, .int (iZ (↑k)))]) hx hb dM_join_85 hl (by decide) rfl (fun ls hl => ?_)
              refine lv_iinc (v := iZ (↑k + 1)) (lv' := [(8, .int (iZ (↑k + 1))), (6, .long (lZ (z / 65536))), (9, .long (lZ (((w0 kb k * sm : Nat) : Int)))), (0, .ref (B + ka)), (1, .ref (B + kb)), (2, .int (iZ (↑sz))), (3, .long (lZ (↑sm))), (5, .int (iZ (bZ aw)))]) hx hb dM_join_87 hl (k := 7) rfl (iZ_add _ _) (by decide) rfl (fun ls hl => ?_)
              refine lv_goto (tgt := 6) hx hb dM_join_90 (by decide) ?_
              rw [show (↑k + 1 : Int) = ↑(k + 1) from by omega] at hl
              exact ihL6 (k + 1) (z / 65536) (mup w ka k ((z % 65536).toNat)) _ _ _ (by omega) (by omega) (by rw [mup_at]; exact jstep hI hz) (fun j hj => by rw [mup_at, va_up_ne _ _ (by omega)]; exact hu j (by omega)) (by omega) fr hZ hS (lv_sub hl [3, 4, 5, 6, 7, 1, 0] rfl)
            · have hft : f = -((sm : Nat) : Int) := by rw [hf, if_pos (bZ_nf.mp (by assumption))]
              refine lv_lload hx hb dM_join_58 (lv_at hl 0 rfl) ?_
              refine zr_lneg hx hb dM_join_60 ?_
              refine lv_goto (tgt := 66) hx hb dM_join_61 (by decide) ?_
              refine zr_ladd hx hb dM_join_66 ?_
              obtain ⟨z, hz⟩ : ∃ z : Int, z = (w0 ka k : Int) + f * (w0 kb k : Int) + cr := ⟨_, rfl⟩
              have hz2 : z = (w0 ka k : Int) - ((w0 kb k * sm : Nat) : Int) + cr := by rw [hz, hft, Int.natCast_mul, Int.neg_mul, Int.mul_comm (sm : Int)]; omega
              refine zc_l (y := lZ z) (congrArg lZ (by rw [hz2]; omega)) ?_
              refine lv_lstore (lv' := [(6, .long (lZ (z))), (9, .long (lZ (((w0 kb k * sm : Nat) : Int)))), (0, .ref (B + ka)), (1, .ref (B + kb)), (2, .int (iZ (↑sz))), (3, .long (lZ (↑sm))), (5, .int (iZ (bZ aw))), (8, .int (iZ (↑k)))]) hx hb dM_join_67 hl (by decide) rfl (fun ls hl => ?_)
              refine lv_aload_n hx hb dM_join_69 rfl (lv_at hl 2 rfl) ?_
              refine lv_iload hx hb dM_join_70 (lv_at hl 7 rfl) ?_
              refine lv_lload hx hb dM_join_72 (lv_at hl 0 rfl) ?_
              refine lv_ldc2 (v := lZ (65535)) hx hb hown (ht _ tw_775) dM_join_74 ?_
              refine zr_mask (n := 16) (P := 65536) hx hb (Nat.le_of_ble_eq_true rfl) p2_16 m2_16 dM_join_77 ?_
              refine zr_l2i hx hb dM_join_78 ?_
              rw [show (z % 65536 : Int) = (((z % 65536).toNat : Nat) : Int) from by omega]
              refine zm_st (k := ka) (i := k) (x := (z % 65536).toNat) hx hb hK hZ hS (by omega) (by omega) (by omega) dM_join_79 (fun H locs hZ hS => ?_)
              have fr : ∀ jx, jx ≠ ka → (mup w ka k ((z % 65536).toNat)) jx = w0 jx := fun jx h0 => (mup_ne _ _ _ h0).trans (fr jx h0)
              refine lv_lload hx hb dM_join_80 (lv_at hl 0 rfl) ?_
              refine lv_bipush (v := iZ (16)) hx hb dM_join_82 (by decide) ?_
              refine zr_lshr (n := 16) (P := 65536) hx hb (by unfold zl; omega) (Nat.le_of_ble_eq_true rfl) (p2_16) dM_join_84 ?_
              refine lv_lstore (lv' := [(6, .long (lZ (z / 65536))), (9, .long (lZ (((w0 kb k * sm : Nat) : Int)))), (0, .ref (B + ka)), (1, .ref (B + kb)), (2, .int (iZ (↑sz))), (3, .long (lZ (↑sm))), (5, .int (iZ (bZ aw))), (8, .int (iZ (↑k)))]) hx hb dM_join_85 hl (by decide) rfl (fun ls hl => ?_)
              refine lv_iinc (v := iZ (↑k + 1)) (lv' := [(8, .int (iZ (↑k + 1))), (6, .long (lZ (z / 65536))), (9, .long (lZ (((w0 kb k * sm : Nat) : Int)))), (0, .ref (B + ka)), (1, .ref (B + kb)), (2, .int (iZ (↑sz))), (3, .long (lZ (↑sm))), (5, .int (iZ (bZ aw)))]) hx hb dM_join_87 hl (k := 7) rfl (iZ_add _ _) (by decide) rfl (fun ls hl => ?_)
              refine lv_goto (tgt := 6) hx hb dM_join_90 (by decide) ?_
              rw [show (↑k + 1 : Int) = ↑(k + 1) from by omega] at hl
              exact ihL6 (k + 1) (z / 65536) (mup w ka k ((z % 65536).toNat)) _ _ _ (by omega) (by omega) (by rw [mup_at]; exact jstep hI hz) (fun j hj => by rw [mup_at, va_up_ne _ _ (by omega)]; exact hu j (by omega)) (by omega) fr hZ hS (lv_sub hl [3, 4, 5, 6, 7, 1, 0] rfl)
          · refine lv_aload_n hx hb dM_join_32 rfl (lv_at hl 1 rfl) ?_
            refine lv_iload hx hb dM_join_33 (lv_at hl 6 rfl) ?_
            refine zm_ld (k := kb) (i := k) hx hb hK hZ (by omega) (by omega) dM_join_35 ?_
            have hlb := hZ.2 kb k
            refine zr_i2l hx hb (by unfold zi; omega) dM_join_36 ?_
            refine lv_lload_n hx hb dM_join_37 rfl (lv_at hl 3 rfl) ?_
            refine zr_lmul hx hb dM_join_38 ?_
            have hkb : w kb k = w0 kb k := by rw [fr kb hne]
            have hp1 : w0 kb k * sm ≤ 65535 * 4294967296 := Nat.mul_le_mul (by rw [← hkb]; omega) hsm
            rw [hkb]
            refine zc_l (y := lZ ((w0 kb k * sm : Nat) : Int)) (congrArg lZ (by rw [Int.natCast_mul])) ?_
            refine lv_goto (tgt := 43) hx hb dM_join_39 (by decide) ?_
            refine lv_lstore (lv' := [(9, .long (lZ (((w0 kb k * sm : Nat) : Int)))), (0, .ref (B + ka)), (1, .ref (B + kb)), (2, .int (iZ (↑sz))), (3, .long (lZ (↑sm))), (5, .int (iZ (bZ aw))), (6, .long (lZ (cr))), (8, .int (iZ (↑k)))]) hx hb dM_join_43 hl (by decide) rfl (fun ls hl => ?_)
            refine lv_lload hx hb dM_join_45 (lv_at hl 6 rfl) ?_
            refine lv_aload_n hx hb dM_join_47 rfl (lv_at hl 1 rfl) ?_
            refine lv_iload hx hb dM_join_48 (lv_at hl 7 rfl) ?_
            refine zm_ld (k := ka) (i := k) hx hb hK hZ (by omega) (by omega) dM_join_50 ?_
            have hla := hZ.2 ka k
            refine zr_i2l hx hb (by unfold zi; omega) dM_join_51 ?_
            rw [hu k (Nat.le_refl k)] at hla ⊢
            refine zr_ladd hx hb dM_join_52 ?_
            refine lv_iload hx hb dM_join_53 (lv_at hl 5 rfl) ?_
            refine zr_if_eq (tgt := 64) hx hb (by have := bZ_01 aw; omega) dM_join_55 (by decide) (fun c_5 => ?_) (fun c_5 => ?_)
            · have hft : f = ((sm : Nat) : Int) := by rw [hf, if_neg (by rw [show aw = false from bZ_f.mp (by assumption)]; decide)]
              refine lv_lload hx hb dM_join_64 (lv_at hl 0 rfl) ?_
              refine zr_ladd hx hb dM_join_66 ?_
              obtain ⟨z, hz⟩ : ∃ z : Int, z = (w0 ka k : Int) + f * (w0 kb k : Int) + cr := ⟨_, rfl⟩
              have hz2 : z = (w0 ka k : Int) + ((w0 kb k * sm : Nat) : Int) + cr := by rw [hz, hft, Int.natCast_mul, Int.mul_comm (sm : Int)]
              refine zc_l (y := lZ z) (congrArg lZ (by rw [hz2]; omega)) ?_
              refine lv_lstore (lv' := [(6, .long (lZ (z))), (9, .long (lZ (((w0 kb k * sm : Nat) : Int)))), (0, .ref (B + ka)), (1, .ref (B + kb)), (2, .int (iZ (↑sz))), (3, .long (lZ (↑sm))), (5, .int (iZ (bZ aw))), (8, .int (iZ (↑k)))]) hx hb dM_join_67 hl (by decide) rfl (fun ls hl => ?_)
              refine lv_aload_n hx hb dM_join_69 rfl (lv_at hl 2 rfl) ?_
              refine lv_iload hx hb dM_join_70 (lv_at hl 7 rfl) ?_
              refine lv_lload hx hb dM_join_72 (lv_at hl 0 rfl) ?_
              refine lv_ldc2 (v := lZ (65535)) hx hb hown (ht _ tw_775) dM_join_74 ?_
              refine zr_mask (n := 16) (P := 65536) hx hb (Nat.le_of_ble_eq_true rfl) p2_16 m2_16 dM_join_77 ?_
              refine zr_l2i hx hb dM_join_78 ?_
              rw [show (z % 65536 : Int) = (((z % 65536).toNat : Nat) : Int) from by omega]
              refine zm_st (k := ka) (i := k) (x := (z % 65536).toNat) hx hb hK hZ hS (by omega) (by omega) (by omega) dM_join_79 (fun H locs hZ hS => ?_)
              have fr : ∀ jx, jx ≠ ka → (mup w ka k ((z % 65536).toNat)) jx = w0 jx := fun jx h0 => (mup_ne _ _ _ h0).trans (fr jx h0)
              refine lv_lload hx hb dM_join_80 (lv_at hl 0 rfl) ?_
              refine lv_bipush (v := iZ (16)) hx hb dM_join_82 (by decide) ?_
              refine zr_lshr (n := 16) (P := 65536) hx hb (by unfold zl; omega) (Nat.le_of_ble_eq_true rfl) (p2_16) dM_join_84 ?_
              refine lv_lstore (lv' := [(6, .long (lZ (z / 65536))), (9, .long (lZ (((w0 kb k * sm : Nat) : Int)))), (0, .ref (B + ka)), (1, .ref (B + kb)), (2, .int (iZ (↑sz))), (3, .long (lZ (↑sm))), (5, .int (iZ (bZ aw))), (8, .int (iZ (↑k)))]) hx hb dM_join_85 hl (by decide) rfl (fun ls hl => ?_)
              refine lv_iinc (v := iZ (↑k + 1)) (lv' := [(8, .int (iZ (↑k + 1))), (6, .long (lZ (z / 65536))), (9, .long (lZ (((w0 kb k * sm : Nat) : Int)))), (0, .ref (B + ka)), (1, .ref (B + kb)), (2, .int (iZ (↑sz))), (3, .long (lZ (↑sm))), (5, .int (iZ (bZ aw)))]) hx hb dM_join_87 hl (k := 7) rfl (iZ_add _ _) (by decide) rfl (fun ls hl => ?_)
              refine lv_goto (tgt := 6) hx hb dM_join_90 (by decide) ?_
              rw [show (↑k + 1 : Int) = ↑(k + 1) from by omega] at hl
              exact ihL6 (k + 1) (z / 65536) (mup w ka k ((z % 65536).toNat)) _ _ _ (by omega) (by omega) (by rw [mup_at]; exact jstep hI hz) (fun j hj => by rw [mup_at, va_up_ne _ _ (by omega)]; exact hu j (by omega)) (by omega) fr hZ hS (lv_sub hl [3, 4, 5, 6, 7, 1, 0] rfl)
            · have hft : f = -((sm : Nat) : Int) := by rw [hf, if_pos (bZ_nf.mp (by assumption))]
              refine lv_lload hx hb dM_join_58 (lv_at hl 0 rfl) ?_
              refine zr_lneg hx hb dM_join_60 ?_
              refine lv_goto (tgt := 66) hx hb dM_join_61 (by decide) ?_
              refine zr_ladd hx hb dM_join_66 ?_
              obtain ⟨z, hz⟩ : ∃ z : Int, z = (w0 ka k : Int) + f * (w0 kb k : Int) + cr := ⟨_, rfl⟩
              have hz2 : z = (w0 ka k : Int) - ((w0 kb k * sm : Nat) : Int) + cr := by rw [hz, hft, Int.natCast_mul, Int.neg_mul, Int.mul_comm (sm : Int)]; omega
              refine zc_l (y := lZ z) (congrArg lZ (by rw [hz2]; omega)) ?_
              refine lv_lstore (lv' := [(6, .long (lZ (z))), (9, .long (lZ (((w0 kb k * sm : Nat) : Int)))), (0, .ref (B + ka)), (1, .ref (B + kb)), (2, .int (iZ (↑sz))), (3, .long (lZ (↑sm))), (5, .int (iZ (bZ aw))), (8, .int (iZ (↑k)))]) hx hb dM_join_67 hl (by decide) rfl (fun ls hl => ?_)
              refine lv_aload_n hx hb dM_join_69 rfl (lv_at hl 2 rfl) ?_
              refine lv_iload hx hb dM_join_70 (lv_at hl 7 rfl) ?_
              refine lv_lload hx hb dM_join_72 (lv_at hl 0 rfl) ?_
              refine lv_ldc2 (v := lZ (65535)) hx hb hown (ht _ tw_775) dM_join_74 ?_
              refine zr_mask (n := 16) (P := 65536) hx hb (Nat.le_of_ble_eq_true rfl) p2_16 m2_16 dM_join_77 ?_
              refine zr_l2i hx hb dM_join_78 ?_
              rw [show (z % 65536 : Int) = (((z % 65536).toNat : Nat) : Int) from by omega]
              refine zm_st (k := ka) (i := k) (x := (z % 65536).toNat) hx hb hK hZ hS (by omega) (by omega) (by omega) dM_join_79 (fun H locs hZ hS => ?_)
              have fr : ∀ jx, jx ≠ ka → (mup w ka k ((z % 65536).toNat)) jx = w0 jx := fun jx h0 => (mup_ne _ _ _ h0).trans (fr jx h0)
              refine lv_lload hx hb dM_join_80 (lv_at hl 0 rfl) ?_
              refine lv_bipush (v := iZ (16)) hx hb dM_join_82 (by decide) ?_
              refine zr_lshr (n := 16) (P := 65536) hx hb (by unfold zl; omega) (Nat.le_of_ble_eq_true rfl) (p2_16) dM_join_84 ?_
              refine lv_lstore (lv' := [(6, .long (lZ (z / 65536))), (9, .long (lZ (((w0 kb k * sm : Nat) : Int)))), (0, .ref (B + ka)), (1, .ref (B + kb)), (2, .int (iZ (↑sz))), (3, .long (lZ (↑sm))), (5, .int (iZ (bZ aw))), (8, .int (iZ (↑k)))]) hx hb dM_join_85 hl (by decide) rfl (fun ls hl => ?_)
              refine lv_iinc (v := iZ (↑k + 1)) (lv' := [(8, .int (iZ (↑k + 1))), (6, .long (lZ (z / 65536))), (9, .long (lZ (((w0 kb k * sm : Nat) : Int)))), (0, .ref (B + ka)), (1, .ref (B + kb)), (2, .int (iZ (↑sz))), (3, .long (lZ (↑sm))), (5, .int (iZ (bZ aw)))]) hx hb dM_join_87 hl (k := 7) rfl (iZ_add _ _) (by decide) rfl (fun ls hl => ?_)
              refine lv_goto (tgt := 6) hx hb dM_join_90 (by decide) ?_
              rw [show (↑k + 1 : Int) = ↑(k + 1) from by omega] at hl
              exact ihL6 (k + 1) (z / 65536) (mup w ka k ((z % 65536).toNat)) _ _ _ (by omega) (by omega) (by rw [mup_at]; exact jstep hI hz) (fun j hj => by rw [mup_at, va_up_ne _ _ (by omega)]; exact hu j (by omega)) (by omega) fr hZ hS (lv_sub hl [3, 4, 5, 6, 7, 1, 0] rfl)
        · refine lv_lload hx hb dM_join_19 (lv_at hl 5 rfl) ?_
          refine lv_lconst (v := lZ (0)) hx hb dM_join_21 (by decide) ?_
          refine zr_lcmp_eq (tgt := 93) hx hb (by unfold zl; omega) (by unfold zl; omega) dM_join_22 dM_join_23 (by decide) (fun c_6 => ?_) (fun c_6 => ?_)
          · have hfin := join_end (n := 264) hk hI hu (hZ.2 ka) hY0 hY1 (Or.inr ⟨by omega, fun j h1 h2 => hzb j (by omega) h2⟩)
            exact hend 93 (w, q0) _ _ _ dM_join_93 (⟨fr, rfl, hfin⟩) hZ hS
          · refine lv_iload hx hb dM_join_26 (lv_at hl 6 rfl) ?_
            refine lv_iload_n hx hb dM_join_28 rfl (lv_at hl 2 rfl) ?_
            refine zr_icmp_ge (tgt := 42) hx hb (by unfold zi; omega) (by unfold zi; omega) dM_join_29 (by decide) (fun c_7 => ?_) (fun c_7 => ?_)
            · have hkb0 : w0 kb k = 0 := hzb k (by omega) (by omega)
              have hp1 : w0 kb k * sm ≤ 65535 * 4294967296 := by rw [hkb0, Nat.zero_mul]; exact Nat.zero_le _
              refine lv_lconst (v := lZ (0)) hx hb dM_join_42 (by decide) ?_
              refine zc_l (y := lZ ((w0 kb k * sm : Nat) : Int)) (congrArg lZ (by rw [hkb0, Nat.zero_mul]; rfl)) ?_
              refine lv_lstore (lv' := [(9, .long (lZ (((w0 kb k * sm : Nat) : Int)))), (0, .ref (B + ka)), (1, .ref (B + kb)), (2, .int (iZ (↑sz))), (3, .long (lZ (↑sm))), (5, .int (iZ (bZ aw))), (6, .long (lZ (cr))), (8, .int (iZ (↑k)))]) hx hb dM_join_43 hl (by decide) rfl (fun ls hl => ?_)
              refine lv_lload hx hb dM_join_45 (lv_at hl 6 rfl) ?_
              refine lv_aload_n hx hb dM_join_47 rfl (lv_at hl 1 rfl) ?_
              refine lv_iload hx hb dM_join_48 (lv_at hl 7 rfl) ?_
              refine zm_ld (k := ka) (i := k) hx hb hK hZ (by omega) (by omega) dM_join_50 ?_
              have hla := hZ.2 ka k
              refine zr_i2l hx hb (by unfold zi; omega) dM_join_51 ?_
              rw [hu k (Nat.le_refl k)] at hla ⊢
              refine zr_ladd hx hb dM_join_52 ?_
              refine lv_iload hx hb dM_join_53 (lv_at hl 5 rfl) ?_
              refine zr_if_eq (tgt := 64) hx hb (by have := bZ_01 aw; omega) dM_join_55 (by decide) (fun c_8 => ?_) (fun c_8 => ?_)
              · have hft : f = ((sm : Nat) : Int) := by rw [hf, if_neg (by rw [show aw = false from bZ_f.mp (by assumption)]; decide)]
                refine lv_lload hx hb dM_join_64 (lv_at hl 0 rfl) ?_
                refine zr_ladd hx hb dM_join_66 ?_
                obtain ⟨z, hz⟩ : ∃ z : Int, z = (w0 ka k : Int) + f * (w0 kb k : Int) + cr := ⟨_, rfl⟩
                have hz2 : z = (w0 ka k : Int) + ((w0 kb k * sm : Nat) : Int) + cr := by rw [hz, hft, Int.natCast_mul, Int.mul_comm (sm : Int)]
                refine zc_l (y := lZ z) (congrArg lZ (by rw [hz2]; omega)) ?_
                refine lv_lstore (lv' := [(6, .long (lZ (z))), (9, .long (lZ (((w0 kb k * sm : Nat) : Int)))), (0, .ref (B + ka)), (1, .ref (B + kb)), (2, .int (iZ (↑sz))), (3, .long (lZ (↑sm))), (5, .int (iZ (bZ aw))), (8, .int (iZ (↑k)))]) hx hb dM_join_67 hl (by decide) rfl (fun ls hl => ?_)
                refine lv_aload_n hx hb dM_join_69 rfl (lv_at hl 2 rfl) ?_
                refine lv_iload hx hb dM_join_70 (lv_at hl 7 rfl) ?_
                refine lv_lload hx hb dM_join_72 (lv_at hl 0 rfl) ?_
                refine lv_ldc2 (v := lZ (65535)) hx hb hown (ht _ tw_775) dM_join_74 ?_
                refine zr_mask (n := 16) (P := 65536) hx hb (Nat.le_of_ble_eq_true rfl) p2_16 m2_16 dM_join_77 ?_
                refine zr_l2i hx hb dM_join_78 ?_
                rw [show (z % 65536 : Int) = (((z % 65536).toNat : Nat) : Int) from by omega]
                refine zm_st (k := ka) (i := k) (x := (z % 65536).toNat) hx hb hK hZ hS (by omega) (by omega) (by omega) dM_join_79 (fun H locs hZ hS => ?_)
                have fr : ∀ jx, jx ≠ ka → (mup w ka k ((z % 65536).toNat)) jx = w0 jx := fun jx h0 => (mup_ne _ _ _ h0).trans (fr jx h0)
                refine lv_lload hx hb dM_join_80 (lv_at hl 0 rfl) ?_
                refine lv_bipush (v := iZ (16)) hx hb dM_join_82 (by decide) ?_
                refine zr_lshr (n := 16) (P := 65536) hx hb (by unfold zl; omega) (Nat.le_of_ble_eq_true rfl) (p2_16) dM_join_84 ?_
                refine lv_lstore (lv' := [(6, .long (lZ (z / 65536))), (9, .long (lZ (((w0 kb k * sm : Nat) : Int)))), (0, .ref (B + ka)), (1, .ref (B + kb)), (2, .int (iZ (↑sz))), (3, .long (lZ (↑sm))), (5, .int (iZ (bZ aw))), (8, .int (iZ (↑k)))]) hx hb dM_join_85 hl (by decide) rfl (fun ls hl => ?_)
                refine lv_iinc (v := iZ (↑k + 1)) (lv' := [(8, .int (iZ (↑k + 1))), (6, .long (lZ (z / 65536))), (9, .long (lZ (((w0 kb k * sm : Nat) : Int)))), (0, .ref (B + ka)), (1, .ref (B + kb)), (2, .int (iZ (↑sz))), (3, .long (lZ (↑sm))), (5, .int (iZ (bZ aw)))]) hx hb dM_join_87 hl (k := 7) rfl (iZ_add _ _) (by decide) rfl (fun ls hl => ?_)
                refine lv_goto (tgt := 6) hx hb dM_join_90 (by decide) ?_
                rw [show (↑k + 1 : Int) = ↑(k + 1) from by omega] at hl
                exact ihL6 (k + 1) (z / 65536) (mup w ka k ((z % 65536).toNat)) _ _ _ (by omega) (by omega) (by rw [mup_at]; exact jstep hI hz) (fun j hj => by rw [mup_at, va_up_ne _ _ (by omega)]; exact hu j (by omega)) (by omega) fr hZ hS (lv_sub hl [3, 4, 5, 6, 7, 1, 0] rfl)
              · have hft : f = -((sm : Nat) : Int) := by rw [hf, if_pos (bZ_nf.mp (by assumption))]
                refine lv_lload hx hb dM_join_58 (lv_at hl 0 rfl) ?_
                refine zr_lneg hx hb dM_join_60 ?_
                refine lv_goto (tgt := 66) hx hb dM_join_61 (by decide) ?_
                refine zr_ladd hx hb dM_join_66 ?_
                obtain ⟨z, hz⟩ : ∃ z : Int, z = (w0 ka k : Int) + f * (w0 kb k : Int) + cr := ⟨_, rfl⟩
                have hz2 : z = (w0 ka k : Int) - ((w0 kb k * sm : Nat) : Int) + cr := by rw [hz, hft, Int.natCast_mul, Int.neg_mul, Int.mul_comm (sm : Int)]; omega
                refine zc_l (y := lZ z) (congrArg lZ (by rw [hz2]; omega)) ?_
                refine lv_lstore (lv' := [(6, .long (lZ (z))), (9, .long (lZ (((w0 kb k * sm : Nat) : Int)))), (0, .ref (B + ka)), (1, .ref (B + kb)), (2, .int (iZ (↑sz))), (3, .long (lZ (↑sm))), (5, .int (iZ (bZ aw))), (8, .int (iZ (↑k)))]) hx hb dM_join_67 hl (by decide) rfl (fun ls hl => ?_)
                refine lv_aload_n hx hb dM_join_69 rfl (lv_at hl 2 rfl) ?_
                refine lv_iload hx hb dM_join_70 (lv_at hl 7 rfl) ?_
                refine lv_lload hx hb dM_join_72 (lv_at hl 0 rfl) ?_
                refine lv_ldc2 (v := lZ (65535)) hx hb hown (ht _ tw_775) dM_join_74 ?_
                refine zr_mask (n := 16) (P := 65536) hx hb (Nat.le_of_ble_eq_true rfl) p2_16 m2_16 dM_join_77 ?_
                refine zr_l2i hx hb dM_join_78 ?_
                rw [show (z % 65536 : Int) = (((z % 65536).toNat : Nat) : Int) from by omega]
                refine zm_st (k := ka) (i := k) (x := (z % 65536).toNat) hx hb hK hZ hS (by omega) (by omega) (by omega) dM_join_79 (fun H locs hZ hS => ?_)
                have fr : ∀ jx, jx ≠ ka → (mup w ka k ((z % 65536).toNat)) jx = w0 jx := fun jx h0 => (mup_ne _ _ _ h0).trans (fr jx h0)
                refine lv_lload hx hb dM_join_80 (lv_at hl 0 rfl) ?_
                refine lv_bipush (v := iZ (16)) hx hb dM_join_82 (by decide) ?_
                refine zr_lshr (n := 16) (P := 65536) hx hb (by unfold zl; omega) (Nat.le_of_ble_eq_true rfl) (p2_16) dM_join_84 ?_
                refine lv_lstore (lv' := [(6, .long (lZ (z / 65536))), (9, .long (lZ (((w0 kb k * sm : Nat) : Int)))), (0, .ref (B + ka)), (1, .ref (B + kb)), (2, .int (iZ (↑sz))), (3, .long (lZ (↑sm))), (5, .int (iZ (bZ aw))), (8, .int (iZ (↑k)))]) hx hb dM_join_85 hl (by decide) rfl (fun ls hl => ?_)
                refine lv_iinc (v := iZ (↑k + 1)) (lv' := [(8, .int (iZ (↑k + 1))), (6, .long (lZ (z / 65536))), (9, .long (lZ (((w0 kb k * sm : Nat) : Int)))), (0, .ref (B + ka)), (1, .ref (B + kb)), (2, .int (iZ (↑sz))), (3, .long (lZ (↑sm))), (5, .int (iZ (bZ aw)))]) hx hb dM_join_87 hl (k := 7) rfl (iZ_add _ _) (by decide) rfl (fun ls hl => ?_)
                refine lv_goto (tgt := 6) hx hb dM_join_90 (by decide) ?_
                rw [show (↑k + 1 : Int) = ↑(k + 1) from by omega] at hl
                exact ihL6 (k + 1) (z / 65536) (mup w ka k ((z % 65536).toNat)) _ _ _ (by omega) (by omega) (by rw [mup_at]; exact jstep hI hz) (fun j hj => by rw [mup_at, va_up_ne _ _ (by omega)]; exact hu j (by omega)) (by omega) fr hZ hS (lv_sub hl [3, 4, 5, 6, 7, 1, 0] rfl)
            · refine lv_aload_n hx hb dM_join_32 rfl (lv_at hl 1 rfl) ?_
              refine lv_iload hx hb dM_join_33 (lv_at hl 6 rfl) ?_
              refine zm_ld (k := kb) (i := k) hx hb hK hZ (by omega) (by omega) dM_join_35 ?_
              have hlb := hZ.2 kb k
              refine zr_i2l hx hb (by unfold zi; omega) dM_join_36 ?_
              refine lv_lload_n hx hb dM_join_37 rfl (lv_at hl 3 rfl) ?_
              refine zr_lmul hx hb dM_join_38 ?_
              have hkb : w kb k = w0 kb k := by rw [fr kb hne]
              have hp1 : w0 kb k * sm ≤ 65535 * 4294967296 := Nat.mul_le_mul (by rw [← hkb]; omega) hsm
              rw [hkb]
              refine zc_l (y := lZ ((w0 kb k * sm : Nat) : Int)) (congrArg lZ (by rw [Int.natCast_mul])) ?_
              refine lv_goto (tgt := 43) hx hb dM_join_39 (by decide) ?_
              refine lv_lstore (lv' := [(9, .long (lZ (((w0 kb k * sm : Nat) : Int)))), (0, .ref (B + ka)), (1, .ref (B + kb)), (2, .int (iZ (↑sz))), (3, .long (lZ (↑sm))), (5, .int (iZ (bZ aw))), (6, .long (lZ (cr))), (8, .int (iZ (↑k)))]) hx hb dM_join_43 hl (by decide) rfl (fun ls hl => ?_)
              refine lv_lload hx hb dM_join_45 (lv_at hl 6 rfl) ?_
              refine lv_aload_n hx hb dM_join_47 rfl (lv_at hl 1 rfl) ?_
              refine lv_iload hx hb dM_join_48 (lv_at hl 7 rfl) ?_
              refine zm_ld (k := ka) (i := k) hx hb hK hZ (by omega) (by omega) dM_join_50 ?_
              have hla := hZ.2 ka k
              refine zr_i2l hx hb (by unfold zi; omega) dM_join_51 ?_
              rw [hu k (Nat.le_refl k)] at hla ⊢
              refine zr_ladd hx hb dM_join_52 ?_
              refine lv_iload hx hb dM_join_53 (lv_at hl 5 rfl) ?_
              refine zr_if_eq (tgt := 64) hx hb (by have := bZ_01 aw; omega) dM_join_55 (by decide) (fun c_9 => ?_) (fun c_9 => ?_)
              · have hft : f = ((sm : Nat) : Int) := by rw [hf, if_neg (by rw [show aw = false from bZ_f.mp (by assumption)]; decide)]
                refine lv_lload hx hb dM_join_64 (lv_at hl 0 rfl) ?_
                refine zr_ladd hx hb dM_join_66 ?_
                obtain ⟨z, hz⟩ : ∃ z : Int, z = (w0 ka k : Int) + f * (w0 kb k : Int) + cr := ⟨_, rfl⟩
                have hz2 : z = (w0 ka k : Int) + ((w0 kb k * sm : Nat) : Int) + cr := by rw [hz, hft, Int.natCast_mul, Int.mul_comm (sm : Int)]
                refine zc_l (y := lZ z) (congrArg lZ (by rw [hz2]; omega)) ?_
                refine lv_lstore (lv' := [(6, .long (lZ (z))), (9, .long (lZ (((w0 kb k * sm : Nat) : Int)))), (0, .ref (B + ka)), (1, .ref (B + kb)), (2, .int (iZ (↑sz))), (3, .long (lZ (↑sm))), (5, .int (iZ (bZ aw))), (8, .int (iZ (↑k)))]) hx hb dM_join_67 hl (by decide) rfl (fun ls hl => ?_)
                refine lv_aload_n hx hb dM_join_69 rfl (lv_at hl 2 rfl) ?_
                refine lv_iload hx hb dM_join_70 (lv_at hl 7 rfl) ?_
                refine lv_lload hx hb dM_join_72 (lv_at hl 0 rfl) ?_
                refine lv_ldc2 (v := lZ (65535)) hx hb hown (ht _ tw_775) dM_join_74 ?_
                refine zr_mask (n := 16) (P := 65536) hx hb (Nat.le_of_ble_eq_true rfl) p2_16 m2_16 dM_join_77 ?_
                refine zr_l2i hx hb dM_join_78 ?_
                rw [show (z % 65536 : Int) = (((z % 65536).toNat : Nat) : Int) from by omega]
                refine zm_st (k := ka) (i := k) (x := (z % 65536).toNat) hx hb hK hZ hS (by omega) (by omega) (by omega) dM_join_79 (fun H locs hZ hS => ?_)
                have fr : ∀ jx, jx ≠ ka → (mup w ka k ((z % 65536).toNat)) jx = w0 jx := fun jx h0 => (mup_ne _ _ _ h0).trans (fr jx h0)
                refine lv_lload hx hb dM_join_80 (lv_at hl 0 rfl) ?_
                refine lv_bipush (v := iZ (16)) hx hb dM_join_82 (by decide) ?_
                refine zr_lshr (n := 16) (P := 65536) hx hb (by unfold zl; omega) (Nat.le_of_ble_eq_true rfl) (p2_16) dM_join_84 ?_
                refine lv_lstore (lv' := [(6, .long (lZ (z / 65536))), (9, .long (lZ (((w0 kb k * sm : Nat) : Int)))), (0, .ref (B + ka)), (1, .ref (B + kb)), (2, .int (iZ (↑sz))), (3, .long (lZ (↑sm))), (5, .int (iZ (bZ aw))), (8, .int (iZ (↑k)))]) hx hb dM_join_85 hl (by decide) rfl (fun ls hl => ?_)
                refine lv_iinc (v := iZ (↑k + 1)) (lv' := [(8, .int (iZ (↑k + 1))), (6, .long (lZ (z / 65536))), (9, .long (lZ (((w0 kb k * sm : Nat) : Int)))), (0, .ref (B + ka)), (1, .ref (B + kb)), (2, .int (iZ (↑sz))), (3, .long (lZ (↑sm))), (5, .int (iZ (bZ aw)))]) hx hb dM_join_87 hl (k := 7) rfl (iZ_add _ _) (by decide) rfl (fun ls hl => ?_)
                refine lv_goto (tgt := 6) hx hb dM_join_90 (by decide) ?_
                rw [show (↑k + 1 : Int) = ↑(k + 1) from by omega] at hl
                exact ihL6 (k + 1) (z / 65536) (mup w ka k ((z % 65536).toNat)) _ _ _ (by omega) (by omega) (by rw [mup_at]; exact jstep hI hz) (fun j hj => by rw [mup_at, va_up_ne _ _ (by omega)]; exact hu j (by omega)) (by omega) fr hZ hS (lv_sub hl [3, 4, 5, 6, 7, 1, 0] rfl)
              · have hft : f = -((sm : Nat) : Int) := by rw [hf, if_pos (bZ_nf.mp (by assumption))]
                refine lv_lload hx hb dM_join_58 (lv_at hl 0 rfl) ?_
                refine zr_lneg hx hb dM_join_60 ?_
                refine lv_goto (tgt := 66) hx hb dM_join_61 (by decide) ?_
                refine zr_ladd hx hb dM_join_66 ?_
                obtain ⟨z, hz⟩ : ∃ z : Int, z = (w0 ka k : Int) + f * (w0 kb k : Int) + cr := ⟨_, rfl⟩
                have hz2 : z = (w0 ka k : Int) - ((w0 kb k * sm : Nat) : Int) + cr := by rw [hz, hft, Int.natCast_mul, Int.neg_mul, Int.mul_comm (sm : Int)]; omega
                refine zc_l (y := lZ z) (congrArg lZ (by rw [hz2]; omega)) ?_
                refine lv_lstore (lv' := [(6, .long (lZ (z))), (9, .long (lZ (((w0 kb k * sm : Nat) : Int)))), (0, .ref (B + ka)), (1, .ref (B + kb)), (2, .int (iZ (↑sz))), (3, .long (lZ (↑sm))), (5, .int (iZ (bZ aw))), (8, .int (iZ (↑k)))]) hx hb dM_join_67 hl (by decide) rfl (fun ls hl => ?_)
                refine lv_aload_n hx hb dM_join_69 rfl (lv_at hl 2 rfl) ?_
                refine lv_iload hx hb dM_join_70 (lv_at hl 7 rfl) ?_
                refine lv_lload hx hb dM_join_72 (lv_at hl 0 rfl) ?_
                refine lv_ldc2 (v := lZ (65535)) hx hb hown (ht _ tw_775) dM_join_74 ?_
                refine zr_mask (n := 16) (P := 65536) hx hb (Nat.le_of_ble_eq_true rfl) p2_16 m2_16 dM_join_77 ?_
                refine zr_l2i hx hb dM_join_78 ?_
                rw [show (z % 65536 : Int) = (((z % 65536).toNat : Nat) : Int) from by omega]
                refine zm_st (k := ka) (i := k) (x := (z % 65536).toNat) hx hb hK hZ hS (by omega) (by omega) (by omega) dM_join_79 (fun H locs hZ hS => ?_)
                have fr : ∀ jx, jx ≠ ka → (mup w ka k ((z % 65536).toNat)) jx = w0 jx := fun jx h0 => (mup_ne _ _ _ h0).trans (fr jx h0)
                refine lv_lload hx hb dM_join_80 (lv_at hl 0 rfl) ?_
                refine lv_bipush (v := iZ (16)) hx hb dM_join_82 (by decide) ?_
                refine zr_lshr (n := 16) (P := 65536) hx hb (by unfold zl; omega) (Nat.le_of_ble_eq_true rfl) (p2_16) dM_join_84 ?_
                refine lv_lstore (lv' := [(6, .long (lZ (z / 65536))), (9, .long (lZ (((w0 kb k * sm : Nat) : Int)))), (0, .ref (B + ka)), (1, .ref (B + kb)), (2, .int (iZ (↑sz))), (3, .long (lZ (↑sm))), (5, .int (iZ (bZ aw))), (8, .int (iZ (↑k)))]) hx hb dM_join_85 hl (by decide) rfl (fun ls hl => ?_)
                refine lv_iinc (v := iZ (↑k + 1)) (lv' := [(8, .int (iZ (↑k + 1))), (6, .long (lZ (z / 65536))), (9, .long (lZ (((w0 kb k * sm : Nat) : Int)))), (0, .ref (B + ka)), (1, .ref (B + kb)), (2, .int (iZ (↑sz))), (3, .long (lZ (↑sm))), (5, .int (iZ (bZ aw)))]) hx hb dM_join_87 hl (k := 7) rfl (iZ_add _ _) (by decide) rfl (fun ls hl => ?_)
                refine lv_goto (tgt := 6) hx hb dM_join_90 (by decide) ?_
                rw [show (↑k + 1 : Int) = ↑(k + 1) from by omega] at hl
                exact ihL6 (k + 1) (z / 65536) (mup w ka k ((z % 65536).toNat)) _ _ _ (by omega) (by omega) (by rw [mup_at]; exact jstep hI hz) (fun j hj => by rw [mup_at, va_up_ne _ _ (by omega)]; exact hu j (by omega)) (by omega) fr hZ hS (lv_sub hl [3, 4, 5, 6, 7, 1, 0] rfl)
  exact L6 _ 0 0 w0 _ _ _ (Nat.lt_succ_self _) (Nat.zero_le _) (by rw [show rv (w0 kb) 0 = 0 from rfl]; omega) (fun _ _ => rfl) (by omega) fr hZ hS (lv_sub hl [2, 3, 4, 5, 6, 1, 0] rfl)

theorem grow_end {a a' : Nat → Nat} {b mo cr k n : Nat} (hk : k ≤ n) (hI : rv a' k + cr * rP k = b * rv a k + mo) (hu : ∀ j, k ≤ j → a' j = a j) (hY : b * rv a n + mo < rP n) (he : k = n ∨ (cr = 0 ∧ ∀ j, k ≤ j → j < n → a j = 0)) : rv a' n = b * rv a n + mo := by
  rcases he with h | ⟨h, hb⟩
  · subst h
    rcases Nat.eq_zero_or_pos cr with h0 | h0
    · rw [h0, Nat.zero_mul] at hI; omega
    · have := Nat.mul_le_mul_right (rP k) h0
      rw [Nat.one_mul] at this
      omega
  · rw [h, Nat.zero_mul, Nat.add_zero] at hI
    rw [rv_drop hk hb, rv_drop hk (fun j h1 h2 => (hu j h1).trans (hb j h1 h2)), hI]
set_option maxHeartbeats 4000000 in
set_option maxRecDepth 100000 in
theorem mM_grow (l : Launch) (E : zE) (B : Nat) (w0 : Nat → Nat → Nat) (q0 : zC) (ka : Nat) (hk_ka : 4 ≤ ka ∧ ka ≤ 13) (hln_ka : mln ka = 264) (b mo : Nat) (hb9 : b ≤ 36) (hmo : mo ≤ 99) (hY : b * rv (w0 ka) 264 + mo < rP 264) :
    Met l yM_grow (zws yM_grow cM_grow 7 none) { frames := 1, cells := 0, slots := 0, locals := 24 } (zPc E (zMD E B w0 q0) [.ref (B + ka), .int (iZ (↑b)), .int (iZ (↑mo))]) (va_Qv (fun u : (Nat → Nat → Nat) × zC => (∀ j, j ≠ ka → u.1 j = w0 j) ∧ u.2 = q0 ∧ rv (u.1 ka) 264 = b * rv (w0 ka) 264 + mo) (fun u t => zMD E B u.1 u.2 t.heap ∧ zK E t) (zA B 15)) 0 0 (zA B 15) := by
  refine zof_v (P' := fun (u : (Nat → Nat → Nat) × zC) H => zMD E B u.1 u.2 H) (by decide) (Nat.le_of_ble_eq_true rfl) fun p e R s m args below meth c Q ls hR hx hb hml ht hown hK hZ hl hend => ?_
  have hS : va_S (zA B 15) s.heap s.heap [] := va_S.rf
  have hown : s.vm.findClass "WholeDeskModel" = some m.cls := hown
  have hl : lv_has ls 7 [(0, .ref (B + ka)), (1, .int (iZ (↑b))), (2, .int (iZ (↑mo)))] := hl
  have fr : ∀ jx, jx ≠ ka → w0 jx = w0 jx := fun jx _ => rfl
  refine lv_iload_n hx hb dM_grow_0 rfl (lv_at hl 2 rfl) ?_
  refine zr_i2l hx hb (by unfold zi; omega) dM_grow_1 ?_
  refine lv_lstore_n (lv' := [(3, .long (lZ (↑mo))), (0, .ref (B + ka)), (1, .int (iZ (↑b))), (2, .int (iZ (↑mo)))]) hx hb dM_grow_2 rfl hl (by decide) rfl (fun ls hl => ?_)
  refine lv_aload_n hx hb dM_grow_3 rfl (lv_at hl 1 rfl) ?_
  refine zcS_i (P' := fun (u : (Nat → Nat → Nat) × zC) H => zMD E B u.1 u.2 H) 1 (As := [.ref (B + ka)]) (rest := []) ⟨hx, hb, hml, hown, ht⟩ (mM_size l E B w0 q0 ka hk_ka 264 hln_ka (by omega)) tw_774 tw_772 tw_773 tw_6 qM_size (by rw [hR]; decide) hZ hK hl.1 rfl rfl (Nat.le_of_ble_eq_true rfl) dM_grow_4 ⟨Nat.zero_le _, Nat.zero_le _⟩ hS (fun r9 u H locs hp hZ _ hS => ?_)
  obtain ⟨hu9, n, hr1, hn1, hn2, hn3⟩ := hp
  subst hr1
  subst hu9
  dsimp only at hZ
  refine lv_istore (lv' := [(5, .int (iZ (↑n))), (3, .long (lZ (↑mo))), (0, .ref (B + ka)), (1, .int (iZ (↑b))), (2, .int (iZ (↑mo)))]) hx hb dM_grow_7 hl (by decide) rfl (fun ls hl => ?_)
  refine lv_iconst (v := iZ (0)) hx hb dM_grow_9 (by decide) ?_
  refine lv_istore (lv' := [(6, .int (iZ (0))), (5, .int (iZ (↑n))), (3, .long (lZ (↑mo))), (0, .ref (B + ka)), (1, .int (iZ (↑b))), (2, .int (iZ (↑mo)))]) hx hb dM_grow_10 hl (by decide) rfl (fun ls hl => ?_)
  have L12 : ∀ (fu : Nat) (k : Nat) (cr : Nat) (w : Nat → Nat → Nat) (H : Heap) (locs : List Loc) (ls : Array Slot), 264 - k < fu → (k ≤ 264) → (rv (w ka) k + cr * rP k = b * rv (w0 ka) k + mo) → (∀ j, k ≤ j → w ka j = w0 ka j) → (cr ≤ 100) → (∀ jx, jx ≠ ka → w jx = w0 jx) → zMD E B w q0 H → va_S (zA B 15) s.heap H locs → lv_has ls 7 [(0, .ref (B + ka)), (1, .int (iZ (↑b))), (3, .long (lZ (↑cr))), (5, .int (iZ (↑n))), (6, .int (iZ (↑k)))] → W p l e R s m args below meth c H locs 0 0 Q (F0 m 12 ls []) := by
    intro fu
    induction fu with
    | zero => intro k cr w H locs ls hm; exact absurd hm (Nat.not_lt_zero _)
    | succ fu ihL12 =>
      intro k cr w H locs ls hm hk hI hu hcr fr hZ hS hl
      refine lv_iload hx hb dM_grow_12 (lv_at hl 4 rfl) ?_
      refine lv_iload hx hb dM_grow_14 (lv_at hl 3 rfl) ?_
      refine zr_icmp_lt (tgt := 25) hx hb (by unfold zi; omega) (by unfold zi; omega) dM_grow_16 (by decide) (fun c_1 => ?_) (fun c_1 => ?_)
      · refine lv_iload hx hb dM_grow_25 (lv_at hl 4 rfl) ?_
        refine lv_aload_n hx hb dM_grow_27 rfl (lv_at hl 0 rfl) ?_
        refine zm_len (k := ka) hx hb hK hZ (by omega) dM_grow_28 ?_
        rw [show mln ka = 264 from hln_ka]
        refine zr_icmp_lt (tgt := 33) hx hb (by unfold zi; omega) (by unfold zi; omega) dM_grow_29 (by decide) (fun c_2 => ?_) (fun c_2 => ?_)
        · refine lv_lload_n hx hb dM_grow_33 rfl (lv_at hl 2 rfl) ?_
          refine lv_aload_n hx hb dM_grow_34 rfl (lv_at hl 0 rfl) ?_
          refine lv_iload hx hb dM_grow_35 (lv_at hl 4 rfl) ?_
          refine zm_ld (k := ka) (i := k) hx hb hK hZ (by omega) (by omega) dM_grow_37 ?_
          have hla := hZ.2 ka k
          rw [hu k (Nat.le_refl k)] at hla ⊢
          have hp1 : w0 ka k * b ≤ 65535 * 36 := Nat.mul_le_mul (by omega) hb9
          refine zr_i2l hx hb (by unfold zi; omega) dM_grow_38 ?_
          refine lv_iload_n hx hb dM_grow_39 rfl (lv_at hl 1 rfl) ?_
          refine zr_i2l hx hb (by unfold zi; omega) dM_grow_40 ?_
          refine zr_lmul hx hb dM_grow_41 ?_
          refine zr_ladd hx hb dM_grow_42 ?_
          refine zc_l (y := lZ ((w0 ka k * b + cr : Nat) : Int)) (congrArg lZ (by rw [Int.natCast_add, Int.natCast_mul]; omega)) ?_
          refine lv_lstore_n (lv' := [(3, .long (lZ (((w0 ka k * b + cr : Nat) : Int)))), (0, .ref (B + ka)), (1, .int (iZ (↑b))), (5, .int (iZ (↑n))), (6, .int (iZ (↑k)))]) hx hb dM_grow_43 rfl hl (by decide) rfl (fun ls hl => ?_)
          refine lv_aload_n hx hb dM_grow_44 rfl (lv_at hl 1 rfl) ?_
          refine lv_iload hx hb dM_grow_45 (lv_at hl 4 rfl) ?_
          refine lv_lload_n hx hb dM_grow_47 rfl (lv_at hl 0 rfl) ?_
          refine lv_ldc2 (v := lZ (65535)) hx hb hown (ht _ tw_775) dM_grow_48 ?_
          refine zr_mask (n := 16) (P := 65536) hx hb (Nat.le_of_ble_eq_true rfl) p2_16 m2_16 dM_grow_51 ?_
          refine zr_l2i hx hb dM_grow_52 ?_
          rw [show (((w0 ka k * b + cr : Nat) : Int) % 65536 : Int) = (((w0 ka k * b + cr) % 65536 : Nat) : Int) from by omega]
          refine zm_st (k := ka) (i := k) (x := (w0 ka k * b + cr) % 65536) hx hb hK hZ hS (by omega) (by omega) (by omega) dM_grow_53 (fun H locs hZ hS => ?_)
          have fr : ∀ jx, jx ≠ ka → (mup w ka k ((w0 ka k * b + cr) % 65536)) jx = w0 jx := fun jx h0 => (mup_ne _ _ _ h0).trans (fr jx h0)
          refine lv_lload_n hx hb dM_grow_54 rfl (lv_at hl 0 rfl) ?_
          refine lv_bipush (v := iZ (16)) hx hb dM_grow_55 (by decide) ?_
          refine zr_lshr (n := 16) (P := 65536) hx hb (by unfold zl; omega) (Nat.le_of_ble_eq_true rfl) (p2_16) dM_grow_57 ?_
          refine zc_l (y := lZ ((((w0 ka k * b + cr) / 65536 : Nat) : Int))) (congrArg lZ (by omega)) ?_
          refine lv_lstore_n (lv' := [(3, .long (lZ ((((w0 ka k * b + cr) / 65536 : Nat) : Int)))), (0, .ref (B + ka)), (1, .int (iZ (↑b))), (5, .int (iZ (↑n))), (6, .int (iZ (↑k)))]) hx hb dM_grow_58 rfl hl (by decide) rfl (fun ls hl => ?_)
          refine lv_iinc (v := iZ (↑k + 1)) (lv' := [(6, .int (iZ (↑k + 1))), (3, .long (lZ ((((w0 ka k * b + cr) / 65536 : Nat) : Int)))), (0, .ref (B + ka)), (1, .int (iZ (↑b))), (5, .int (iZ (↑n)))]) hx hb dM_grow_59 hl (k := 4) rfl (iZ_add _ _) (by decide) rfl (fun ls hl => ?_)
          refine lv_goto (tgt := 12) hx hb dM_grow_62 (by decide) ?_
          rw [show (↑k + 1 : Int) = ↑(k + 1) from by omega] at hl
          exact ihL12 (k + 1) ((w0 ka k * b + cr) / 65536) (mup w ka k ((w0 ka k * b + cr) % 65536)) _ _ _ (by omega) (by omega) (by rw [mup_at]; exact rscale_step hI) (fun j hj => by rw [mup_at, va_up_ne _ _ (by omega)]; exact hu j (by omega)) (by omega) fr hZ hS (lv_sub hl [2, 3, 1, 4, 0] rfl)
        · have hfin := grow_end (n := 264) hk hI hu hY (Or.inl (by omega))
          exact hend 32 (w, q0) _ _ _ dM_grow_32 (⟨fr, rfl, hfin⟩) hZ hS
      · refine lv_lload_n hx hb dM_grow_19 rfl (lv_at hl 2 rfl) ?_
        refine lv_lconst (v := lZ (0)) hx hb dM_grow_20 (by decide) ?_
        refine zr_lcmp_eq (tgt := 65) hx hb (by unfold zl; omega) (by unfold zl; omega) dM_grow_21 dM_grow_22 (by decide) (fun c_3 => ?_) (fun c_3 => ?_)
        · have hfin := grow_end (n := 264) hk hI hu hY (Or.inr ⟨by omega, fun j h1 h2 => hn2 j (by omega) h2⟩)
          exact hend 65 (w, q0) _ _ _ dM_grow_65 (⟨fr, rfl, hfin⟩) hZ hS
        · refine lv_iload hx hb dM_grow_25 (lv_at hl 4 rfl) ?_
          refine lv_aload_n hx hb dM_grow_27 rfl (lv_at hl 0 rfl) ?_
          refine zm_len (k := ka) hx hb hK hZ (by omega) dM_grow_28 ?_
          rw [show mln ka = 264 from hln_ka]
          refine zr_icmp_lt (tgt := 33) hx hb (by unfold zi; omega) (by unfold zi; omega) dM_grow_29 (by decide) (fun c_4 => ?_) (fun c_4 => ?_)
          · refine lv_lload_n hx hb dM_grow_33 rfl (lv_at hl 2 rfl) ?_
            refine lv_aload_n hx hb dM_grow_34 rfl (lv_at hl 0 rfl) ?_
            refine lv_iload hx hb dM_grow_35 (lv_at hl 4 rfl) ?_
            refine zm_ld (k := ka) (i := k) hx hb hK hZ (by omega) (by omega) dM_grow_37 ?_
            have hla := hZ.2 ka k
            rw [hu k (Nat.le_refl k)] at hla ⊢
            have hp1 : w0 ka k * b ≤ 65535 * 36 := Nat.mul_le_mul (by omega) hb9
            refine zr_i2l hx hb (by unfold zi; omega) dM_grow_38 ?_
            refine lv_iload_n hx hb dM_grow_39 rfl (lv_at hl 1 rfl) ?_
            refine zr_i2l hx hb (by unfold zi; omega) dM_grow_40 ?_
            refine zr_lmul hx hb dM_grow_41 ?_
            refine zr_ladd hx hb dM_grow_42 ?_
            refine zc_l (y := lZ ((w0 ka k * b + cr : Nat) : Int)) (congrArg lZ (by rw [Int.natCast_add, Int.natCast_mul]; omega)) ?_
            refine lv_lstore_n (lv' := [(3, .long (lZ (((w0 ka k * b + cr : Nat) : Int)))), (0, .ref (B + ka)), (1, .int (iZ (↑b))), (5, .int (iZ (↑n))), (6, .int (iZ (↑k)))]) hx hb dM_grow_43 rfl hl (by decide) rfl (fun ls hl => ?_)
            refine lv_aload_n hx hb dM_grow_44 rfl (lv_at hl 1 rfl) ?_
            refine lv_iload hx hb dM_grow_45 (lv_at hl 4 rfl) ?_
            refine lv_lload_n hx hb dM_grow_47 rfl (lv_at hl 0 rfl) ?_
            refine lv_ldc2 (v := lZ (65535)) hx hb hown (ht _ tw_775) dM_grow_48 ?_
            refine zr_mask (n := 16) (P := 65536) hx hb (Nat.le_of_ble_eq_true rfl) p2_16 m2_16 dM_grow_51 ?_
            refine zr_l2i hx hb dM_grow_52 ?_
            rw [show (((w0 ka k * b + cr : Nat) : Int) % 65536 : Int) = (((w0 ka k * b + cr) % 65536 : Nat) : Int) from by omega]
            refine zm_st (k := ka) (i := k) (x := (w0 ka k * b + cr) % 65536) hx hb hK hZ hS (by omega) (by omega) (by omega) dM_grow_53 (fun H locs hZ hS => ?_)
            have fr : ∀ jx, jx ≠ ka → (mup w ka k ((w0 ka k * b + cr) % 65536)) jx = w0 jx := fun jx h0 => (mup_ne _ _ _ h0).trans (fr jx h0)
            refine lv_lload_n hx hb dM_grow_54 rfl (lv_at hl 0 rfl) ?_
            refine lv_bipush (v := iZ (16)) hx hb dM_grow_55 (by decide) ?_
            refine zr_lshr (n := 16) (P := 65536) hx hb (by unfold zl; omega) (Nat.le_of_ble_eq_true rfl) (p2_16) dM_grow_57 ?_
            refine zc_l (y := lZ ((((w0 ka k * b + cr) / 65536 : Nat) : Int))) (congrArg lZ (by omega)) ?_
            refine lv_lstore_n (lv' := [(3, .long (lZ ((((w0 ka k * b + cr) / 65536 : Nat) : Int)))), (0, .ref (B + ka)), (1, .int (iZ (↑b))), (5, .int (iZ (↑n))), (6, .int (iZ (↑k)))]) hx hb dM_grow_58 rfl hl (by decide) rfl (fun ls hl => ?_)
            refine lv_iinc (v := iZ (↑k + 1)) (lv' := [(6, .int (iZ (↑k + 1))), (3, .long (lZ ((((w0 ka k * b + cr) / 65536 : Nat) : Int)))), (0, .ref (B + ka)), (1, .int (iZ (↑b))), (5, .int (iZ (↑n)))]) hx hb dM_grow_59 hl (k := 4) rfl (iZ_add _ _) (by decide) rfl (fun ls hl => ?_)
            refine lv_goto (tgt := 12) hx hb dM_grow_62 (by decide) ?_
            rw [show (↑k + 1 : Int) = ↑(k + 1) from by omega] at hl
            exact ihL12 (k + 1) ((w0 ka k * b + cr) / 65536) (mup w ka k ((w0 ka k * b + cr) % 65536)) _ _ _ (by omega) (by omega) (by rw [mup_at]; exact rscale_step hI) (fun j hj => by rw [mup_at, va_up_ne _ _ (by omega)]; exact hu j (by omega)) (by omega) fr hZ hS (lv_sub hl [2, 3, 1, 4, 0] rfl)
          · have hfin := grow_end (n := 264) hk hI hu hY (Or.inl (by omega))
            exact hend 32 (w, q0) _ _ _ dM_grow_32 (⟨fr, rfl, hfin⟩) hZ hS
  exact L12 _ 0 mo w0 _ _ _ (Nat.lt_succ_self _) (Nat.zero_le _) (by show 0 + mo * 1 = b * 0 + mo; omega) (fun _ _ => rfl) (by omega) fr hZ hS (lv_sub hl [3, 4, 2, 1, 0] rfl)

set_option maxHeartbeats 4000000 in
set_option maxRecDepth 100000 in
theorem mM_shrink (l : Launch) (E : zE) (B : Nat) (w0 : Nat → Nat → Nat) (q0 : zC) (ka : Nat) (hk_ka : 4 ≤ ka ∧ ka ≤ 13) (hln_ka : mln ka = 264) (b : Nat) (hb9 : 2 ≤ b ∧ b ≤ 36) :
    Met l yM_shrink (zws yM_shrink cM_shrink 5 (some .int)) { frames := 1, cells := 0, slots := 0, locals := 24 } (zPc E (zMD E B w0 q0) [.ref (B + ka), .int (iZ (↑b))]) (va_Qi (fun (r : Int32) (u : (Nat → Nat → Nat) × zC) => (∀ j, j ≠ ka → u.1 j = w0 j) ∧ u.2 = q0 ∧ rv (u.1 ka) 264 = rv (w0 ka) 264 / b ∧ r = iZ ↑(rv (w0 ka) 264 % b)) (fun u t => zMD E B u.1 u.2 t.heap ∧ zK E t) (zA B 15)) 0 0 (zA B 15) := by
  refine zof_i (P' := fun (u : (Nat → Nat → Nat) × zC) H => zMD E B u.1 u.2 H) (by decide) (Nat.le_of_ble_eq_true rfl) fun p e R s m args below meth c Q ls hR hx hb hml ht hown hK hZ hl hend => ?_
  have hS : va_S (zA B 15) s.heap s.heap [] := va_S.rf
  have hown : s.vm.findClass "WholeDeskModel" = some m.cls := hown
  have hl : lv_has ls 5 [(0, .ref (B + ka)), (1, .int (iZ (↑b)))] := hl
  have fr : ∀ jx, jx ≠ ka → w0 jx = w0 jx := fun jx _ => rfl
  refine lv_lconst (v := lZ (0)) hx hb dM_shrink_0 (by decide) ?_
  refine lv_lstore_n (lv' := [(2, .long (lZ (0))), (0, .ref (B + ka)), (1, .int (iZ (↑b)))]) hx hb dM_shrink_1 rfl hl (by decide) rfl (fun ls hl => ?_)
  refine lv_aload_n hx hb dM_shrink_2 rfl (lv_at hl 1 rfl) ?_
  refine zcS_i (P' := fun (u : (Nat → Nat → Nat) × zC) H => zMD E B u.1 u.2 H) 1 (As := [.ref (B + ka)]) (rest := []) ⟨hx, hb, hml, hown, ht⟩ (mM_size l E B w0 q0 ka hk_ka 264 hln_ka (by omega)) tw_774 tw_772 tw_773 tw_6 qM_size (by rw [hR]; decide) hZ hK hl.1 rfl rfl (Nat.le_of_ble_eq_true rfl) dM_shrink_3 ⟨Nat.zero_le _, Nat.zero_le _⟩ hS (fun r9 u H locs hp hZ _ hS => ?_)
  obtain ⟨hu9, n, hr1, hn1, hn2, hn3⟩ := hp
  subst hr1
  subst hu9
  dsimp only at hZ
  refine lv_iconst (v := iZ (1)) hx hb dM_shrink_6 (by decide) ?_
  refine zr_isub hx hb dM_shrink_7 ?_
  refine lv_istore (lv' := [(4, .int (iZ (↑n - 1))), (2, .long (lZ (0))), (0, .ref (B + ka)), (1, .int (iZ (↑b)))]) hx hb dM_shrink_8 hl (by decide) rfl (fun ls hl => ?_)
  have L10 : ∀ (fu : Nat) (i : Nat) (lf : Nat) (w : Nat → Nat → Nat) (H : Heap) (locs : List Loc) (ls : Array Slot), i < fu → (i ≤ n) → (rv (w ka) n * b + lf * rP i + rv (w0 ka) i = rv (w0 ka) n + rv (w0 ka) i * b) → (∀ j, j < i → w ka j = w0 ka j) → (∀ j, n ≤ j → w ka j = w0 ka j) → (lf < b) → (∀ jx, jx ≠ ka → w jx = w0 jx) → zMD E B w q0 H → va_S (zA B 15) s.heap H locs → lv_has ls 5 [(0, .ref (B + ka)), (1, .int (iZ (↑b))), (2, .long (lZ (↑lf))), (4, .int (iZ (↑i - 1)))] → W p l e R s m args below meth c H locs 0 0 Q (F0 m 10 ls []) := by
    intro fu
    induction fu with
    | zero => intro i lf w H locs ls hm; exact absurd hm (Nat.not_lt_zero _)
    | succ fu ihL10 =>
      intro i lf w H locs ls hm hi hI hu hu2 hlf fr hZ hS hl
      refine lv_iload hx hb dM_shrink_10 (lv_at hl 3 rfl) ?_
      refine zr_if_lt (tgt := 46) hx hb (by unfold zi; omega) dM_shrink_12 (by decide) (fun c_1 => ?_) (fun c_1 => ?_)
      · have hi0 : i = 0 := by omega
        rw [hi0] at hI
        have hI2 : rv (w ka) n * b + lf = rv (w0 ka) n := by have h9 : rv (w ka) n * b + lf * 1 + 0 = rv (w0 ka) n + 0 * b := hI; omega
        have e1 : rv (w0 ka) 264 = rv (w0 ka) n := rv_drop hn1 hn2
        have e2 : rv (w ka) 264 = rv (w ka) n := rv_drop hn1 (fun j h1 h2 => (hu2 j h1).trans (hn2 j h1 h2))
        have e3 : rv (w0 ka) n / b = rv (w ka) n := by rw [← hI2, Nat.mul_comm, Nat.mul_add_div (by omega), Nat.div_eq_of_lt hlf, Nat.add_zero]
        have e4 : rv (w0 ka) n % b = lf := by rw [← hI2, Nat.mul_comm, Nat.mul_add_mod, Nat.mod_eq_of_lt hlf]
        refine lv_lload_n hx hb dM_shrink_46 rfl (lv_at hl 2 rfl) ?_
        refine zr_l2i hx hb dM_shrink_47 ?_
        exact hend 48 _ (w, q0) _ _ _ dM_shrink_48 (⟨fr, rfl, by rw [e1, e2, e3], by rw [e1, e4]⟩) hZ hS
      · refine lv_lload_n hx hb dM_shrink_15 rfl (lv_at hl 2 rfl) ?_
        refine lv_bipush (v := iZ (16)) hx hb dM_shrink_16 (by decide) ?_
        refine zr_lshl (n := 16) (P := 65536) hx hb (Nat.le_of_ble_eq_true rfl) (p2_16) dM_shrink_18 ?_
        refine lv_aload_n hx hb dM_shrink_19 rfl (lv_at hl 0 rfl) ?_
        refine lv_iload hx hb dM_shrink_20 (lv_at hl 3 rfl) ?_
        rw [show (↑i - 1 : Int) = ((i - 1 : Nat) : Int) by omega]
        refine zm_ld (k := ka) (i := i - 1) hx hb hK hZ (by omega) (by omega) dM_shrink_22 ?_
        have hla := hZ.2 ka (i - 1)
        rw [hu (i - 1) (by omega)] at hla ⊢
        refine zr_i2l hx hb (by unfold zi; omega) dM_shrink_23 ?_
        refine zr_lor (n := 16) (P := 65536) hx hb p2_16 (by omega) (by omega) (by omega) (by omega) dM_shrink_24 ?_
        refine zc_l (y := lZ ((lf * 65536 + w0 ka (i - 1) : Nat) : Int)) (congrArg lZ (by omega)) ?_
        refine lv_lstore_n (lv' := [(2, .long (lZ (((lf * 65536 + w0 ka (i - 1) : Nat) : Int)))), (0, .ref (B + ka)), (1, .int (iZ (↑b))), (4, .int (iZ (↑i - 1)))]) hx hb dM_shrink_25 rfl hl (by decide) rfl (fun ls hl => ?_)
        refine lv_aload_n hx hb dM_shrink_26 rfl (lv_at hl 1 rfl) ?_
        refine lv_iload hx hb dM_shrink_27 (lv_at hl 3 rfl) ?_
        refine lv_lload_n hx hb dM_shrink_29 rfl (lv_at hl 0 rfl) ?_
        refine lv_iload_n hx hb dM_shrink_30 rfl (lv_at hl 2 rfl) ?_
        refine zr_i2l hx hb (by unfold zi; omega) dM_shrink_31 ?_
        refine zr_ldiv hx hb (by unfold zl; omega) (by unfold zl; omega) (by omega) (by omega) dM_shrink_32 ?_
        refine zc_l (y := lZ ((((lf * 65536 + w0 ka (i - 1)) / b : Nat) : Int))) (congrArg lZ (Int.natCast_ediv _ _).symm) ?_
        refine zr_l2i hx hb dM_shrink_33 ?_
        rw [show ((((lf * 65536 + w0 ka (i - 1)) / b : Nat) : Int) : Int) = (((lf * 65536 + w0 ka (i - 1)) / b : Nat) : Int) from rfl]
        rw [show (↑i - 1 : Int) = ((i - 1 : Nat) : Int) by omega]
        refine zm_st (k := ka) (i := i - 1) (x := (lf * 65536 + w0 ka (i - 1)) / b) hx hb hK hZ hS (by omega) (by omega) (by rw [Nat.div_lt_iff_lt_mul (by omega)]; have := Nat.mul_le_mul_left 65536 hlf; omega) dM_shrink_34 (fun H locs hZ hS => ?_)
        have fr : ∀ jx, jx ≠ ka → (mup w ka (i - 1) ((lf * 65536 + w0 ka (i - 1)) / b)) jx = w0 jx := fun jx h0 => (mup_ne _ _ _ h0).trans (fr jx h0)
        refine lv_lload_n hx hb dM_shrink_35 rfl (lv_at hl 0 rfl) ?_
        refine lv_iload_n hx hb dM_shrink_36 rfl (lv_at hl 2 rfl) ?_
        refine zr_i2l hx hb (by unfold zi; omega) dM_shrink_37 ?_
        refine zr_lrem hx hb (by unfold zl; omega) (by unfold zl; omega) (by omega) (by omega) dM_shrink_38 ?_
        refine zc_l (y := lZ ((((lf * 65536 + w0 ka (i - 1)) % b : Nat) : Int))) (congrArg lZ (Int.natCast_emod _ _).symm) ?_
        refine lv_lstore_n (lv' := [(2, .long (lZ ((((lf * 65536 + w0 ka (i - 1)) % b : Nat) : Int)))), (0, .ref (B + ka)), (1, .int (iZ (↑b))), (4, .int (iZ (↑i - 1)))]) hx hb dM_shrink_39 rfl hl (by decide) rfl (fun ls hl => ?_)
        refine lv_iinc (v := iZ (↑i - 1 - 1)) (lv' := [(4, .int (iZ (↑i - 1 - 1))), (2, .long (lZ ((((lf * 65536 + w0 ka (i - 1)) % b : Nat) : Int)))), (0, .ref (B + ka)), (1, .int (iZ (↑b)))]) hx hb dM_shrink_40 hl (k := 3) rfl (iZ_dec _ _) (by decide) rfl (fun ls hl => ?_)
        refine lv_goto (tgt := 10) hx hb dM_shrink_43 (by decide) ?_
        rw [show (↑i - 1 - 1 : Int) = ↑(i - 1) - 1 from by omega] at hl
        exact ihL10 (i - 1) ((lf * 65536 + w0 ka (i - 1)) % b) (mup w ka (i - 1) ((lf * 65536 + w0 ka (i - 1)) / b)) _ _ _ (by omega) (by omega) (by rw [mup_at]; exact rshrink_step2 (by omega) hi hu hI (by rw [Nat.mul_comm _ b]; exact (Nat.div_add_mod _ _).symm)) (fun j hj => by rw [mup_at, va_up_ne _ _ (by omega)]; exact hu j (by omega)) (fun j hj => by rw [mup_at, va_up_ne _ _ (by omega)]; exact hu2 j hj) (Nat.mod_lt _ (by omega)) fr hZ hS (lv_sub hl [2, 3, 1, 0] rfl)
  exact L10 _ n 0 w0 _ _ _ (Nat.lt_succ_self _) (Nat.le_refl _) (by rw [Nat.zero_mul]; omega) (fun _ _ => rfl) (fun _ _ => rfl) (by omega) fr hZ hS (lv_sub hl [2, 3, 1, 0] rfl)
