/-- the character of a digit -/
def dc (d : Nat) : Nat := if d < 10 then 48 + d else 87 + d
theorem dc_lt {d : Nat} (h : d < 36) : dc d < 128 := by unfold dc; split <;> omega
def chat (st : Nat) (g : Nat → Nat) (z : Int) : Nat := if 0 ≤ z ∧ z < 2049 - (st : Int) then g (st + z.toNat) else 0
theorem chat_lt {st : Nat} {g : Nat → Nat} (hg : ∀ i, g i < 128) (z : Int) : chat st g z < 128 := by unfold chat; split; exact hg _; decide
/-- n characters from i on, the first the lowest -/
def txt (st : Nat) (g : Nat → Nat) (i : Int) : Nat → Nat
  | 0 => 0
  | n + 1 => txt st g (i + 1) n * 256 + chat st g i
theorem txt_lt {st : Nat} {g : Nat → Nat} (hg : ∀ i, g i < 128) (i : Int) (n : Nat) : txt st g i (n + 1) < 128 * 256 ^ n := by
  induction n generalizing i with
  | zero => show 0 * 256 + chat st g i < 128 * 1; have := chat_lt (st := st) hg i; omega
  | succ n ih =>
    show txt st g (i + 1) (n + 1) * 256 + chat st g i < _
    have h1 := ih (i + 1)
    have h2 := chat_lt (st := st) hg i
    rw [Nat.pow_succ]
    generalize 256 ^ n = P at *
    omega
theorem i2c_id : ∀ x, x < 128 → ((iZ ((x : Nat) : Int)).toUInt32 % 65536).toInt32 = iZ ((x : Nat) : Int) := by decide +kernel
/-- m digits of q stand below st -/
def dgs (g : Nat → Nat) (st b q m : Nat) : Prop := ∀ j, j < m → g (st - 1 - j) = dc (q / b ^ j % b)
set_option maxHeartbeats 4000000 in
set_option maxRecDepth 100000 in
theorem mG_prepend (l : Launch) (E : zE) (B : Nat) (v0 : Nat → zV) (o : Nat → va_E) (ct0 : Nat) (f0 : Nat → Nat) (ch : Nat) (hch : ch < 128) (h1 : 1 ≤ ct0) (h2 : ct0 ≤ 2049) :
    Met l yG_prepend (zws yG_prepend cG_prepend 2 none) { frames := 0, cells := 0, slots := 0, locals := 0 } (zPc E (zD E B v0 (zg E B o ct0 f0)) [.ref (B + 76), .int (iZ (↑ch))]) (va_Qv (fun u : (Nat → zV) × Nat × (Nat → Nat) => u = (v0, ct0 - 1, va_up f0 (ct0 - 1) ch)) (fun (u : (Nat → zV) × Nat × (Nat → Nat)) t => zD E B u.1 (zg E B o u.2.1 u.2.2) t.heap ∧ zK E t) (zA B 80)) 0 0 (zA B 80) := by
  refine zof_v (P' := fun (u : (Nat → zV) × Nat × (Nat → Nat)) H => zD E B u.1 (zg E B o u.2.1 u.2.2) H) (by decide) (Nat.le_of_ble_eq_true rfl) fun p e R s m args below meth c Q ls hR hx hb hml ht hown hK hZ hl hend => ?_
  have hS : va_S (zA B 80) s.heap s.heap [] := va_S.rf
  have hown : s.vm.findClass "WholeDesk$Writing" = some m.cls := hown
  have hl : lv_has ls 2 [(0, .ref (B + 76)), (1, .int (iZ (↑ch)))] := hl
  refine lv_aload_n hx hb dG_prepend_0 rfl (lv_at hl 0 rfl) ?_
  refine zg_start hx hb ht hown hK hZ tw_118 dG_prepend_1 ?_
  refine zr_if_le (tgt := 38) hx hb (by unfold zi; omega) dG_prepend_4 (by decide) (fun c_1 => ?_) (fun c_1 => ?_)
  · exfalso; omega
  · refine lv_aload_n hx hb dG_prepend_7 rfl (lv_at hl 0 rfl) ?_
    refine zg_start hx hb ht hown hK hZ tw_118 dG_prepend_8 ?_
    refine lv_sipush (v := iZ (2049)) hx hb dG_prepend_11 (by decide) ?_
    refine zr_icmp_gt (tgt := 38) hx hb (by unfold zi; omega) (by unfold zi; omega) dG_prepend_14 (by decide) (fun c_2 => ?_) (fun c_2 => ?_)
    · exfalso; omega
    · refine lv_aload_n hx hb dG_prepend_17 rfl (lv_at hl 0 rfl) ?_
      refine lv_dup hx hb dG_prepend_18 rfl ?_
      refine zg_start hx hb ht hown hK hZ tw_118 dG_prepend_19 ?_
      refine lv_iconst (v := iZ (1)) hx hb dG_prepend_22 (by decide) ?_
      refine zr_isub hx hb dG_prepend_23 ?_
      rw [show (↑ct0 - 1 : Int) = ((ct0 - 1 : Nat) : Int) from by omega]
      refine zg_put_start (ct1 := ct0 - 1) hx hb ht hown hK hZ hS tw_118 dG_prepend_24 (fun H locs hZ hS => ?_)
      refine lv_aload_n hx hb dG_prepend_27 rfl (lv_at hl 0 rfl) ?_
      refine zg_row hx hb ht hown hK hZ tw_117 dG_prepend_28 ?_
      refine lv_aload_n hx hb dG_prepend_31 rfl (lv_at hl 0 rfl) ?_
      refine zg_start hx hb ht hown hK hZ tw_118 dG_prepend_32 ?_
      refine lv_iload_n hx hb dG_prepend_35 rfl (lv_at hl 1 rfl) ?_
      refine lv_i2b hx hb dG_prepend_36 (i2b_sb _) ?_
      rw [show (sb (((↑ch) : Int) % 256).toNat : Int) = sb (ch) from by unfold sb; rw [if_pos (by omega), if_pos hch]; omega]
      rw [show (↑(ct0 - 1) : Int) = ((ct0 - 1 : Nat) : Int) by omega]
      refine zg_st (i := ct0 - 1) (x := ch) hx hb hK hZ hS (by omega) (by omega) dG_prepend_37 (fun H locs hZ hS => ?_)
      exact hend 38 (v0, ct0 - 1, va_up f0 (ct0 - 1) ch) _ _ _ dG_prepend_38 (rfl) hZ hS

/-- how many digits a limb holds -/
def dil (b k : Nat) : Prop := b ^ k < 268435456 ∧ 268435456 ≤ b ^ (k + 1) ∧ 1 ≤ k ∧ k ≤ 27
theorem dil_27 {b k : Nat} (hb : 2 ≤ b) (h : b ^ k < 268435456) : k ≤ 27 := by
  rcases Nat.lt_or_ge k 28 with h9 | h9
  · omega
  · have h1 := Nat.pow_le_pow_left hb k
    have h2 := Nat.pow_le_pow_right (show 0 < 2 by decide) h9
    omega
set_option maxHeartbeats 4000000 in
set_option maxRecDepth 100000 in
theorem mG_digitsInLimb (l : Launch) (E : zE) (B : Nat) (v0 : Nat → zV) (o : Nat → va_E) (b : Nat) (hbs : 2 ≤ b ∧ b ≤ 36) :
    Met l yG_digitsInLimb (zws yG_digitsInLimb cG_digitsInLimb 4 (some .int)) { frames := 0, cells := 0, slots := 0, locals := 0 } (zPc E (zD E B v0 o) [.int (iZ (↑b))]) (va_Qi (fun (r : Int32) (v : Nat → zV) => v = v0 ∧ ∃ k : Nat, r = iZ ↑k ∧ dil b k) (fun v t => zD E B v o t.heap ∧ zK E t) (zA B 80)) 0 0 (zA B 80) := by
  refine zof_i (by decide) (Nat.le_of_ble_eq_true rfl) fun p e R s m args below meth c Q ls hR hx hb hml ht hown hK hZ hl hend => ?_
  have hS : va_S (zA B 80) s.heap s.heap [] := va_S.rf
  have hown : s.vm.findClass "WholeDesk$Writing" = some m.cls := hown
  have hl : lv_has ls 4 [(0, .int (iZ (↑b)))] := hl
  refine lv_iconst (v := iZ (0)) hx hb dG_digitsInLimb_0 (by decide) ?_
  refine lv_istore_n (lv' := [(1, .int (iZ (0))), (0, .int (iZ (↑b)))]) hx hb dG_digitsInLimb_1 rfl hl (by decide) rfl (fun ls hl => ?_)
  refine lv_iload_n hx hb dG_digitsInLimb_2 rfl (lv_at hl 1 rfl) ?_
  refine zr_i2l hx hb (by unfold zi; omega) dG_digitsInLimb_3 ?_
  refine zc_l (y := lZ (((b ^ (0 + 1) : Nat) : Int))) (congrArg lZ (by rw [Nat.zero_add, Nat.pow_one])) ?_
  refine lv_lstore_n (lv' := [(2, .long (lZ (((b ^ (0 + 1) : Nat) : Int)))), (1, .int (iZ (0))), (0, .int (iZ (↑b)))]) hx hb dG_digitsInLimb_4 rfl hl (by decide) rfl (fun ls hl => ?_)
  have L5 : ∀ (fu : Nat) (k : Nat) (H : Heap) (locs : List Loc) (ls : Array Slot), 28 - k < fu → (k ≤ 27 ∧ b ^ k < 268435456) → zD E B v0 o H → va_S (zA B 80) s.heap H locs → lv_has ls 4 [(0, .int (iZ (↑b))), (1, .int (iZ (↑k))), (2, .long (lZ (((b ^ (k + 1) : Nat) : Int))))] → W p l e R s m args below meth c H locs 0 0 Q (F0 m 5 ls []) := by
    intro fu
    induction fu with
    | zero => intro k H locs ls hm; exact absurd hm (Nat.not_lt_zero _)
    | succ fu ihL5 =>
      intro k H locs ls hm hk  hZ hS hl
      refine lv_lload_n hx hb dG_digitsInLimb_5 rfl (lv_at hl 2 rfl) ?_
      refine lv_ldc2 (v := lZ (268435455)) hx hb hown (ht _ tw_660) dG_digitsInLimb_6 ?_
      have hp1 : b ^ (k + 1) = b ^ k * b := Nat.pow_succ _ _
      have hp2 : b ^ k * b ≤ b ^ k * 36 := Nat.mul_le_mul_left _ hbs.2
      refine zr_lcmp_gt (tgt := 30) hx hb (by unfold zl; omega) (by unfold zl; omega) dG_digitsInLimb_9 dG_digitsInLimb_10 (by decide) (fun c_1 => ?_) (fun c_1 => ?_)
      · have hk1 : 1 ≤ k := by
          rcases Nat.eq_zero_or_pos k with h9 | h9
          · have h8 : b ^ (k + 1) = b := by rw [h9, Nat.zero_add, Nat.pow_one]
            omega
          · exact h9
        refine lv_iload_n hx hb dG_digitsInLimb_30 rfl (lv_at hl 1 rfl) ?_
        exact hend 31 (_) v0 _ _ _ dG_digitsInLimb_31 (⟨rfl, k, rfl, hk.2, by omega, hk1, hk.1⟩) hZ hS
      · have hlt : b ^ (k + 1) < 268435456 := by omega
        refine lv_iload_n hx hb dG_digitsInLimb_13 rfl (lv_at hl 1 rfl) ?_
        refine lv_bipush (v := iZ (28)) hx hb dG_digitsInLimb_14 (by decide) ?_
        refine zr_icmp_ge (tgt := 30) hx hb (by unfold zi; omega) (by unfold zi; omega) dG_digitsInLimb_16 (by decide) (fun c_2 => ?_) (fun c_2 => ?_)
        · exfalso; omega
        · refine lv_lload_n hx hb dG_digitsInLimb_19 rfl (lv_at hl 2 rfl) ?_
          refine lv_iload_n hx hb dG_digitsInLimb_20 rfl (lv_at hl 0 rfl) ?_
          refine zr_i2l hx hb (by unfold zi; omega) dG_digitsInLimb_21 ?_
          refine zr_lmul hx hb dG_digitsInLimb_22 ?_
          refine zc_l (y := lZ (((b ^ (k + 1 + 1) : Nat) : Int))) (congrArg lZ (by rw [Nat.pow_succ b (k + 1), Int.natCast_mul])) ?_
          refine lv_lstore_n (lv' := [(2, .long (lZ (((b ^ (k + 1 + 1) : Nat) : Int)))), (0, .int (iZ (↑b))), (1, .int (iZ (↑k)))]) hx hb dG_digitsInLimb_23 rfl hl (by decide) rfl (fun ls hl => ?_)
          refine lv_iinc (v := iZ (↑k + 1)) (lv' := [(1, .int (iZ (↑k + 1))), (2, .long (lZ (((b ^ (k + 1 + 1) : Nat) : Int)))), (0, .int (iZ (↑b)))]) hx hb dG_digitsInLimb_24 hl (k := 2) rfl (iZ_add _ _) (by decide) rfl (fun ls hl => ?_)
          refine lv_goto (tgt := 5) hx hb dG_digitsInLimb_27 (by decide) ?_
          rw [show (↑k + 1 : Int) = ↑(k + 1) from by omega] at hl
          rw [show (((b ^ (k + 1 + 1) : Nat) : Int) : Int) = ((b ^ (k + 1 + 1) : Nat) : Int) from by omega] at hl
          exact ihL5 (k + 1)  _ _ _ (by omega) (⟨dil_27 hbs.1 hlt, hlt⟩)  hZ hS (lv_sub hl [2, 0, 1] rfl)
  exact L5 _ 0  _ _ _ (Nat.lt_succ_self _) (⟨by decide, by rw [Nat.pow_zero]; decide⟩)  hZ hS (lv_sub hl [2, 1, 0] rfl)

theorem dgs_s {g : Nat → Nat} {st b q m : Nat} (h : dgs g st b q m) (hm : m < st) : dgs (va_up g (st - m - 1) (dc (q / b ^ m % b))) st b q (m + 1) := by
  intro j hj
  by_cases h9 : j = m
  · subst h9
    rw [show st - 1 - j = st - j - 1 by omega, va_up_self]
  · rw [va_up_ne _ _ (by omega)]
    exact h j (by omega)
theorem dv_s (q b m : Nat) : q / b ^ m / b = q / b ^ (m + 1) := by rw [Nat.div_div_eq_div_mul, ← Nat.pow_succ]
theorem dc_v {d : Nat} : (if d < 10 then 48 + d else 87 + d) = dc d := rfl
set_option maxHeartbeats 4000000 in
set_option maxRecDepth 100000 in
theorem mG_prependDigits (l : Launch) (E : zE) (B : Nat) (v0 : Nat → zV) (o : Nat → va_E) (ct0 : Nat) (f0 : Nat → Nat) (pt b lst M : Nat) (hbs : 2 ≤ b ∧ b ≤ 36) (hpt : pt < b ^ M) (hp28 : pt < 268435456) (hl1 : 1 ≤ lst) (hlM : lst ≤ M) (hM : M ≤ 28) (hMs : M ≤ ct0) (hst : ct0 ≤ 2049) (hg : ∀ i, f0 i < 128) :
    Met l yG_prependDigits (zws yG_prependDigits cG_prependDigits 9 none) { frames := 1, cells := 0, slots := 0, locals := 40 } (zPc E (zD E B v0 (zg E B o ct0 f0)) [.ref (B + 76), .long (lZ (↑pt)), .int (iZ (↑b)), .int (iZ (↑lst))]) (va_Qv (fun u : (Nat → zV) × Nat × (Nat → Nat) => ∃ m g1, lst ≤ m ∧ m ≤ M ∧ pt < b ^ m ∧ (lst < m → b ^ (m - 1) ≤ pt) ∧ u = (v0, ct0 - m, g1) ∧ dgs g1 ct0 b pt m ∧ (∀ i, ct0 ≤ i → g1 i = f0 i) ∧ (∀ i, g1 i < 128)) (fun (u : (Nat → zV) × Nat × (Nat → Nat)) t => zD E B u.1 (zg E B o u.2.1 u.2.2) t.heap ∧ zK E t) (zA B 80)) 0 0 (zA B 80) := by
  refine zof_v (P' := fun (u : (Nat → zV) × Nat × (Nat → Nat)) H => zD E B u.1 (zg E B o u.2.1 u.2.2) H) (by decide) (Nat.le_of_ble_eq_true rfl) fun p e R s m args below meth c Q ls hR hx hb hml ht hown hK hZ hl hend => ?_
  have hS : va_S (zA B 80) s.heap s.heap [] := va_S.rf
  have hown : s.vm.findClass "WholeDesk$Writing" = some m.cls := hown
  have hl : lv_has ls 9 [(0, .ref (B + 76)), (1, .long (lZ (↑pt))), (3, .int (iZ (↑b))), (4, .int (iZ (↑lst)))] := hl
  refine lv_iload_n hx hb dG_prependDigits_0 rfl (lv_at hl 2 rfl) ?_
  refine lv_iconst (v := iZ (2)) hx hb dG_prependDigits_1 (by decide) ?_
  refine zr_icmp_ge (tgt := 6) hx hb (by unfold zi; omega) (by unfold zi; omega) dG_prependDigits_2 (by decide) (fun c_1 => ?_) (fun c_1 => ?_)
  · refine lv_lload_n hx hb dG_prependDigits_6 rfl (lv_at hl 1 rfl) ?_
    refine lv_lstore (lv' := [(5, .long (lZ (↑pt))), (0, .ref (B + 76)), (1, .long (lZ (↑pt))), (3, .int (iZ (↑b))), (4, .int (iZ (↑lst)))]) hx hb dG_prependDigits_7 hl (by decide) rfl (fun ls hl => ?_)
    have hZ : zD E B v0 (zg E B o (ct0 - 0) f0) s.heap := hZ
    refine lv_iconst (v := iZ (0)) hx hb dG_prependDigits_9 (by decide) ?_
    refine lv_istore (lv' := [(7, .int (iZ (0))), (5, .long (lZ (↑pt))), (0, .ref (B + 76)), (1, .long (lZ (↑pt))), (3, .int (iZ (↑b))), (4, .int (iZ (↑lst)))]) hx hb dG_prependDigits_10 hl (by decide) rfl (fun ls hl => ?_)
    have L12 : ∀ (fu : Nat) (i : Nat) (g1 : Nat → Nat) (H : Heap) (locs : List Loc) (ls : Array Slot), 28 - i < fu → (i ≤ M) → (lst < i → b ^ (i - 1) ≤ pt) → (dgs g1 ct0 b pt i) → (∀ q, ct0 ≤ q → g1 q = f0 q) → (∀ q, g1 q < 128) → zD E B v0 (zg E B o (ct0 - i) g1) H → va_S (zA B 80) s.heap H locs → lv_has ls 9 [(0, .ref (B + 76)), (3, .int (iZ (↑b))), (4, .int (iZ (↑lst))), (5, .long (lZ (((pt / b ^ i : Nat) : Int)))), (7, .int (iZ (↑i)))] → W p l e R s m args below meth c H locs 0 0 Q (F0 m 12 ls []) := by
      intro fu
      induction fu with
      | zero => intro i g1 H locs ls hm; exact absurd hm (Nat.not_lt_zero _)
      | succ fu ihL12 =>
        intro i g1 H locs ls hm hi hn hd hk h128  hZ hS hl
        have hle9 := Nat.div_le_self pt (b ^ i)
        obtain ⟨y, hy⟩ : ∃ y, y = pt / b ^ i := ⟨_, rfl⟩
        rw [← hy] at hl hle9
        refine lv_iload hx hb dG_prependDigits_12 (lv_at hl 4 rfl) ?_
        refine lv_bipush (v := iZ (28)) hx hb dG_prependDigits_14 (by decide) ?_
        refine zr_icmp_ge (tgt := 82) hx hb (by unfold zi; omega) (by unfold zi; omega) dG_prependDigits_16 (by decide) (fun c_2 => ?_) (fun c_2 => ?_)
        · have hfin : lst ≤ i ∧ pt < b ^ i := by
            refine ⟨by omega, ?_⟩
            rcases Nat.lt_or_ge pt (b ^ i) with h8 | h8
            · exact h8
            · exfalso
              have h7 := Nat.div_pos h8 (Nat.pow_pos (show 0 < b by omega))
              rw [← hy] at h7
              first | omega | (have h6 := Nat.lt_of_lt_of_le hpt (Nat.pow_le_pow_right (show 0 < b by omega) (show M ≤ i by omega)); omega)
          exact hend 82 (v0, ct0 - i, g1) _ _ _ dG_prependDigits_82 (⟨i, g1, hfin.1, hi, hfin.2, hn, rfl, hd, hk, h128⟩) hZ hS
        · refine lv_iload hx hb dG_prependDigits_19 (lv_at hl 4 rfl) ?_
          refine lv_iload hx hb dG_prependDigits_21 (lv_at hl 2 rfl) ?_
          refine zr_icmp_lt (tgt := 33) hx hb (by unfold zi; omega) (by unfold zi; omega) dG_prependDigits_23 (by decide) (fun c_3 => ?_) (fun c_3 => ?_)
          · have hiM : i < M := by
              rcases Nat.lt_or_ge i M with h9 | h9
              · exact h9
              · exfalso
                have h8 := Nat.div_eq_of_lt (Nat.lt_of_lt_of_le hpt (Nat.pow_le_pow_right (show 0 < b by omega) h9))
                rw [← hy] at h8
                omega
            have hi1 : i + 1 ≤ M := hiM
            have hn1 : lst < i + 1 → b ^ (i + 1 - 1) ≤ pt := by
              intro h9
              rw [Nat.add_sub_cancel]
              rcases Nat.lt_or_ge pt (b ^ i) with h8 | h8
              · exfalso; have h7 := Nat.div_eq_of_lt h8; rw [← hy] at h7; omega
              · exact h8
            have hml9 := Nat.mod_lt y (show 0 < b by omega)
            refine lv_lload hx hb dG_prependDigits_33 (lv_at hl 3 rfl) ?_
            refine lv_iload_n hx hb dG_prependDigits_35 rfl (lv_at hl 1 rfl) ?_
            refine zr_i2l hx hb (by unfold zi; omega) dG_prependDigits_36 ?_
            refine zr_lrem hx hb (by unfold zl; omega) (by unfold zl; omega) (by omega) (by omega) dG_prependDigits_37 ?_
            refine zc_l (y := lZ (((y % b : Nat) : Int))) (congrArg lZ (Int.natCast_emod _ _).symm) ?_
            refine zr_l2i hx hb dG_prependDigits_38 ?_
            refine lv_istore (lv' := [(8, .int (iZ (((y % b : Nat) : Int)))), (0, .ref (B + 76)), (3, .int (iZ (↑b))), (4, .int (iZ (↑lst))), (5, .long (lZ (↑y))), (7, .int (iZ (↑i)))]) hx hb dG_prependDigits_39 hl (by decide) rfl (fun ls hl => ?_)
            refine lv_aload_n hx hb dG_prependDigits_41 rfl (lv_at hl 1 rfl) ?_
            refine lv_iload hx hb dG_prependDigits_42 (lv_at hl 0 rfl) ?_
            refine lv_bipush (v := iZ (10)) hx hb dG_prependDigits_44 (by decide) ?_
            refine zr_icmp_ge (tgt := 57) hx hb (by unfold zi; omega) (by unfold zi; omega) dG_prependDigits_46 (by decide) (fun c_4 => ?_) (fun c_4 => ?_)
            · refine lv_bipush (v := iZ (97)) hx hb dG_prependDigits_57 (by decide) ?_
              refine lv_iload hx hb dG_prependDigits_59 (lv_at hl 0 rfl) ?_
              refine zr_iadd hx hb dG_prependDigits_61 ?_
              refine lv_bipush (v := iZ (10)) hx hb dG_prependDigits_62 (by decide) ?_
              refine zr_isub hx hb dG_prependDigits_64 ?_
              refine zc_i (y := iZ ((dc (y % b) : Nat) : Int)) (congrArg iZ (by unfold dc; split <;> omega)) ?_
              refine lv_i2c hx hb dG_prependDigits_65 (i2c_id _ (dc_lt (by omega))) ?_
              refine zcV_v 1 (As := [.int (iZ (↑(dc (y % b))))]) (rest := []) rfl ⟨hx, hb, hml, hown, ht⟩ (mG_prepend l E B v0 o (ct0 - i) g1 (dc (y % b)) (dc_lt (by omega)) (by omega) (by omega)) tw_670 tw_667 tw_669 tp_11 tw_5 qG_prepend (by rw [hR]; decide) (zg_recv hK hZ) hZ hK hl.1 rfl rfl (Nat.le_of_ble_eq_true rfl) dG_prependDigits_66 ⟨Nat.zero_le _, Nat.zero_le _⟩ hS (fun u H locs hp hZ _ hS => ?_)
              subst hp
              dsimp only at hZ
              refine lv_lload hx hb dG_prependDigits_69 (lv_at hl 4 rfl) ?_
              refine lv_iload_n hx hb dG_prependDigits_71 rfl (lv_at hl 2 rfl) ?_
              refine zr_i2l hx hb (by unfold zi; omega) dG_prependDigits_72 ?_
              refine zr_ldiv hx hb (by unfold zl; omega) (by unfold zl; omega) (by omega) (by omega) dG_prependDigits_73 ?_
              refine zc_l (y := lZ (((pt / b ^ (i + 1) : Nat) : Int))) (congrArg lZ (by rw [← dv_s, ← hy, Int.natCast_ediv])) ?_
              refine lv_lstore (lv' := [(5, .long (lZ (((pt / b ^ (i + 1) : Nat) : Int)))), (8, .int (iZ (((y % b : Nat) : Int)))), (0, .ref (B + 76)), (3, .int (iZ (↑b))), (4, .int (iZ (↑lst))), (7, .int (iZ (↑i)))]) hx hb dG_prependDigits_74 hl (by decide) rfl (fun ls hl => ?_)
              refine lv_iinc (v := iZ (↑i + 1)) (lv' := [(7, .int (iZ (↑i + 1))), (5, .long (lZ (((pt / b ^ (i + 1) : Nat) : Int)))), (8, .int (iZ (((y % b : Nat) : Int)))), (0, .ref (B + 76)), (3, .int (iZ (↑b))), (4, .int (iZ (↑lst)))]) hx hb dG_prependDigits_76 hl (k := 5) rfl (iZ_add _ _) (by decide) rfl (fun ls hl => ?_)
              refine lv_goto (tgt := 12) hx hb dG_prependDigits_79 (by decide) ?_
              rw [show (↑i + 1 : Int) = ↑(i + 1) from by omega] at hl
              exact ihL12 (i + 1) (va_up g1 (ct0 - i - 1) (dc (y % b))) _ _ _ (by omega) (hi1) (hn1) (by rw [hy]; exact dgs_s hd (by omega)) (fun q hq => by rw [va_up_ne _ _ (by omega)]; exact hk q hq) (fun q => by by_cases h9 : q = ct0 - i - 1; rw [h9, va_up_self]; exact dc_lt (by omega); rw [va_up_ne _ _ h9]; exact h128 q)  hZ hS (lv_sub hl [3, 4, 5, 1, 0] rfl)
            · refine lv_bipush (v := iZ (48)) hx hb dG_prependDigits_49 (by decide) ?_
              refine lv_iload hx hb dG_prependDigits_51 (lv_at hl 0 rfl) ?_
              refine zr_iadd hx hb dG_prependDigits_53 ?_
              refine lv_goto (tgt := 65) hx hb dG_prependDigits_54 (by decide) ?_
              refine zc_i (y := iZ ((dc (y % b) : Nat) : Int)) (congrArg iZ (by unfold dc; split <;> omega)) ?_
              refine lv_i2c hx hb dG_prependDigits_65 (i2c_id _ (dc_lt (by omega))) ?_
              refine zcV_v 1 (As := [.int (iZ (↑(dc (y % b))))]) (rest := []) rfl ⟨hx, hb, hml, hown, ht⟩ (mG_prepend l E B v0 o (ct0 - i) g1 (dc (y % b)) (dc_lt (by omega)) (by omega) (by omega)) tw_670 tw_667 tw_669 tp_11 tw_5 qG_prepend (by rw [hR]; decide) (zg_recv hK hZ) hZ hK hl.1 rfl rfl (Nat.le_of_ble_eq_true rfl) dG_prependDigits_66 ⟨Nat.zero_le _, Nat.zero_le _⟩ hS (fun u H locs hp hZ _ hS => ?_)
              subst hp
              dsimp only at hZ
              refine lv_lload hx hb dG_prependDigits_69 (lv_at hl 4 rfl) ?_
              refine lv_iload_n hx hb dG_prependDigits_71 rfl (lv_at hl 2 rfl) ?_
              refine zr_i2l hx hb (by unfold zi; omega) dG_prependDigits_72 ?_
              refine zr_ldiv hx hb (by unfold zl; omega) (by unfold zl; omega) (by omega) (by omega) dG_prependDigits_73 ?_
              refine zc_l (y := lZ (((pt / b ^ (i + 1) : Nat) : Int))) (congrArg lZ (by rw [← dv_s, ← hy, Int.natCast_ediv])) ?_
              refine lv_lstore (lv' := [(5, .long (lZ (((pt / b ^ (i + 1) : Nat) : Int)))), (8, .int (iZ (((y % b : Nat) : Int)))), (0, .ref (B + 76)), (3, .int (iZ (↑b))), (4, .int (iZ (↑lst))), (7, .int (iZ (↑i)))]) hx hb dG_prependDigits_74 hl (by decide) rfl (fun ls hl => ?_)
              refine lv_iinc (v := iZ (↑i + 1)) (lv' := [(7, .int (iZ (↑i + 1))), (5, .long (lZ (((pt / b ^ (i + 1) : Nat) : Int)))), (8, .int (iZ (((y % b : Nat) : Int)))), (0, .ref (B + 76)), (3, .int (iZ (↑b))), (4, .int (iZ (↑lst)))]) hx hb dG_prependDigits_76 hl (k := 5) rfl (iZ_add _ _) (by decide) rfl (fun ls hl => ?_)
              refine lv_goto (tgt := 12) hx hb dG_prependDigits_79 (by decide) ?_
              rw [show (↑i + 1 : Int) = ↑(i + 1) from by omega] at hl
              exact ihL12 (i + 1) (va_up g1 (ct0 - i - 1) (dc (y % b))) _ _ _ (by omega) (hi1) (hn1) (by rw [hy]; exact dgs_s hd (by omega)) (fun q hq => by rw [va_up_ne _ _ (by omega)]; exact hk q hq) (fun q => by by_cases h9 : q = ct0 - i - 1; rw [h9, va_up_self]; exact dc_lt (by omega); rw [va_up_ne _ _ h9]; exact h128 q)  hZ hS (lv_sub hl [3, 4, 5, 1, 0] rfl)
          · refine lv_lload hx hb dG_prependDigits_26 (lv_at hl 3 rfl) ?_
            refine lv_lconst (v := lZ (0)) hx hb dG_prependDigits_28 (by decide) ?_
            refine zr_lcmp_le (tgt := 82) hx hb (by unfold zl; omega) (by unfold zl; omega) dG_prependDigits_29 dG_prependDigits_30 (by decide) (fun c_5 => ?_) (fun c_5 => ?_)
            · have hfin : lst ≤ i ∧ pt < b ^ i := by
                refine ⟨by omega, ?_⟩
                rcases Nat.lt_or_ge pt (b ^ i) with h8 | h8
                · exact h8
                · exfalso
                  have h7 := Nat.div_pos h8 (Nat.pow_pos (show 0 < b by omega))
                  rw [← hy] at h7
                  first | omega | (have h6 := Nat.lt_of_lt_of_le hpt (Nat.pow_le_pow_right (show 0 < b by omega) (show M ≤ i by omega)); omega)
              exact hend 82 (v0, ct0 - i, g1) _ _ _ dG_prependDigits_82 (⟨i, g1, hfin.1, hi, hfin.2, hn, rfl, hd, hk, h128⟩) hZ hS
            · have hiM : i < M := by
                rcases Nat.lt_or_ge i M with h9 | h9
                · exact h9
                · exfalso
                  have h8 := Nat.div_eq_of_lt (Nat.lt_of_lt_of_le hpt (Nat.pow_le_pow_right (show 0 < b by omega) h9))
                  rw [← hy] at h8
                  omega
              have hi1 : i + 1 ≤ M := hiM
              have hn1 : lst < i + 1 → b ^ (i + 1 - 1) ≤ pt := by
                intro h9
                rw [Nat.add_sub_cancel]
                rcases Nat.lt_or_ge pt (b ^ i) with h8 | h8
                · exfalso; have h7 := Nat.div_eq_of_lt h8; rw [← hy] at h7; omega
                · exact h8
              have hml9 := Nat.mod_lt y (show 0 < b by omega)
              refine lv_lload hx hb dG_prependDigits_33 (lv_at hl 3 rfl) ?_
              refine lv_iload_n hx hb dG_prependDigits_35 rfl (lv_at hl 1 rfl) ?_
              refine zr_i2l hx hb (by unfold zi; omega) dG_prependDigits_36 ?_
              refine zr_lrem hx hb (by unfold zl; omega) (by unfold zl; omega) (by omega) (by omega) dG_prependDigits_37 ?_
              refine zc_l (y := lZ (((y % b : Nat) : Int))) (congrArg lZ (Int.natCast_emod _ _).symm) ?_
              refine zr_l2i hx hb dG_prependDigits_38 ?_
              refine lv_istore (lv' := [(8, .int (iZ (((y % b : Nat) : Int)))), (0, .ref (B + 76)), (3, .int (iZ (↑b))), (4, .int (iZ (↑lst))), (5, .long (lZ (↑y))), (7, .int (iZ (↑i)))]) hx hb dG_prependDigits_39 hl (by decide) rfl (fun ls hl => ?_)
              refine lv_aload_n hx hb dG_prependDigits_41 rfl (lv_at hl 1 rfl) ?_
              refine lv_iload hx hb dG_prependDigits_42 (lv_at hl 0 rfl) ?_
              refine lv_bipush (v := iZ (10)) hx hb dG_prependDigits_44 (by decide) ?_
              refine zr_icmp_ge (tgt := 57) hx hb (by unfold zi; omega) (by unfold zi; omega) dG_prependDigits_46 (by decide) (fun c_6 => ?_) (fun c_6 => ?_)
              · refine lv_bipush (v := iZ (97)) hx hb dG_prependDigits_57 (by decide) ?_
                refine lv_iload hx hb dG_prependDigits_59 (lv_at hl 0 rfl) ?_
                refine zr_iadd hx hb dG_prependDigits_61 ?_
                refine lv_bipush (v := iZ (10)) hx hb dG_prependDigits_62 (by decide) ?_
                refine zr_isub hx hb dG_prependDigits_64 ?_
                refine zc_i (y := iZ ((dc (y % b) : Nat) : Int)) (congrArg iZ (by unfold dc; split <;> omega)) ?_
                refine lv_i2c hx hb dG_prependDigits_65 (i2c_id _ (dc_lt (by omega))) ?_
                refine zcV_v 1 (As := [.int (iZ (↑(dc (y % b))))]) (rest := []) rfl ⟨hx, hb, hml, hown, ht⟩ (mG_prepend l E B v0 o (ct0 - i) g1 (dc (y % b)) (dc_lt (by omega)) (by omega) (by omega)) tw_670 tw_667 tw_669 tp_11 tw_5 qG_prepend (by rw [hR]; decide) (zg_recv hK hZ) hZ hK hl.1 rfl rfl (Nat.le_of_ble_eq_true rfl) dG_prependDigits_66 ⟨Nat.zero_le _, Nat.zero_le _⟩ hS (fun u H locs hp hZ _ hS => ?_)
                subst hp
                dsimp only at hZ
                refine lv_lload hx hb dG_prependDigits_69 (lv_at hl 4 rfl) ?_
                refine lv_iload_n hx hb dG_prependDigits_71 rfl (lv_at hl 2 rfl) ?_
                refine zr_i2l hx hb (by unfold zi; omega) dG_prependDigits_72 ?_
                refine zr_ldiv hx hb (by unfold zl; omega) (by unfold zl; omega) (by omega) (by omega) dG_prependDigits_73 ?_
                refine zc_l (y := lZ (((pt / b ^ (i + 1) : Nat) : Int))) (congrArg lZ (by rw [← dv_s, ← hy, Int.natCast_ediv])) ?_
                refine lv_lstore (lv' := [(5, .long (lZ (((pt / b ^ (i + 1) : Nat) : Int)))), (8, .int (iZ (((y % b : Nat) : Int)))), (0, .ref (B + 76)), (3, .int (iZ (↑b))), (4, .int (iZ (↑lst))), (7, .int (iZ (↑i)))]) hx hb dG_prependDigits_74 hl (by decide) rfl (fun ls hl => ?_)
                refine lv_iinc (v := iZ (↑i + 1)) (lv' := [(7, .int (iZ (↑i + 1))), (5, .long (lZ (((pt / b ^ (i + 1) : Nat) : Int)))), (8, .int (iZ (((y % b : Nat) : Int)))), (0, .ref (B + 76)), (3, .int (iZ (↑b))), (4, .int (iZ (↑lst)))]) hx hb dG_prependDigits_76 hl (k := 5) rfl (iZ_add _ _) (by decide) rfl (fun ls hl => ?_)
                refine lv_goto (tgt := 12) hx hb dG_prependDigits_79 (by decide) ?_
                rw [show (↑i + 1 : Int) = ↑(i + 1) from by omega] at hl
                exact ihL12 (i + 1) (va_up g1 (ct0 - i - 1) (dc (y % b))) _ _ _ (by omega) (hi1) (hn1) (by rw [hy]; exact dgs_s hd (by omega)) (fun q hq => by rw [va_up_ne _ _ (by omega)]; exact hk q hq) (fun q => by by_cases h9 : q = ct0 - i - 1; rw [h9, va_up_self]; exact dc_lt (by omega); rw [va_up_ne _ _ h9]; exact h128 q)  hZ hS (lv_sub hl [3, 4, 5, 1, 0] rfl)
              · refine lv_bipush (v := iZ (48)) hx hb dG_prependDigits_49 (by decide) ?_
                refine lv_iload hx hb dG_prependDigits_51 (lv_at hl 0 rfl) ?_
                refine zr_iadd hx hb dG_prependDigits_53 ?_
                refine lv_goto (tgt := 65) hx hb dG_prependDigits_54 (by decide) ?_
                refine zc_i (y := iZ ((dc (y % b) : Nat) : Int)) (congrArg iZ (by unfold dc; split <;> omega)) ?_
                refine lv_i2c hx hb dG_prependDigits_65 (i2c_id _ (dc_lt (by omega))) ?_
                refine zcV_v 1 (As := [.int (iZ (↑(dc (y % b))))]) (rest := []) rfl ⟨hx, hb, hml, hown, ht⟩ (mG_prepend l E B v0 o (ct0 - i) g1 (dc (y % b)) (dc_lt (by omega)) (by omega) (by omega)) tw_670 tw_667 tw_669 tp_11 tw_5 qG_prepend (by rw [hR]; decide) (zg_recv hK hZ) hZ hK hl.1 rfl rfl (Nat.le_of_ble_eq_true rfl) dG_prependDigits_66 ⟨Nat.zero_le _, Nat.zero_le _⟩ hS (fun u H locs hp hZ _ hS => ?_)
                subst hp
                dsimp only at hZ
                refine lv_lload hx hb dG_prependDigits_69 (lv_at hl 4 rfl) ?_
                refine lv_iload_n hx hb dG_prependDigits_71 rfl (lv_at hl 2 rfl) ?_
                refine zr_i2l hx hb (by unfold zi; omega) dG_prependDigits_72 ?_
                refine zr_ldiv hx hb (by unfold zl; omega) (by unfold zl; omega) (by omega) (by omega) dG_prependDigits_73 ?_
                refine zc_l (y := lZ (((pt / b ^ (i + 1) : Nat) : Int))) (congrArg lZ (by rw [← dv_s, ← hy, Int.natCast_ediv])) ?_
                refine lv_lstore (lv' := [(5, .long (lZ (((pt / b ^ (i + 1) : Nat) : Int)))), (8, .int (iZ (((y % b : Nat) : Int)))), (0, .ref (B + 76)), (3, .int (iZ (↑b))), (4, .int (iZ (↑lst))), (7, .int (iZ (↑i)))]) hx hb dG_prependDigits_74 hl (by decide) rfl (fun ls hl => ?_)
                refine lv_iinc (v := iZ (↑i + 1)) (lv' := [(7, .int (iZ (↑i + 1))), (5, .long (lZ (((pt / b ^ (i + 1) : Nat) : Int)))), (8, .int (iZ (((y % b : Nat) : Int)))), (0, .ref (B + 76)), (3, .int (iZ (↑b))), (4, .int (iZ (↑lst)))]) hx hb dG_prependDigits_76 hl (k := 5) rfl (iZ_add _ _) (by decide) rfl (fun ls hl => ?_)
                refine lv_goto (tgt := 12) hx hb dG_prependDigits_79 (by decide) ?_
                rw [show (↑i + 1 : Int) = ↑(i + 1) from by omega] at hl
                exact ihL12 (i + 1) (va_up g1 (ct0 - i - 1) (dc (y % b))) _ _ _ (by omega) (hi1) (hn1) (by rw [hy]; exact dgs_s hd (by omega)) (fun q hq => by rw [va_up_ne _ _ (by omega)]; exact hk q hq) (fun q => by by_cases h9 : q = ct0 - i - 1; rw [h9, va_up_self]; exact dc_lt (by omega); rw [va_up_ne _ _ h9]; exact h128 q)  hZ hS (lv_sub hl [3, 4, 5, 1, 0] rfl)
    rw [show (↑pt : Int) = ((pt / b ^ 0 : Nat) : Int) from by rw [Nat.pow_zero, Nat.div_one]] at hl
    exact L12 _ 0 f0 _ _ _ (Nat.lt_succ_self _) (Nat.zero_le _) (fun h9 => absurd h9 (Nat.not_lt_zero _)) (fun j hj => absurd hj (Nat.not_lt_zero _)) (fun _ _ => rfl) (hg)  hZ hS (lv_sub hl [2, 4, 5, 1, 0] rfl)
  · exfalso; omega

set_option maxHeartbeats 4000000 in
set_option maxRecDepth 100000 in
theorem mG_characterAt (l : Launch) (E : zE) (B : Nat) (v0 : Nat → zV) (o : Nat → va_E) (ct0 : Nat) (f0 : Nat → Nat) (z : Int) (hz : zl z) (hst : ct0 ≤ 2049) (hg : ∀ i, f0 i < 128) :
    Met l yG_characterAt (zws yG_characterAt cG_characterAt 3 (some .int)) { frames := 0, cells := 0, slots := 0, locals := 0 } (zPc E (zD E B v0 (zg E B o ct0 f0)) [.ref (B + 76), .long (lZ (z))]) (va_Qi (fun (r : Int32) (u : (Nat → zV) × Nat × (Nat → Nat)) => u = (v0, ct0, f0) ∧ r = iZ ↑(chat ct0 f0 z)) (fun (u : (Nat → zV) × Nat × (Nat → Nat)) t => zD E B u.1 (zg E B o u.2.1 u.2.2) t.heap ∧ zK E t) (zA B 80)) 0 0 (zA B 80) := by
  refine zof_i (P' := fun (u : (Nat → zV) × Nat × (Nat → Nat)) H => zD E B u.1 (zg E B o u.2.1 u.2.2) H) (by decide) (Nat.le_of_ble_eq_true rfl) fun p e R s m args below meth c Q ls hR hx hb hml ht hown hK hZ hl hend => ?_
  have hS : va_S (zA B 80) s.heap s.heap [] := va_S.rf
  have hown : s.vm.findClass "WholeDesk$Writing" = some m.cls := hown
  have hl : lv_has ls 3 [(0, .ref (B + 76)), (1, .long (lZ (z)))] := hl
  refine lv_lload_n hx hb dG_characterAt_0 rfl (lv_at hl 1 rfl) ?_
  refine lv_lconst (v := lZ (0)) hx hb dG_characterAt_1 (by decide) ?_
  refine zr_lcmp_lt (tgt := 35) hx hb hz (by unfold zl; omega) dG_characterAt_2 dG_characterAt_3 (by decide) (fun c_1 => ?_) (fun c_1 => ?_)
  · refine lv_iconst (v := iZ (0)) hx hb dG_characterAt_35 (by decide) ?_
    refine zc_i (y := iZ ↑(chat ct0 f0 z)) (congrArg iZ (by unfold chat; rw [if_neg (by omega)]; rfl)) ?_
    exact hend 36 _ (v0, ct0, f0) _ _ _ dG_characterAt_36 (⟨rfl, rfl⟩) hZ hS
  · refine lv_lload_n hx hb dG_characterAt_6 rfl (lv_at hl 1 rfl) ?_
    refine lv_sipush (v := iZ (2049)) hx hb dG_characterAt_7 (by decide) ?_
    refine lv_aload_n hx hb dG_characterAt_10 rfl (lv_at hl 0 rfl) ?_
    refine zg_start hx hb ht hown hK hZ tw_118 dG_characterAt_11 ?_
    refine zr_isub hx hb dG_characterAt_14 ?_
    refine zr_i2l hx hb (by unfold zi; omega) dG_characterAt_15 ?_
    refine zr_lcmp_ge (tgt := 35) hx hb hz (by unfold zl; omega) dG_characterAt_16 dG_characterAt_17 (by decide) (fun c_2 => ?_) (fun c_2 => ?_)
    · refine lv_iconst (v := iZ (0)) hx hb dG_characterAt_35 (by decide) ?_
      refine zc_i (y := iZ ↑(chat ct0 f0 z)) (congrArg iZ (by unfold chat; rw [if_neg (by omega)]; rfl)) ?_
      exact hend 36 _ (v0, ct0, f0) _ _ _ dG_characterAt_36 (⟨rfl, rfl⟩) hZ hS
    · refine lv_aload_n hx hb dG_characterAt_20 rfl (lv_at hl 0 rfl) ?_
      refine zg_row hx hb ht hown hK hZ tw_117 dG_characterAt_21 ?_
      refine lv_aload_n hx hb dG_characterAt_24 rfl (lv_at hl 0 rfl) ?_
      refine zg_start hx hb ht hown hK hZ tw_118 dG_characterAt_25 ?_
      refine lv_lload_n hx hb dG_characterAt_28 rfl (lv_at hl 1 rfl) ?_
      refine zr_l2i hx hb dG_characterAt_29 ?_
      refine zr_iadd hx hb dG_characterAt_30 ?_
      rw [show (↑ct0 + z : Int) = ((ct0 + z.toNat : Nat) : Int) by omega]
      refine zg_ld (i := ct0 + z.toNat) hx hb hK hZ (by omega) dG_characterAt_31 ?_
      refine lv_goto (tgt := 36) hx hb dG_characterAt_32 (by decide) ?_
      refine zc_i (y := iZ ↑(chat ct0 f0 z)) (congrArg iZ (by rw [sb_lo (hg _)]; unfold chat; rw [if_pos (by omega)])) ?_
      exact hend 36 _ (v0, ct0, f0) _ _ _ dG_characterAt_36 (⟨rfl, rfl⟩) hZ hS

set_option maxHeartbeats 4000000 in
set_option maxRecDepth 100000 in
theorem mG_eightFrom (l : Launch) (E : zE) (B : Nat) (v0 : Nat → zV) (o : Nat → va_E) (ct0 : Nat) (f0 : Nat → Nat) (z : Int) (hz : zi z) (hst : ct0 ≤ 2049) (hg : ∀ i, f0 i < 128) :
    Met l yG_eightFrom (zws yG_eightFrom cG_eightFrom 5 (some .long)) { frames := 1, cells := 0, slots := 0, locals := 40 } (zPc E (zD E B v0 (zg E B o ct0 f0)) [.ref (B + 76), .int (iZ (z))]) (va_Ql (fun (r : Int64) (u : (Nat → zV) × Nat × (Nat → Nat)) => u = (v0, ct0, f0) ∧ r = lZ ↑(txt ct0 f0 z 8)) (fun (u : (Nat → zV) × Nat × (Nat → Nat)) t => zD E B u.1 (zg E B o u.2.1 u.2.2) t.heap ∧ zK E t) (zA B 80)) 0 0 (zA B 80) := by
  refine zof_l (P' := fun (u : (Nat → zV) × Nat × (Nat → Nat)) H => zD E B u.1 (zg E B o u.2.1 u.2.2) H) (by decide) (Nat.le_of_ble_eq_true rfl) fun p e R s m args below meth c Q ls hR hx hb hml ht hown hK hZ hl hend => ?_
  have hS : va_S (zA B 80) s.heap s.heap [] := va_S.rf
  have hown : s.vm.findClass "WholeDesk$Writing" = some m.cls := hown
  have hl : lv_has ls 5 [(0, .ref (B + 76)), (1, .int (iZ (z)))] := hl
  refine lv_lconst (v := lZ (0)) hx hb dG_eightFrom_0 (by decide) ?_
  refine lv_lstore_n (lv' := [(2, .long (lZ (0))), (0, .ref (B + 76)), (1, .int (iZ (z)))]) hx hb dG_eightFrom_1 rfl hl (by decide) rfl (fun ls hl => ?_)
  refine lv_bipush (v := iZ (7)) hx hb dG_eightFrom_2 (by decide) ?_
  refine lv_istore (lv' := [(4, .int (iZ (7))), (2, .long (lZ (0))), (0, .ref (B + 76)), (1, .int (iZ (z)))]) hx hb dG_eightFrom_4 hl (by decide) rfl (fun ls hl => ?_)
  have L6 : ∀ (fu : Nat) (k : Nat) (H : Heap) (locs : List Loc) (ls : Array Slot), k < fu → (k ≤ 8) → zD E B v0 (zg E B o ct0 f0) H → va_S (zA B 80) s.heap H locs → lv_has ls 5 [(0, .ref (B + 76)), (1, .int (iZ (z))), (2, .long (lZ (((txt ct0 f0 (z + k) (8 - k) : Nat) : Int)))), (4, .int (iZ (↑k - 1)))] → W p l e R s m args below meth c H locs 0 0 Q (F0 m 6 ls []) := by
    intro fu
    induction fu with
    | zero => intro k H locs ls hm; exact absurd hm (Nat.not_lt_zero _)
    | succ fu ihL6 =>
      intro k H locs ls hm hk  hZ hS hl
      refine lv_iload hx hb dG_eightFrom_6 (lv_at hl 3 rfl) ?_
      refine zr_if_lt (tgt := 34) hx hb (by omega) dG_eightFrom_8 (by decide) (fun c_1 => ?_) (fun c_1 => ?_)
      · refine lv_lload_n hx hb dG_eightFrom_34 rfl (lv_at hl 2 rfl) ?_
        have hk0 : k = 0 := by omega
        subst hk0
        refine zc_l (y := lZ ↑(txt ct0 f0 z 8)) (congrArg lZ (by rw [show z + ((0 : Nat) : Int) = z by omega])) ?_
        exact hend 35 _ (v0, ct0, f0) _ _ _ dG_eightFrom_35 (⟨rfl, rfl⟩) hZ hS
      · have htl : txt ct0 f0 (z + k) (8 - k) < 72057594037927936 := by
          rcases Nat.lt_or_ge k 8 with h9 | h9
          · obtain ⟨n, hn⟩ : ∃ n, 8 - k = n + 1 := ⟨7 - k, by omega⟩
            rw [hn]
            have h8 := txt_lt (st := ct0) hg (z + k) n
            have h7 := Nat.pow_le_pow_right (show 0 < 256 by decide) (show n ≤ 6 by omega)
            omega
          · rw [show 8 - k = 0 by omega]; show 0 < _; decide
        refine lv_lload_n hx hb dG_eightFrom_11 rfl (lv_at hl 2 rfl) ?_
        refine lv_bipush (v := iZ (8)) hx hb dG_eightFrom_12 (by decide) ?_
        refine zr_lshl (n := 8) (P := 256) hx hb (Nat.le_of_ble_eq_true rfl) (p2_8) dG_eightFrom_14 ?_
        refine lv_aload_n hx hb dG_eightFrom_15 rfl (lv_at hl 0 rfl) ?_
        refine lv_iload_n hx hb dG_eightFrom_16 rfl (lv_at hl 1 rfl) ?_
        refine zr_i2l hx hb (hz) dG_eightFrom_17 ?_
        refine lv_iload hx hb dG_eightFrom_18 (lv_at hl 3 rfl) ?_
        refine zr_i2l hx hb (by unfold zi; omega) dG_eightFrom_20 ?_
        refine zr_ladd hx hb dG_eightFrom_21 ?_
        refine zcV_i 1 (As := [.long (lZ (z + (↑k - 1)))]) (rest := [.long (lZ (((txt ct0 f0 (z + k) (8 - k) : Nat) : Int) * 256))]) rfl ⟨hx, hb, hml, hown, ht⟩ (mG_characterAt l E B v0 o ct0 f0 (z + (↑k - 1)) (by unfold zi at hz; unfold zl; omega) hst hg) tw_155 tw_152 tw_154 tp_0 tw_5 qG_characterAt (by rw [hR]; decide) (zg_recv hK hZ) hZ hK hl.1 rfl rfl (Nat.le_of_ble_eq_true rfl) dG_eightFrom_22 ⟨Nat.zero_le _, Nat.zero_le _⟩ hS (fun r_2 u H locs hp hZ _ hS => ?_)
        obtain ⟨hu, hr1⟩ := hp
        subst hu
        subst hr1
        dsimp only at hZ
        have hcl := chat_lt (st := ct0) hg (z + (↑k - 1))
        refine zr_i2l hx hb (by unfold zi; omega) dG_eightFrom_25 ?_
        refine zr_lor (n := 8) (P := 256) hx hb p2_8 (by omega) (by omega) (by omega) (by omega) dG_eightFrom_26 ?_
        refine zc_l (y := lZ ((txt ct0 f0 (z + ((k - 1 : Nat) : Int)) (8 - (k - 1)) : Nat) : Int)) (congrArg lZ (by rw [show 8 - (k - 1) = (8 - k) + 1 by omega, txt, show z + ((k - 1 : Nat) : Int) + 1 = z + k by omega, show z + ((k - 1 : Nat) : Int) = z + (↑k - 1) by omega]; omega)) ?_
        refine lv_lstore_n (lv' := [(2, .long (lZ (((txt ct0 f0 (z + ((k - 1 : Nat) : Int)) (8 - (k - 1)) : Nat) : Int)))), (0, .ref (B + 76)), (1, .int (iZ (z))), (4, .int (iZ (↑k - 1)))]) hx hb dG_eightFrom_27 rfl hl (by decide) rfl (fun ls hl => ?_)
        refine lv_iinc (v := iZ (↑k - 1 - 1)) (lv' := [(4, .int (iZ (↑k - 1 - 1))), (2, .long (lZ (((txt ct0 f0 (z + ((k - 1 : Nat) : Int)) (8 - (k - 1)) : Nat) : Int)))), (0, .ref (B + 76)), (1, .int (iZ (z)))]) hx hb dG_eightFrom_28 hl (k := 3) rfl (iZ_dec _ _) (by decide) rfl (fun ls hl => ?_)
        refine lv_goto (tgt := 6) hx hb dG_eightFrom_31 (by decide) ?_
        rw [show (↑k - 1 - 1 : Int) = ↑(k - 1) - 1 from by omega] at hl
        exact ihL6 (k - 1) _ _ _ (by omega) (by omega)  hZ hS (lv_sub hl [2, 3, 1, 0] rfl)
  rw [show (0 : Int) = ((txt ct0 f0 (z + (8 : Nat)) (8 - 8) : Nat) : Int) from rfl] at hl
  exact L6 _ 8 _ _ _ (Nat.lt_succ_self _) (by decide)  hZ hS (lv_sub hl [2, 3, 1, 0] rfl)
