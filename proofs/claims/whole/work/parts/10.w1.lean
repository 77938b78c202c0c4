theorem tb_f1 {b : Bool} {n1 : Nat} (h : bZ b = 0) : (b && decide (n1 ≠ 0)) = false := by rw [bZ_f.mp h]; rfl
theorem tb_f2 {b : Bool} {n1 : Nat} (h : (n1 : Int) ≤ 0) : (b && decide (n1 ≠ 0)) = false := by
  have : n1 = 0 := by omega
  subst this
  simp
theorem tb_t {b : Bool} {n1 : Nat} (h : ¬ bZ b = 0) (h2 : (0 : Int) < n1) : (b && decide (n1 ≠ 0)) = true := by
  rw [bZ_nf.mp h]
  simp
  omega
set_option maxHeartbeats 4000000 in
set_option maxRecDepth 100000 in
theorem mW_trim (l : Launch) (E : zE) (B : Nat) (v0 : Nat → zV) (o : Nat → va_E) (k : Nat) (hk : lp k = true) (d : Nat → Nat) (n : Nat) (b : Bool) (ev : v0 k = (d, n, b)) :
    Met l yW_trim (zws yW_trim cW_trim 1 none) { frames := 0, cells := 0, slots := 0, locals := 0 } (zPc E (zD E B v0 o) [.ref (B + k)]) (va_Qv (fun v : Nat → zV => (∀ j, j ≠ k → v j = v0 j) ∧ ∃ n1, v k = (d, n1, b && decide (n1 ≠ 0)) ∧ n1 ≤ n ∧ (∀ i, n1 ≤ i → i < n → d i = 0) ∧ (n1 ≠ 0 → d (n1 - 1) ≠ 0)) (fun v t => zD E B v o t.heap ∧ zK E t) (zA B 80)) 0 0 (zA B 80) := by
  refine zof_v (by decide) (Nat.le_of_ble_eq_true rfl) fun p e R s m args below meth c Q ls hR hx hb hml ht hown hK hZ hl hend => ?_
  have hS : va_S (zA B 80) s.heap s.heap [] := va_S.rf
  have hown : s.vm.findClass "WholeDesk$Whole" = some m.cls := hown
  have hl : lv_has ls 1 [(0, .ref (B + k))] := hl
  have hn : n ≤ 152 := by have := (hZ.2 k hk).2; rw [ev] at this; exact this
  have hd0 : ∀ i, d i < 268435456 := by have := (hZ.2 k hk).1; rw [ev] at this; exact this
  have fr : ∀ j, j ≠ k → v0 j = v0 j := fun j _ => rfl
  have L0 : ∀ (fu : Nat) (n1 : Nat) (v : Nat → zV) (H : Heap) (locs : List Loc) (ls : Array Slot), n1 < fu → (n1 ≤ n ∧ ∀ i, n1 ≤ i → i < n → d i = 0) → v k = (d, n1, b) → (∀ j, j ≠ k → v j = v0 j) → zD E B v o H → va_S (zA B 80) s.heap H locs → lv_has ls 1 [(0, .ref (B + k))] → W p l e R s m args below meth c H locs 0 0 Q (F0 m 0 ls []) := by
    intro fu
    induction fu with
    | zero => intro n1 v H locs ls hm; exact absurd hm (Nat.not_lt_zero _)
    | succ fu ih =>
      intro n1 v H locs ls hm hI ev fr hZ hS hl
      have J36 : ∀  (v : Nat → zV) (H : Heap) (locs : List Loc) (ls : Array Slot), (n1 ≠ 0 → d (n1 - 1) ≠ 0) → v k = (d, n1, b) → (∀ j, j ≠ k → v j = v0 j) → zD E B v o H → va_S (zA B 80) s.heap H locs → lv_has ls 1 [(0, .ref (B + k))] → W p l e R s m args below meth c H locs 0 0 Q (F0 m 36 ls []) := by
        intro  v H locs ls hT ev fr hZ hS hl
        refine lv_aload_n hx hb dW_trim_36 rfl (lv_at hl 0 rfl) ?_
        refine lv_aload_n hx hb dW_trim_37 rfl (lv_at hl 0 rfl) ?_
        refine zw_below hx hb ht hown hK hZ hk ev tw_39 dW_trim_38 ?_
        refine zr_if_eq (tgt := 55) hx hb (by have := bZ_01 b; omega) dW_trim_41 (by decide) (fun c_1 => ?_) (fun c_1 => ?_)
        · refine lv_iconst (v := iZ (0)) hx hb dW_trim_55 (by decide) ?_
          refine W.eq (g2 := F0 m 56 ls (.int (iZ (bZ false)) :: .ref (B + k) :: [])) rfl ?_
          refine zw_put_below (b1 := false) hx hb ht hown hK hZ hk ev hS tw_39 dW_trim_56 (fun v H locs ev ho hZ hS => ?_)
          have fr : ∀ j, j ≠ k → v j = v0 j := fun j h0 => (ho j h0).trans (fr j h0)
          exact hend 59 v _ _ _ dW_trim_59 (⟨fr, n1, by rw [ev]; first | rw [tb_t (by assumption) (by assumption)] | rw [tb_f1 (by assumption)] | rw [tb_f2 (by assumption)], hI.1, hI.2, hT⟩) hZ hS
        · refine lv_aload_n hx hb dW_trim_44 rfl (lv_at hl 0 rfl) ?_
          refine zw_count hx hb ht hown hK hZ hk ev tw_34 dW_trim_45 ?_
          refine zr_if_le (tgt := 55) hx hb (by omega) dW_trim_48 (by decide) (fun c_2 => ?_) (fun c_2 => ?_)
          · refine lv_iconst (v := iZ (0)) hx hb dW_trim_55 (by decide) ?_
            refine W.eq (g2 := F0 m 56 ls (.int (iZ (bZ false)) :: .ref (B + k) :: [])) rfl ?_
            refine zw_put_below (b1 := false) hx hb ht hown hK hZ hk ev hS tw_39 dW_trim_56 (fun v H locs ev ho hZ hS => ?_)
            have fr : ∀ j, j ≠ k → v j = v0 j := fun j h0 => (ho j h0).trans (fr j h0)
            exact hend 59 v _ _ _ dW_trim_59 (⟨fr, n1, by rw [ev]; first | rw [tb_t (by assumption) (by assumption)] | rw [tb_f1 (by assumption)] | rw [tb_f2 (by assumption)], hI.1, hI.2, hT⟩) hZ hS
          · refine lv_iconst (v := iZ (1)) hx hb dW_trim_51 (by decide) ?_
            refine lv_goto (tgt := 56) hx hb dW_trim_52 (by decide) ?_
            refine W.eq (g2 := F0 m 56 ls (.int (iZ (bZ true)) :: .ref (B + k) :: [])) rfl ?_
            refine zw_put_below (b1 := true) hx hb ht hown hK hZ hk ev hS tw_39 dW_trim_56 (fun v H locs ev ho hZ hS => ?_)
            have fr : ∀ j, j ≠ k → v j = v0 j := fun j h0 => (ho j h0).trans (fr j h0)
            exact hend 59 v _ _ _ dW_trim_59 (⟨fr, n1, by rw [ev]; first | rw [tb_t (by assumption) (by assumption)] | rw [tb_f1 (by assumption)] | rw [tb_f2 (by assumption)], hI.1, hI.2, hT⟩) hZ hS
      refine lv_aload_n hx hb dW_trim_0 rfl (lv_at hl 0 rfl) ?_
      refine zw_count hx hb ht hown hK hZ hk ev tw_34 dW_trim_1 ?_
      refine zr_if_le (tgt := 36) hx hb (by omega) dW_trim_4 (by decide) (fun c_3 => ?_) (fun c_3 => ?_)
      · exact J36  v _ _ _ (fun h0 => by omega) ev fr hZ hS (lv_sub hl [0] rfl)
      · refine lv_aload_n hx hb dW_trim_7 rfl (lv_at hl 0 rfl) ?_
        refine zw_limbs hx hb ht hown hK hZ hk ev tw_31 dW_trim_8 ?_
        refine lv_aload_n hx hb dW_trim_11 rfl (lv_at hl 0 rfl) ?_
        refine zw_count hx hb ht hown hK hZ hk ev tw_34 dW_trim_12 ?_
        refine lv_iconst (v := iZ (1)) hx hb dW_trim_15 (by decide) ?_
        refine zr_isub hx hb dW_trim_16 ?_
        refine zw_ld hx hb hK hZ hk ev (by omega) (by omega) dW_trim_17 ?_
        rw [show (n1 - 1 : Int).toNat = n1 - 1 from by omega]
        refine lv_lconst (v := lZ (0)) hx hb dW_trim_18 (by decide) ?_
        refine zr_lcmp_ne (tgt := 36) hx hb ⟨by omega, by have := hd0 (n1 - 1); omega⟩ (by omega) dW_trim_19 dW_trim_20 (by decide) (fun c_4 => ?_) (fun c_4 => ?_)
        · exact J36  v _ _ _ (fun h0 => by omega) ev fr hZ hS (lv_sub hl [0] rfl)
        · refine lv_aload_n hx hb dW_trim_23 rfl (lv_at hl 0 rfl) ?_
          refine lv_dup hx hb dW_trim_24 rfl ?_
          refine zw_count hx hb ht hown hK hZ hk ev tw_34 dW_trim_25 ?_
          refine lv_iconst (v := iZ (1)) hx hb dW_trim_28 (by decide) ?_
          refine zr_isub hx hb dW_trim_29 ?_
          rw [show (n1 - 1 : Int) = ((n1 - 1 : Nat) : Int) from by omega]
          refine zw_put_count (n1 := n1 - 1) hx hb ht hown hK hZ hk ev hS (by omega) tw_34 dW_trim_30 (fun v H locs ev ho hZ hS => ?_)
          have fr : ∀ j, j ≠ k → v j = v0 j := fun j h0 => (ho j h0).trans (fr j h0)
          refine lv_goto (tgt := 0) hx hb dW_trim_33 (by decide) ?_
          exact ih (n1 - 1) v _ _ _ (by omega) (⟨by omega, fun i h1 h2 => by
            by_cases e : i = n1 - 1
            · rw [e]; omega
            · exact hI.2 i (by omega) h2⟩) ev fr hZ hS (lv_sub hl [0] rfl)
  exact L0 _ n v0 _ _ _ (Nat.lt_succ_self _) (⟨Nat.le_refl _, fun i h1 h2 => absurd h1 (by omega)⟩) ev fr hZ hS (lv_sub hl [0] rfl)
