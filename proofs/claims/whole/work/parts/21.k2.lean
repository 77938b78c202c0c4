theorem smm_sm {x y : Int} (h : smm x y) : (x * y).natAbs < wP 151 := by
  rw [Int.natAbs_mul]
  exact Nat.lt_of_lt_of_le h (wP_mono (by decide))
set_option maxHeartbeats 4000000 in
set_option maxRecDepth 100000 in
theorem mK_timesModulo (l : Launch) (E : zE) (B : Nat) (v0 : Nat → zV) (o : Nat → va_E) (an0 sp0 : Nat) (hA0 : (an0 = 27 ∧ sp0 = 29) ∨ (an0 = 29 ∧ sp0 = 27)) (x : Int) (hNx : zN (v0 an0) x) (b : Nat) (hlb : lp b = true) (y : Int) (hVy : zN (v0 b) y) (m9 : Nat) (hlm9 : lp m9 = true) (z : Int) (hVz : zN (v0 m9) z) (hb9 : b ≠ sp0) (hm9 : m9 ≠ 23 ∧ m9 ≠ 27 ∧ m9 ≠ 29) (hz0 : z ≠ 0) (hxy : smm x y) :
    Met l yK_timesModulo (zws yK_timesModulo cK_timesModulo 3 none) { frames := 4, cells := 0, slots := 0, locals := 140 } (zPc E (zD E B v0 (zo E B o an0 sp0)) [.ref (B + 22), .ref (B + b), .ref (B + m9)]) (va_Qv (fun u : (Nat → zV) × Nat × Nat × Nat => (∀ j, j ≠ 23 → j ≠ 27 → j ≠ 29 → u.1 j = v0 j) ∧ (u.2.1 = sp0 ∧ u.2.2.1 = an0) ∧ zN (u.1 sp0) ((x * y).tmod z)) (fun (u : (Nat → zV) × Nat × Nat × Nat) t => zD E B u.1 (zo E B o u.2.1 u.2.2.1) t.heap ∧ zK E t) (zA B 80)) 0 0 (zA B 80) := by
  refine zof_v (P' := fun (u : (Nat → zV) × Nat × Nat × Nat) H => zD E B u.1 (zo E B o u.2.1 u.2.2.1) H) (by decide) (Nat.le_of_ble_eq_true rfl) fun p e R s m args below meth c Q ls hR hx hb hml ht hown hK hZ hl hend => ?_
  have hS : va_S (zA B 80) s.heap s.heap [] := va_S.rf
  have hown : s.vm.findClass "WholeDesk$Reckoner" = some m.cls := hown
  have hl : lv_has ls 3 [(0, .ref (B + 22)), (1, .ref (B + b)), (2, .ref (B + m9))] := hl
  have hlan : lp an0 = true := by rw [lp_iff]; omega
  have hlsp : lp sp0 = true := by rw [lp_iff]; omega
  have ne_0_1 : an0 ≠ sp0 := by omega
  have ne_0_2 : an0 ≠ 23 := by omega
  have ne_0_4 : an0 ≠ m9 := by omega
  have ne_1_0 : sp0 ≠ an0 := by omega
  have ne_1_2 : sp0 ≠ 23 := by omega
  have ne_1_3 : sp0 ≠ b := by omega
  have ne_1_4 : sp0 ≠ m9 := by omega
  have ne_2_0 : 23 ≠ an0 := by omega
  have ne_2_1 : 23 ≠ sp0 := by omega
  have ne_2_4 : 23 ≠ m9 := by omega
  have ne_3_1 : b ≠ sp0 := by omega
  have ne_4_0 : m9 ≠ an0 := by omega
  have ne_4_1 : m9 ≠ sp0 := by omega
  have ne_4_2 : m9 ≠ 23 := by omega
  have fn_0 : ∀ j, j ≠ 23 → j ≠ 27 → j ≠ 29 → j ≠ an0 := by omega
  have fn_1 : ∀ j, j ≠ 23 → j ≠ 27 → j ≠ 29 → j ≠ sp0 := by omega
  have fr : ∀ j, j ≠ 23 → j ≠ 27 → j ≠ 29 → v0 j = v0 j := fun j _ _ _ => rfl
  refine lv_aload_n hx hb dK_timesModulo_0 rfl (lv_at hl 0 rfl) ?_
  refine lv_aload_n hx hb dK_timesModulo_1 rfl (lv_at hl 1 rfl) ?_
  refine zcV_v 1 (As := [.ref (B + b)]) (rest := []) rfl ⟨hx, hb, hml, hown, ht⟩ (mK_times l E B v0 o an0 sp0 hA0 (x) hNx b hlb (y) hVy ne_3_1 (hxy)) tw_462 tw_459 tw_461 tp_6 tw_3 qK_times (by rw [hR]; decide) (zK_recv hK hZ) hZ hK hl.1 rfl rfl (Nat.le_of_ble_eq_true rfl) dK_timesModulo_2 ⟨Nat.zero_le _, Nat.zero_le _⟩ hS (fun u H locs hp hZ _ hS => ?_)
  obtain ⟨v, a9, s9, o9⟩ := u
  obtain ⟨ho, ⟨e8, e9⟩, hN9⟩ := hp
  dsimp only at ho e8 e9 hN9 hZ
  rw [e8, e9] at hZ
  have hVz : zN (v m9) (z) := by rw [ho _ (by omega) (by omega)]; exact hVz
  have fr : ∀ j, j ≠ 23 → j ≠ 27 → j ≠ 29 → v j = v0 j := fun j h0 h1 h2 => (ho j h1 h2).trans (fr j h0 h1 h2)
  have hNx : zN (v sp0) ((x) * (y)) := hN9
  have hA9 : (sp0 = 27 ∧ an0 = 29) ∨ (sp0 = 29 ∧ an0 = 27) := by omega
  refine lv_aload_n hx hb dK_timesModulo_5 rfl (lv_at hl 0 rfl) ?_
  refine zk_answer hx hb ht hown hK hZ tw_63 dK_timesModulo_6 ?_
  refine lv_aload_n hx hb dK_timesModulo_9 rfl (lv_at hl 2 rfl) ?_
  refine lv_aload_n hx hb dK_timesModulo_10 rfl (lv_at hl 0 rfl) ?_
  refine zk_quotient hx hb ht hown hK hZ tw_59 dK_timesModulo_11 ?_
  refine zcV_v 2 (As := [.ref (B + m9), .ref (B + 23)]) (rest := []) rfl ⟨hx, hb, hml, hown, ht⟩ (mW_divideOut l E B v (zo E B o sp0 an0) sp0 hlsp (v sp0).1 (v sp0).2.1 (v sp0).2.2 rfl m9 hlm9 (v m9).1 (v m9).2.1 (v m9).2.2 rfl 23 (by decide) (v 23).1 (v 23).2.1 (v 23).2.2 rfl ne_4_1 ne_2_1 ne_2_4 hNx.1 hNx.2.1 ((zN_len (hZ.2 sp0 hlsp).1 hNx).mpr (smm_sm hxy)) (fun h9 => absurd ((zN_0 hVz).mp h9) (hz0)) hVz.1) tw_415 tw_412 tw_413 tw_414 tw_2 qW_divideOut (by rw [hR]; decide) (zW_recv hK hZ hlsp) hZ hK hl.1 rfl rfl (Nat.le_of_ble_eq_true rfl) dK_timesModulo_14 ⟨Nat.zero_le _, Nat.zero_le _⟩ hS (fun v H locs hp hZ _ hS => ?_)
  obtain ⟨ho, q9, r9, he9, hr9, hN8, hN9⟩ := hp
  obtain ⟨e8, e9⟩ := zN_div hNx hVz he9 hr9
  rw [e8] at hN8
  rw [e9, zN_rest hNx] at hN9
  have hVz : zN (v m9) (z) := by rw [ho _ ne_4_1 ne_4_2]; exact hVz
  have fr : ∀ j, j ≠ 23 → j ≠ 27 → j ≠ 29 → v j = v0 j := fun j h0 h1 h2 => (ho j (fn_1 j h0 h1 h2) h0).trans (fr j h0 h1 h2)
  have hN23 : zN (v 23) (((((x) * (y)).natAbs / (z).natAbs : Nat) : Int)) := hN8
  have hNx : zN (v sp0) (((x) * (y)).tmod (z)) := hN9
  exact hend 17 (v, sp0, an0, 0) _ _ _ dK_timesModulo_17 (⟨fr, ⟨rfl, rfl⟩, hNx⟩) hZ hS

/-- powers that have room -/
def smp (x : Int) (n : Nat) : Prop := x.natAbs ^ n < wP 149
theorem smp_mul {x : Int} {n i j : Nat} (h : smp x n) (hij : i + j ≤ n) : smm (x ^ i) (x ^ j) := by
  unfold smm
  rw [Int.natAbs_pow, Int.natAbs_pow, ← Nat.pow_add]
  refine Nat.lt_of_le_of_lt ?_ (Nat.lt_of_lt_of_le (Nat.max_lt.mpr ⟨h, Nat.lt_of_lt_of_le (show 1 < wP 1 by decide) (wP_mono (show 1 ≤ 149 by decide))⟩) (wP_mono (show 149 ≤ 150 by decide)))
  rcases Nat.eq_zero_or_pos x.natAbs with h0 | h0
  · rw [h0]
    refine Nat.le_trans ?_ (Nat.le_max_right _ 1)
    rcases Nat.eq_zero_or_pos (i + j) with h1 | h1
    · rw [h1]; exact Nat.le_refl 1
    · rw [Nat.zero_pow h1]; exact Nat.zero_le _
  · exact Nat.le_trans (Nat.pow_le_pow_right h0 hij) (Nat.le_max_left _ _)
theorem pow_half {x : Int} {n i : Nat} (hi : 1 ≤ i) : x ^ (n / 2 ^ i) * x ^ (n / 2 ^ i) = x ^ (2 * (n / 2 ^ i)) ∧ 2 * (n / 2 ^ i) + n / 2 ^ (i - 1) % 2 = n / 2 ^ (i - 1) ∧ n / 2 ^ (i - 1) ≤ n := by
  refine ⟨by rw [← Int.pow_add]; congr 1; omega, ?_, Nat.div_le_self _ _⟩
  obtain ⟨k, rfl⟩ : ∃ k, i = k + 1 := ⟨i - 1, by omega⟩
  rw [Nat.pow_succ, ← Nat.div_div_eq_div_mul, Nat.add_sub_cancel]
  omega
set_option maxHeartbeats 4000000 in
set_option maxRecDepth 100000 in
theorem mK_raised (l : Launch) (E : zE) (B : Nat) (v0 : Nat → zV) (o : Nat → va_E) (an0 sp0 : Nat) (hA0 : (an0 = 27 ∧ sp0 = 29) ∨ (an0 = 29 ∧ sp0 = 27)) (a : Nat) (hla : lp a = true) (x : Int) (hVx : zN (v0 a) x) (ha : a ≠ 27 ∧ a ≠ 29) (n : Nat) (hn : n < 2147483648) (hsp : smp x n) :
    Met l yK_raised (zws yK_raised cK_raised 4 (some (.object "WholeDesk$Whole"))) { frames := 3, cells := 0, slots := 0, locals := 92 } (zPc E (zD E B v0 (zo E B o an0 sp0)) [.ref (B + 22), .ref (B + a), .int (iZ (↑n))]) (va_Qr (fun u : (Nat → zV) × Nat × Nat × Nat => (∀ j, j ≠ 27 → j ≠ 29 → u.1 j = v0 j) ∧ ((u.2.1 = 27 ∧ u.2.2.1 = 29) ∨ (u.2.1 = 29 ∧ u.2.2.1 = 27)) ∧ u.2.2.2 = u.2.1 ∧ zN (u.1 u.2.1) (x ^ n)) (fun (u : (Nat → zV) × Nat × Nat × Nat) a t => (a = B + u.2.2.2 ∧ zD E B u.1 (zo E B o u.2.1 u.2.2.1) t.heap) ∧ zK E t) (zA B 80)) 0 0 (zA B 80) := by
  refine zof_r (P' := fun (u : (Nat → zV) × Nat × Nat × Nat) a H => a = B + u.2.2.2 ∧ zD E B u.1 (zo E B o u.2.1 u.2.2.1) H) (by decide) (Nat.le_of_ble_eq_true rfl) fun p e R s m args below meth c Q ls hR hx hb hml ht hown hK hZ hl hend => ?_
  have hS : va_S (zA B 80) s.heap s.heap [] := va_S.rf
  have hown : s.vm.findClass "WholeDesk$Reckoner" = some m.cls := hown
  have hl : lv_has ls 4 [(0, .ref (B + 22)), (1, .ref (B + a)), (2, .int (iZ (↑n)))] := hl
  have hlan : lp an0 = true := by rw [lp_iff]; omega
  have hlsp : lp sp0 = true := by rw [lp_iff]; omega
  have ne_0_1 : an0 ≠ sp0 := by omega
  have ne_0_2 : an0 ≠ a := by omega
  have ne_1_0 : sp0 ≠ an0 := by omega
  have ne_1_2 : sp0 ≠ a := by omega
  have ne_2_0 : a ≠ an0 := by omega
  have ne_2_1 : a ≠ sp0 := by omega
  have fn_0 : ∀ j, j ≠ 27 → j ≠ 29 → j ≠ an0 := by omega
  have fn_1 : ∀ j, j ≠ 27 → j ≠ 29 → j ≠ sp0 := by omega
  have fr : ∀ j, j ≠ 27 → j ≠ 29 → v0 j = v0 j := fun j _ _ => rfl
  refine lv_aload_n hx hb dK_raised_0 rfl (lv_at hl 0 rfl) ?_
  refine zk_answer hx hb ht hown hK hZ tw_63 dK_raised_1 ?_
  refine lv_lconst (v := lZ (1)) hx hb dK_raised_4 (by decide) ?_
  refine zcV_v 1 (As := [.long (lZ (1))]) (rest := []) rfl ⟨hx, hb, hml, hown, ht⟩ (mW_become l E B v0 (zo E B o an0 sp0) an0 hlan (v0 an0).1 (v0 an0).2.1 (v0 an0).2.2 rfl (1) (by omega)) tw_290 tw_458 tw_288 tw_289 tw_2 qW_become (by rw [hR]; decide) (zW_recv hK hZ hlan) hZ hK hl.1 rfl rfl (Nat.le_of_ble_eq_true rfl) dK_raised_5 ⟨Nat.zero_le _, Nat.zero_le _⟩ hS (fun v H locs hp hZ _ hS => ?_)
  obtain ⟨ho, hN9⟩ := hp
  have hVx : zN (v a) (x) := by rw [ho _ ne_2_0]; exact hVx
  have fr : ∀ j, j ≠ 27 → j ≠ 29 → v j = v0 j := fun j h0 h1 => (ho j (fn_0 j h0 h1)).trans (fr j h0 h1)
  have hNan : zN (v an0) (1) := hN9
  refine lv_bipush (v := iZ (30)) hx hb dK_raised_8 (by decide) ?_
  refine lv_istore_n (lv' := [(3, .int (iZ (30))), (0, .ref (B + 22)), (1, .ref (B + a)), (2, .int (iZ (↑n)))]) hx hb dK_raised_10 rfl hl (by decide) rfl (fun ls hl => ?_)
  have L11 : ∀ (fu : Nat) (i : Nat) (an sp : Nat) (v : Nat → zV) (H : Heap) (locs : List Loc) (ls : Array Slot), i < fu → ((an = 27 ∧ sp = 29) ∨ (an = 29 ∧ sp = 27)) → (i ≤ 31) → zN (v an) (x ^ (n / 2 ^ i)) → zN (v a) (x) → (∀ j, j ≠ 27 → j ≠ 29 → v j = v0 j) → zD E B v (zo E B o an sp) H → va_S (zA B 80) s.heap H locs → lv_has ls 4 [(0, .ref (B + 22)), (1, .ref (B + a)), (2, .int (iZ (↑n))), (3, .int (iZ (↑i - 1)))] → W p l e R s m args below meth c H locs 0 0 Q (F0 m 11 ls []) := by
    intro fu
    induction fu with
    | zero => intro i an sp v H locs ls hm; exact absurd hm (Nat.not_lt_zero _)
    | succ fu ihL11 =>
      intro i an sp v H locs ls hm hA9 hi hNan hVx fr hZ hS hl
      have hlan : lp an = true := by rw [lp_iff]; omega
      have hlsp : lp sp = true := by rw [lp_iff]; omega
      have nx_a_an : a ≠ an := by omega
      have nx_a_sp : a ≠ sp := by omega
      have nx_an_sp : an ≠ sp := by omega
      refine lv_iload_n hx hb dK_raised_11 rfl (lv_at hl 3 rfl) ?_
      refine zr_if_lt (tgt := 42) hx hb (by omega) dK_raised_12 (by decide) (fun c_1 => ?_) (fun c_1 => ?_)
      · have hi0 : i = 0 := by omega
        rw [hi0, Nat.pow_zero, Nat.div_one] at hNan
        refine lv_aload_n hx hb dK_raised_42 rfl (lv_at hl 0 rfl) ?_
        refine zk_answer hx hb ht hown hK hZ tw_63 dK_raised_43 ?_
        exact hend 46 (v, an, sp, an) _ _ _ _ dK_raised_46 (⟨fr, hA9, rfl, hNan⟩) ⟨rfl, hZ⟩ hS
      · have hph := pow_half (x := x) (n := n) (i := i) (by omega)
        refine lv_aload_n hx hb dK_raised_15 rfl (lv_at hl 0 rfl) ?_
        refine lv_aload_n hx hb dK_raised_16 rfl (lv_at hl 0 rfl) ?_
        refine zk_answer hx hb ht hown hK hZ tw_63 dK_raised_17 ?_
        refine zcV_v 1 (As := [.ref (B + an)]) (rest := []) rfl ⟨hx, hb, hml, hown, ht⟩ (mK_times l E B v o an sp hA9 (x ^ (n / 2 ^ i)) hNan an hlan (x ^ (n / 2 ^ i)) hNan nx_an_sp (smp_mul hsp (by omega))) tw_462 tw_459 tw_461 tp_6 tw_3 qK_times (by rw [hR]; decide) (zK_recv hK hZ) hZ hK hl.1 rfl rfl (Nat.le_of_ble_eq_true rfl) dK_raised_20 ⟨Nat.zero_le _, Nat.zero_le _⟩ hS (fun u H locs hp hZ _ hS => ?_)
        obtain ⟨v, a9, s9, o9⟩ := u
        obtain ⟨ho, ⟨e8, e9⟩, hN9⟩ := hp
        dsimp only at ho e8 e9 hN9 hZ
        rw [e8, e9] at hZ
        have hVx : zN (v a) (x) := by rw [ho _ (by omega) (by omega)]; exact hVx
        have fr : ∀ j, j ≠ 27 → j ≠ 29 → v j = v0 j := fun j h0 h1 => (ho j h0 h1).trans (fr j h0 h1)
        have hNan : zN (v sp) ((x ^ (n / 2 ^ i)) * (x ^ (n / 2 ^ i))) := hN9
        have hA9 : (sp = 27 ∧ an = 29) ∨ (sp = 29 ∧ an = 27) := by omega
        refine lv_iload_n hx hb dK_raised_23 rfl (lv_at hl 2 rfl) ?_
        refine lv_iload_n hx hb dK_raised_24 rfl (lv_at hl 3 rfl) ?_
        refine zc_i (y := iZ ↑(i - 1)) (congrArg iZ (by omega)) ?_
        refine zr_ishr hx hb hn (by omega) dK_raised_25 ?_
        refine lv_iconst (v := iZ (1)) hx hb dK_raised_26 (by decide) ?_
        have hle9 := hph.2.2
        refine zr_iand hx hb 1 (by omega) rfl dK_raised_27 ?_
        refine zr_if_eq (tgt := 36) hx hb (by omega) dK_raised_28 (by decide) (fun c_2 => ?_) (fun c_2 => ?_)
        · refine lv_iinc (v := iZ (↑i - 1 - 1)) (lv' := [(3, .int (iZ (↑i - 1 - 1))), (0, .ref (B + 22)), (1, .ref (B + a)), (2, .int (iZ (↑n)))]) hx hb dK_raised_36 hl (k := 3) rfl (iZ_dec _ _) (by decide) rfl (fun ls hl => ?_)
          refine lv_goto (tgt := 11) hx hb dK_raised_39 (by decide) ?_
          rw [show (↑i - 1 - 1 : Int) = ↑(i - 1) - 1 from by omega] at hl
          exact ihL11 (i - 1) sp an v _ _ _ (by omega) hA9 (by omega) (by have e9 : n / 2 ^ (i - 1) = 2 * (n / 2 ^ i) := (by omega); rw [e9, ← hph.1]; exact hNan) hVx fr hZ hS (lv_sub hl [1, 2, 3, 0] rfl)
        · refine lv_aload_n hx hb dK_raised_31 rfl (lv_at hl 0 rfl) ?_
          refine lv_aload_n hx hb dK_raised_32 rfl (lv_at hl 1 rfl) ?_
          refine zcV_v 1 (As := [.ref (B + a)]) (rest := []) rfl ⟨hx, hb, hml, hown, ht⟩ (mK_times l E B v o sp an hA9 ((x ^ (n / 2 ^ i)) * (x ^ (n / 2 ^ i))) hNan a hla (x) hVx nx_a_an (by have h9 := smp_mul (i := 2 * (n / 2 ^ i)) (j := 1) hsp (by omega); rw [Int.pow_one, ← hph.1] at h9; exact h9)) tw_462 tw_459 tw_461 tp_6 tw_3 qK_times (by rw [hR]; decide) (zK_recv hK hZ) hZ hK hl.1 rfl rfl (Nat.le_of_ble_eq_true rfl) dK_raised_33 ⟨Nat.zero_le _, Nat.zero_le _⟩ hS (fun u H locs hp hZ _ hS => ?_)
          obtain ⟨v, a9, s9, o9⟩ := u
          obtain ⟨ho, ⟨e8, e9⟩, hN9⟩ := hp
          dsimp only at ho e8 e9 hN9 hZ
          rw [e8, e9] at hZ
          have hVx : zN (v a) (x) := by rw [ho _ (by omega) (by omega)]; exact hVx
          have fr : ∀ j, j ≠ 27 → j ≠ 29 → v j = v0 j := fun j h0 h1 => (ho j h0 h1).trans (fr j h0 h1)
          have hNan : zN (v an) (((x ^ (n / 2 ^ i)) * (x ^ (n / 2 ^ i))) * (x)) := hN9
          have hA9 : (an = 27 ∧ sp = 29) ∨ (an = 29 ∧ sp = 27) := by omega
          refine lv_iinc (v := iZ (↑i - 1 - 1)) (lv' := [(3, .int (iZ (↑i - 1 - 1))), (0, .ref (B + 22)), (1, .ref (B + a)), (2, .int (iZ (↑n)))]) hx hb dK_raised_36 hl (k := 3) rfl (iZ_dec _ _) (by decide) rfl (fun ls hl => ?_)
          refine lv_goto (tgt := 11) hx hb dK_raised_39 (by decide) ?_
          rw [show (↑i - 1 - 1 : Int) = ↑(i - 1) - 1 from by omega] at hl
          exact ihL11 (i - 1) an sp v _ _ _ (by omega) hA9 (by omega) (by have e9 : n / 2 ^ (i - 1) = 2 * (n / 2 ^ i) + 1 := (by omega); rw [e9, Int.pow_succ, ← hph.1]; exact hNan) hVx fr hZ hS (lv_sub hl [1, 2, 3, 0] rfl)
  exact L11 _ 31 an0 sp0 v _ _ _ (Nat.lt_succ_self _) hA0 (by omega) (by rw [Nat.div_eq_of_lt hn, Int.pow_zero]; exact hNan) hVx fr hZ hS (lv_sub hl [1, 2, 3, 0] rfl)
