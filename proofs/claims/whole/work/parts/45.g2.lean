/-- a size has m digits -/
def ndg (b W m : Nat) : Prop := 1 ≤ m ∧ W < b ^ m ∧ (1 < m → b ^ (m - 1) ≤ W)
def lf (x : Int) (q : Nat) : Int := if x < 0 then -(q : Int) else (q : Int)
theorem lf_abs (x : Int) (q : Nat) : (lf x q).natAbs = q := by unfold lf; split <;> omega
theorem lf_0 (x : Int) (q : Nat) : lf x q = 0 ↔ q = 0 := by unfold lf; split <;> omega
theorem lf_x (x : Int) : lf x x.natAbs = x := by unfold lf; split <;> omega
theorem mod_dig (A b k t : Nat) (ht : t < k) : A % b ^ k / b ^ t % b = A / b ^ t % b := by
  obtain ⟨r, rfl⟩ : ∃ r, k = t + (r + 1) := ⟨k - t - 1, by omega⟩
  rw [Nat.pow_add, Nat.mod_mul_right_div_self, Nat.pow_succ, Nat.mul_comm (b ^ r), Nat.mod_mul_right_mod]
theorem dgs_join {g g1 : Nat → Nat} {b W m k m1 p : Nat} (h : dgs g 2049 b W m) (hm : m ≤ 2048) (hm1 : m1 ≤ 2049 - m) (hk : m1 ≤ k) (hp : p = W / b ^ m % b ^ k) (h1 : dgs g1 (2049 - m) b p m1) (hs : ∀ i, 2049 - m ≤ i → g1 i = g i) : dgs g1 2049 b W (m + m1) := by
  intro j hj
  rcases Nat.lt_or_ge j m with h9 | h9
  · rw [hs _ (by omega)]; exact h j h9
  · have h8 := h1 (j - m) (by omega)
    rw [show 2049 - m - 1 - (j - m) = 2049 - 1 - j by omega, hp, mod_dig _ _ _ _ (by omega), Nat.div_div_eq_div_mul, ← Nat.pow_add, show m + (j - m) = j by omega] at h8
    exact h8
theorem fill_b {b W : Nat} (hb : 2 ≤ b) (hW : W < 2 ^ 2048) : W < b ^ 2048 := Nat.lt_of_lt_of_le hW (Nat.pow_le_pow_left hb _)
theorem fill_m {b W m : Nat} (hb : 2 ≤ b) (hW : W < 2 ^ 2048) (h : W / b ^ m ≠ 0) : m < 2048 := by
  rcases Nat.lt_or_ge m 2048 with h9 | h9
  · exact h9
  · exact absurd (Nat.div_eq_of_lt (Nat.lt_of_lt_of_le (fill_b hb hW) (Nat.pow_le_pow_right (by omega) h9))) h
theorem fill_p {b W m : Nat} (hb : 2 ≤ b) (hW : W < 2 ^ 2048) (h : m ≤ 2048) : W / b ^ m < b ^ (2048 - m) := by
  apply Nat.div_lt_of_lt_mul
  rw [← Nat.pow_add, show m + (2048 - m) = 2048 by omega]
  exact fill_b hb hW
theorem fill_152 {b W k i : Nat} (hk : dil b k) (hW : W < 2 ^ 2048) (hi : 152 ≤ i) : W / b ^ (k * i) = 0 := by
  apply Nat.div_eq_of_lt
  obtain ⟨h1, h2, h3, h4⟩ := hk
  have hb : 0 < b := by
    rcases Nat.eq_zero_or_pos b with h9 | h9
    · rw [h9, Nat.zero_pow (by omega)] at h2; omega
    · exact h9
  have e1 : 2 ^ 28 ≤ b ^ (2 * k) := Nat.le_trans h2 (Nat.pow_le_pow_right hb (by omega))
  have e2 := Nat.pow_le_pow_left e1 76
  rw [← Nat.pow_mul, ← Nat.pow_mul] at e2
  have e3 : b ^ (2 * k * 76) ≤ b ^ (k * i) := Nat.pow_le_pow_right hb (by rw [Nat.mul_comm 2 k, Nat.mul_assoc]; exact Nat.mul_le_mul_left _ (by omega))
  have e4 : 2 ^ 2048 ≤ 2 ^ (28 * 76) := Nat.pow_le_pow_right (by decide) (by decide)
  exact Nat.lt_of_lt_of_le hW (Nat.le_trans e4 (Nat.le_trans e2 e3))
theorem fill_end {b W m m1 : Nat} (hb : 2 ≤ b) (h1 : 1 ≤ m1) (hp : W / b ^ m < b ^ m1) (hn : 1 < m1 → b ^ (m1 - 1) ≤ W / b ^ m) (h0 : m = 0 ∨ W / b ^ m ≠ 0) : ndg b W (m + m1) := by
  have hp0 : 0 < b ^ m := Nat.pow_pos (by omega)
  refine ⟨by omega, ?_, fun h9 => ?_⟩
  · rw [Nat.pow_add]
    exact (Nat.div_lt_iff_lt_mul hp0).mp hp |> fun h => by rw [Nat.mul_comm]; exact h
  · have key : ∀ q, q ≤ W / b ^ m → b ^ m * q ≤ W := fun q hq => Nat.le_trans (Nat.mul_le_mul_left _ hq) (Nat.mul_div_le _ _)
    rcases Nat.lt_or_ge 1 m1 with h8 | h8
    · have := key _ (hn h8)
      rw [← Nat.pow_add] at this
      rw [show m + m1 - 1 = m + (m1 - 1) by omega]
      exact this
    · have := key 1 (Nat.pos_of_ne_zero (h0.resolve_left (by omega)))
      rw [Nat.mul_one] at this
      rw [show m + m1 - 1 = m by omega]
      exact this
set_option maxHeartbeats 4000000 in
set_option maxRecDepth 100000 in
theorem mG_fill (l : Launch) (E : zE) (B : Nat) (v0 : Nat → zV) (o : Nat → va_E) (ct0 : Nat) (f0 : Nat → Nat) (a : Nat) (hla : lp a = true) (x : Int) (hVx : zN (v0 a) x) (hXx : zX x) (ha : a < 22) (b : Nat) (hbs : 2 ≤ b ∧ b ≤ 36) (hg : ∀ i, f0 i < 128) :
    Met l yG_fill (zws yG_fill cG_fill 9 (some .int)) { frames := 2, cells := 0, slots := 0, locals := 80 } (zPc E (zD E B v0 (zg E B o ct0 f0)) [.ref (B + 76), .ref (B + a), .int (iZ (↑b))]) (va_Qi (fun (r : Int32) (u : (Nat → zV) × Nat × (Nat → Nat)) => (∀ j, j ≠ 78 → u.1 j = v0 j) ∧ ∃ m, ndg b x.natAbs m ∧ m ≤ 2048 ∧ dgs u.2.2 2049 b x.natAbs m ∧ (∀ i, u.2.2 i < 128) ∧ (x < 0 → u.2.2 (2048 - m) = 45) ∧ u.2.1 = 2049 - m - (if x < 0 then 1 else 0) ∧ r = iZ ((m + (if x < 0 then 1 else 0) : Nat) : Int)) (fun (u : (Nat → zV) × Nat × (Nat → Nat)) t => zD E B u.1 (zg E B o u.2.1 u.2.2) t.heap ∧ zK E t) (zA B 80)) 0 0 (zA B 80) := by
  refine zof_i (P' := fun (u : (Nat → zV) × Nat × (Nat → Nat)) H => zD E B u.1 (zg E B o u.2.1 u.2.2) H) (by decide) (Nat.le_of_ble_eq_true rfl) fun p e R s m args below meth c Q ls hR hx hb hml ht hown hK hZ hl hend => ?_
  have hS : va_S (zA B 80) s.heap s.heap [] := va_S.rf
  have hown : s.vm.findClass "WholeDesk$Writing" = some m.cls := hown
  have hl : lv_has ls 9 [(0, .ref (B + 76)), (1, .ref (B + a)), (2, .int (iZ (↑b)))] := hl
  have hXn : x.natAbs < 2 ^ 2048 := hXx
  have hnx := zN_neg hVx
  have ne_a : a ≠ 78 := by omega
  have fr : ∀ j, j ≠ 78 → v0 j = v0 j := fun j _ => rfl
  refine lv_iload_n hx hb dG_fill_0 rfl (lv_at hl 2 rfl) ?_
  refine zcS_i 1 (As := [.int (iZ (↑b))]) (rest := []) ⟨hx, hb, hml, hown, ht⟩ (mG_digitsInLimb l E B v0 (zg E B o ct0 f0) b hbs) tw_659 tw_657 tw_658 tw_5 qG_digitsInLimb (by rw [hR]; decide) hZ hK hl.1 rfl rfl (Nat.le_of_ble_eq_true rfl) dG_fill_1 ⟨Nat.zero_le _, Nat.zero_le _⟩ hS (fun r_1 v1 H locs hp hZ _ hS => ?_)
  obtain ⟨hv1, kd, hr1, hdil⟩ := hp
  rw [hv1] at hZ
  subst hr1
  clear hv1 v1
  obtain ⟨hd1, hd2, hd3, hd4⟩ := hdil
  have hdil : dil b kd := ⟨hd1, hd2, hd3, hd4⟩
  have hpk : 0 < b ^ kd := Nat.pow_pos (by omega)
  refine lv_istore_n (lv' := [(3, .int (iZ (↑kd))), (0, .ref (B + 76)), (1, .ref (B + a)), (2, .int (iZ (↑b)))]) hx hb dG_fill_4 rfl hl (by decide) rfl (fun ls hl => ?_)
  refine lv_lconst (v := lZ (1)) hx hb dG_fill_5 (by decide) ?_
  refine lv_lstore (lv' := [(4, .long (lZ (1))), (3, .int (iZ (↑kd))), (0, .ref (B + 76)), (1, .ref (B + a)), (2, .int (iZ (↑b)))]) hx hb dG_fill_6 hl (by decide) rfl (fun ls hl => ?_)
  refine lv_iconst (v := iZ (0)) hx hb dG_fill_8 (by decide) ?_
  refine lv_istore (lv' := [(6, .int (iZ (0))), (4, .long (lZ (1))), (3, .int (iZ (↑kd))), (0, .ref (B + 76)), (1, .ref (B + a)), (2, .int (iZ (↑b)))]) hx hb dG_fill_9 hl (by decide) rfl (fun ls hl => ?_)
  have L11 : ∀ (fu : Nat) (i : Nat) (v : Nat → zV) (H : Heap) (locs : List Loc) (ls : Array Slot), kd - i < fu → (i ≤ kd) → zN (v a) (x) → (∀ j, j ≠ 78 → v j = v0 j) → zD E B v (zg E B o ct0 f0) H → va_S (zA B 80) s.heap H locs → lv_has ls 9 [(0, .ref (B + 76)), (1, .ref (B + a)), (2, .int (iZ (↑b))), (3, .int (iZ (↑kd))), (4, .long (lZ (((b ^ i : Nat) : Int)))), (6, .int (iZ (↑i)))] → W p l e R s m args below meth c H locs 0 0 Q (F0 m 11 ls []) := by
    intro fu
    induction fu with
    | zero => intro i v H locs ls hm; exact absurd hm (Nat.not_lt_zero _)
    | succ fu ihL11 =>
      intro i v H locs ls hm hi hVx fr hZ hS hl
      refine lv_iload hx hb dG_fill_11 (lv_at hl 5 rfl) ?_
      refine lv_iload_n hx hb dG_fill_13 rfl (lv_at hl 3 rfl) ?_
      refine zr_icmp_ge (tgt := 30) hx hb (by unfold zi; omega) (by unfold zi; omega) dG_fill_14 (by decide) (fun c_2 => ?_) (fun c_2 => ?_)
      · have hik : i = kd := by omega
        rw [hik] at hl
        refine lv_aload_n hx hb dG_fill_30 rfl (lv_at hl 0 rfl) ?_
        refine zg_left hx hb ht hown hK hZ tw_119 dG_fill_31 ?_
        refine lv_aload_n hx hb dG_fill_34 rfl (lv_at hl 1 rfl) ?_
        refine zcV_v 1 (As := [.ref (B + a)]) (rest := []) rfl ⟨hx, hb, hml, hown, ht⟩ (mW_copy l E B v (zg E B o ct0 f0) 78 (by decide) (v 78).1 (v 78).2.1 (v 78).2.2 rfl a hla (v a).1 (v a).2.1 (v a).2.2 rfl ne_a) tw_345 tw_661 tw_343 tw_344 tw_2 qW_copy (by rw [hR]; decide) (zW_recv hK hZ (by decide)) hZ hK hl.1 rfl rfl (Nat.le_of_ble_eq_true rfl) dG_fill_35 ⟨Nat.zero_le _, Nat.zero_le _⟩ hS (fun v H locs hp hZ _ hS => ?_)
        obtain ⟨ho, d9, ev9, hd9⟩ := hp
        have hN9 : zN (v 78) (x) := by rw [ev9]; exact zN_copy hVx hd9
        have hVx : zN (v a) (x) := by rw [ho _ ne_a]; exact hVx
        have fr : ∀ j, j ≠ 78 → v j = v0 j := fun j h0 => (ho j h0).trans (fr j h0)
        have hNl : zN (v 78) (x) := hN9
        refine lv_aload_n hx hb dG_fill_38 rfl (lv_at hl 0 rfl) ?_
        refine lv_sipush (v := iZ (2049)) hx hb dG_fill_39 (by decide) ?_
        rw [show (2049 : Int) = ((2049 : Nat) : Int) from rfl]
        refine zg_put_start (ct1 := 2049) hx hb ht hown hK hZ hS tw_118 dG_fill_42 (fun H locs hZ hS => ?_)
        have hNl : zN (v 78) (lf x (x.natAbs / b ^ (kd * 0))) := by rw [Nat.mul_zero, Nat.pow_zero, Nat.div_one, lf_x]; exact hNl
        refine lv_iconst (v := iZ (0)) hx hb dG_fill_45 (by decide) ?_
        refine lv_istore (lv' := [(6, .int (iZ (0))), (0, .ref (B + 76)), (1, .ref (B + a)), (2, .int (iZ (↑b))), (3, .int (iZ (↑kd))), (4, .long (lZ (((b ^ kd : Nat) : Int))))]) hx hb dG_fill_46 hl (by decide) rfl (fun ls hl => ?_)
        have L48 : ∀ (fu : Nat) (i : Nat) (md : Nat) (g1 : Nat → Nat) (v : Nat → zV) (H : Heap) (locs : List Loc) (ls : Array Slot), 152 - i < fu → (i ≤ 152) → ((i = 0 ∨ x.natAbs / b ^ (kd * i) ≠ 0) → md = kd * i) → (i ≠ 0 → x.natAbs / b ^ (kd * i) = 0 → ndg b x.natAbs md) → (md ≤ 2048) → (dgs g1 2049 b x.natAbs md) → (∀ q, g1 q < 128) → zN (v 78) (lf x (x.natAbs / b ^ (kd * i))) → zN (v a) (x) → (∀ j, j ≠ 78 → v j = v0 j) → zD E B v (zg E B o (2049 - md) g1) H → va_S (zA B 80) s.heap H locs → lv_has ls 9 [(0, .ref (B + 76)), (1, .ref (B + a)), (2, .int (iZ (↑b))), (3, .int (iZ (↑kd))), (4, .long (lZ (((b ^ kd : Nat) : Int)))), (6, .int (iZ (↑i)))] → W p l e R s m args below meth c H locs 0 0 Q (F0 m 48 ls []) := by
          intro fu
          induction fu with
          | zero => intro i md g1 v H locs ls hm; exact absurd hm (Nat.not_lt_zero _)
          | succ fu ihL48 =>
            intro i md g1 v H locs ls hm hi hA hB hm8 hd h128 hNl hVx fr hZ hS hl
            refine lv_iload hx hb dG_fill_48 (lv_at hl 5 rfl) ?_
            refine lv_sipush (v := iZ (152)) hx hb dG_fill_50 (by decide) ?_
            refine zr_icmp_ge (tgt := 110) hx hb (by unfold zi; omega) (by unfold zi; omega) dG_fill_53 (by decide) (fun c_3 => ?_) (fun c_3 => ?_)
            · have hend9 : ndg b x.natAbs md := hB (by omega) (fill_152 hdil hXn (by omega))
              have hva : v a = v0 a := fr a ne_a
              refine lv_aload_n hx hb dG_fill_110 rfl (lv_at hl 1 rfl) ?_
              refine zw_below (d := (v a).1) (n := (v a).2.1) (b := (v a).2.2) hx hb ht hown hK hZ hla rfl tw_40 dG_fill_111 ?_
              rw [hva]
              refine zr_if_eq (tgt := 123) hx hb (by have := bZ_01 ((v0 a).2.2); omega) dG_fill_114 (by decide) (fun c_4 => ?_) (fun c_4 => ?_)
              · have hx0 : ¬ x < 0 := fun h9 => absurd (hnx.mpr h9) (by rw [show (v0 a).2.2 = false from bZ_f.mp (by assumption)]; decide)
                refine lv_sipush (v := iZ (2049)) hx hb dG_fill_123 (by decide) ?_
                refine lv_aload_n hx hb dG_fill_126 rfl (lv_at hl 0 rfl) ?_
                refine zg_start hx hb ht hown hK hZ tw_118 dG_fill_127 ?_
                refine zr_isub hx hb dG_fill_130 ?_
                refine zc_i (y := iZ ((md + (if x < 0 then 1 else 0) : Nat) : Int)) (congrArg iZ (by rw [if_neg hx0]; omega)) ?_
                exact hend 131 _ (v, 2049 - md, g1) _ _ _ dG_fill_131 (⟨fr, md, hend9, hm8, hd, h128, fun h9 => absurd h9 hx0, by rw [if_neg hx0]; rfl, rfl⟩) hZ hS
              · have hx0 : x < 0 := hnx.mp (bZ_nf.mp (by assumption))
                refine lv_aload_n hx hb dG_fill_117 rfl (lv_at hl 0 rfl) ?_
                refine lv_bipush (v := iZ (45)) hx hb dG_fill_118 (by decide) ?_
                refine zcV_v 1 (As := [.int (iZ (45))]) (rest := []) rfl ⟨hx, hb, hml, hown, ht⟩ (mG_prepend l E B v o (2049 - md) g1 45 (by omega) (by omega) (by omega)) tw_670 tw_667 tw_669 tp_11 tw_5 qG_prepend (by rw [hR]; decide) (zg_recv hK hZ) hZ hK hl.1 rfl rfl (Nat.le_of_ble_eq_true rfl) dG_fill_120 ⟨Nat.zero_le _, Nat.zero_le _⟩ hS (fun u H locs hp hZ _ hS => ?_)
                subst hp
                dsimp only at hZ
                refine lv_sipush (v := iZ (2049)) hx hb dG_fill_123 (by decide) ?_
                refine lv_aload_n hx hb dG_fill_126 rfl (lv_at hl 0 rfl) ?_
                refine zg_start hx hb ht hown hK hZ tw_118 dG_fill_127 ?_
                refine zr_isub hx hb dG_fill_130 ?_
                refine zc_i (y := iZ ((md + (if x < 0 then 1 else 0) : Nat) : Int)) (congrArg iZ (by rw [if_pos hx0]; omega)) ?_
                exact hend 131 _ (v, 2049 - md - 1, va_up g1 (2049 - md - 1) 45) _ _ _ dG_fill_131 (⟨fr, md, hend9, hm8, fun j hj => by show va_up g1 (2049 - md - 1) 45 _ = _; rw [va_up_ne _ _ (by omega)]; exact hd j hj, fun i => by show va_up g1 (2049 - md - 1) 45 _ < _; by_cases h9 : i = 2049 - md - 1; rw [h9, va_up_self]; decide; rw [va_up_ne _ _ h9]; exact h128 i, fun _ => by show va_up g1 (2049 - md - 1) 45 _ = _; rw [show 2048 - md = 2049 - md - 1 by omega, va_up_self], by rw [if_pos hx0], rfl⟩) hZ hS
            · refine lv_iload hx hb dG_fill_56 (lv_at hl 5 rfl) ?_
              refine zr_if_eq (tgt := 71) hx hb (by unfold zi; omega) dG_fill_58 (by decide) (fun c_5 => ?_) (fun c_5 => ?_)
              · have h0i : i = 0 ∨ x.natAbs / b ^ (kd * i) ≠ 0 := Or.inl (by omega)
                have hmd : md = kd * i := hA h0i
                have hmd8 : md ≤ 2047 := by rcases h0i with h9 | h9; rw [hmd, h9, Nat.mul_zero]; decide; have := fill_m hbs.1 hXn h9; omega
                have hnl : x < 0 → (v 78).2.2 = true := by
                  intro h9
                  rw [zN_neg hNl]
                  unfold lf
                  rw [if_pos h9]
                  rcases h0i with h8 | h8
                  · rw [h8, Nat.mul_zero, Nat.pow_zero, Nat.div_one]; omega
                  · exact Int.neg_neg_of_pos (Int.ofNat_lt.mpr (Nat.pos_of_ne_zero h8))
                have hnl2 : (v 78).2.2 = true → x < 0 := by
                  intro h9
                  have h8 := (zN_neg hNl).mp h9
                  unfold lf at h8
                  split at h8
                  · assumption
                  · exact absurd h8 (Int.not_lt.mpr (Int.natCast_nonneg _))
                refine lv_aload_n hx hb dG_fill_71 rfl (lv_at hl 0 rfl) ?_
                refine zg_left hx hb ht hown hK hZ tw_119 dG_fill_72 ?_
                refine lv_lload hx hb dG_fill_75 (lv_at hl 4 rfl) ?_
                refine zcV_l 1 (As := [.long (lZ (((b ^ kd : Nat) : Int)))]) (rest := []) rfl ⟨hx, hb, hml, hown, ht⟩ (mW_shrink l E B v (zg E B o (2049 - md) g1) 78 (by decide) (v 78).1 (v 78).2.1 (v 78).2.2 rfl (b ^ kd) (by omega) (by omega)) tw_489 tw_662 tw_487 tw_488 tw_2 qW_shrink (by rw [hR]; decide) (zW_recv hK hZ (by decide)) hZ hK hl.1 rfl rfl (Nat.le_of_ble_eq_true rfl) dG_fill_77 ⟨Nat.zero_le _, Nat.zero_le _⟩ hS (fun r_6 v H locs hp hZ _ hS => ?_)
                obtain ⟨ho, q9, r9, hr9, hr8, hq9, hN9⟩ := hp
                subst hr9
                rw [← zN_abs hNl, lf_abs] at hq9
                have hqq : q9 = x.natAbs / b ^ (kd * (i + 1)) := by rw [Nat.mul_succ, Nat.pow_add, ← Nat.div_div_eq_div_mul, ← hq9, Nat.mul_comm q9, Nat.mul_add_div (by omega), Nat.div_eq_of_lt hr8, Nat.add_zero]
                have hrr : r9 = x.natAbs / b ^ (kd * i) % b ^ kd := by rw [← hq9, Nat.mul_comm q9, Nat.mul_add_mod, Nat.mod_eq_of_lt hr8]
                have hN8 : zN (v 78) (lf x (x.natAbs / b ^ (kd * (i + 1)))) := by rw [← hqq]; unfold lf; by_cases h9 : x < 0; rw [if_pos h9]; rw [if_pos (hnl h9)] at hN9; exact hN9; rw [if_neg h9]; rw [if_neg (fun h8 => h9 (hnl2 h8))] at hN9; exact hN9
                have hVx : zN (v a) (x) := by rw [ho _ ne_a]; exact hVx
                have fr : ∀ j, j ≠ 78 → v j = v0 j := fun j h0 => (ho j h0).trans (fr j h0)
                have hNl : zN (v 78) (lf x (x.natAbs / b ^ (kd * (i + 1)))) := hN8
                refine lv_lstore (lv' := [(7, .long (lZ (↑r9))), (0, .ref (B + 76)), (1, .ref (B + a)), (2, .int (iZ (↑b))), (3, .int (iZ (↑kd))), (4, .long (lZ (((b ^ kd : Nat) : Int)))), (6, .int (iZ (↑i)))]) hx hb dG_fill_80 hl (by decide) rfl (fun ls hl => ?_)
                refine lv_aload_n hx hb dG_fill_82 rfl (lv_at hl 1 rfl) ?_
                refine lv_lload hx hb dG_fill_83 (lv_at hl 0 rfl) ?_
                refine lv_iload_n hx hb dG_fill_85 rfl (lv_at hl 3 rfl) ?_
                refine lv_aload_n hx hb dG_fill_86 rfl (lv_at hl 1 rfl) ?_
                refine zg_left hx hb ht hown hK hZ tw_119 dG_fill_87 ?_
                refine zw_count (d := (v 78).1) (n := (v 78).2.1) (b := (v 78).2.2) hx hb ht hown hK hZ (by decide) rfl tw_35 dG_fill_90 ?_
                have hc9 := zN_0 hNl
                rw [lf_0] at hc9
                refine zr_if_ne (tgt := 100) hx hb (by unfold zi; have := (hZ.2 78 (by decide)).2; omega) dG_fill_93 (by decide) (fun c_7 => ?_) (fun c_7 => ?_)
                · have hW9 : x.natAbs / b ^ (kd * (i + 1)) ≠ 0 := fun h9 => absurd (hc9.mpr h9) (by omega)
                  have hmk : md + kd < 2048 := by have := fill_m hbs.1 hXn hW9; rw [Nat.mul_succ, ← hmd] at this; exact this
                  refine lv_iload_n hx hb dG_fill_100 rfl (lv_at hl 4 rfl) ?_
                  refine zcV_v 3 (As := [.long (lZ (↑r9)), .int (iZ (↑b)), .int (iZ (↑kd))]) (rest := []) rfl ⟨hx, hb, hml, hown, ht⟩ (mG_prependDigits l E B v o (2049 - md) g1 r9 b kd (kd) hbs (hr8) (by omega) (by omega) (Nat.le_refl _) (by omega) (by omega) (by omega) h128) tw_666 tw_663 tw_665 tp_10 tw_5 qG_prependDigits (by rw [hR]; decide) (zg_recv hK hZ) hZ hK hl.1 rfl rfl (Nat.le_of_ble_eq_true rfl) dG_fill_101 ⟨Nat.zero_le _, Nat.zero_le _⟩ hS (fun u H locs hp hZ _ hS => ?_)
                  obtain ⟨m1, g2, hm1, hm2, hm3, hm4, hu, hd2, hk2, h1282⟩ := hp
                  subst hu
                  dsimp only at hZ
                  rw [Nat.sub_sub] at hZ
                  refine lv_iinc (v := iZ (↑i + 1)) (lv' := [(6, .int (iZ (↑i + 1))), (7, .long (lZ (↑r9))), (0, .ref (B + 76)), (1, .ref (B + a)), (2, .int (iZ (↑b))), (3, .int (iZ (↑kd))), (4, .long (lZ (((b ^ kd : Nat) : Int))))]) hx hb dG_fill_104 hl (k := 6) rfl (iZ_add _ _) (by decide) rfl (fun ls hl => ?_)
                  refine lv_goto (tgt := 48) hx hb dG_fill_107 (by decide) ?_
                  rw [show (↑i + 1 : Int) = ↑(i + 1) from by omega] at hl
                  exact ihL48 (i + 1) (md + m1) g2 v _ _ _ (by omega) (by omega) (fun _ => by rw [show m1 = kd by omega, hmd, Nat.mul_succ]) (fun _ h9 => absurd h9 hW9) (by omega) (dgs_join (k := kd) hd hm8 (by omega) (by omega) (by rw [hmd]; exact hrr) hd2 hk2) (h1282) hNl hVx fr hZ hS (lv_sub hl [2, 3, 4, 5, 6, 0] rfl)
                · have hW9 : x.natAbs / b ^ (kd * (i + 1)) = 0 := hc9.mp (by omega)
                  have hrW : r9 = x.natAbs / b ^ md := by rw [hrr, hmd]; apply Nat.mod_eq_of_lt; rw [Nat.mul_succ, Nat.pow_add, ← Nat.div_div_eq_div_mul] at hW9; rcases Nat.lt_or_ge (x.natAbs / b ^ (kd * i)) (b ^ kd) with h9 | h9; exact h9; exact absurd hW9 (Nat.pos_iff_ne_zero.mp (Nat.div_pos h9 hpk))
                  have hrM : r9 < b ^ (min kd (2048 - md)) := by rcases Nat.le_total kd (2048 - md) with h9 | h9; rw [Nat.min_eq_left h9]; exact hr8; rw [Nat.min_eq_right h9, hrW]; exact fill_p hbs.1 hXn hm8
                  refine lv_iconst (v := iZ (1)) hx hb dG_fill_96 (by decide) ?_
                  refine lv_goto (tgt := 101) hx hb dG_fill_97 (by decide) ?_
                  refine zcV_v 3 (As := [.long (lZ (↑r9)), .int (iZ (↑b)), .int (iZ (1))]) (rest := []) rfl ⟨hx, hb, hml, hown, ht⟩ (mG_prependDigits l E B v o (2049 - md) g1 r9 b 1 (min kd (2048 - md)) hbs (hrM) (by omega) (by decide) (by omega) (by omega) (by omega) (by omega) h128) tw_666 tw_663 tw_665 tp_10 tw_5 qG_prependDigits (by rw [hR]; decide) (zg_recv hK hZ) hZ hK hl.1 rfl rfl (Nat.le_of_ble_eq_true rfl) dG_fill_101 ⟨Nat.zero_le _, Nat.zero_le _⟩ hS (fun u H locs hp hZ _ hS => ?_)
                  obtain ⟨m1, g2, hm1, hm2, hm3, hm4, hu, hd2, hk2, h1282⟩ := hp
                  subst hu
                  dsimp only at hZ
                  rw [Nat.sub_sub] at hZ
                  refine lv_iinc (v := iZ (↑i + 1)) (lv' := [(6, .int (iZ (↑i + 1))), (7, .long (lZ (↑r9))), (0, .ref (B + 76)), (1, .ref (B + a)), (2, .int (iZ (↑b))), (3, .int (iZ (↑kd))), (4, .long (lZ (((b ^ kd : Nat) : Int))))]) hx hb dG_fill_104 hl (k := 6) rfl (iZ_add _ _) (by decide) rfl (fun ls hl => ?_)
                  refine lv_goto (tgt := 48) hx hb dG_fill_107 (by decide) ?_
                  rw [show (↑i + 1 : Int) = ↑(i + 1) from by omega] at hl
                  exact ihL48 (i + 1) (md + m1) g2 v _ _ _ (by omega) (by omega) (fun h9 => absurd hW9 (h9.resolve_left (by omega))) (fun _ _ => fill_end hbs.1 hm1 (hrW ▸ hm3) (fun h9 => hrW ▸ hm4 h9) (by rcases h0i with h9 | h9; left; rw [hmd, h9, Nat.mul_zero]; right; rw [hmd]; exact h9)) (by omega) (dgs_join (k := kd) hd hm8 (by omega) (by omega) (by rw [hmd]; exact hrr) hd2 hk2) (h1282) hNl hVx fr hZ hS (lv_sub hl [2, 3, 4, 5, 6, 0] rfl)
              · have hci := (zN_0 hNl)
                rw [lf_0] at hci
                refine lv_aload_n hx hb dG_fill_61 rfl (lv_at hl 0 rfl) ?_
                refine zg_left hx hb ht hown hK hZ tw_119 dG_fill_62 ?_
                refine zw_count (d := (v 78).1) (n := (v 78).2.1) (b := (v 78).2.2) hx hb ht hown hK hZ (by decide) rfl tw_35 dG_fill_65 ?_
                refine zr_if_le (tgt := 110) hx hb (by unfold zi; have := (hZ.2 78 (by decide)).2; omega) dG_fill_68 (by decide) (fun c_8 => ?_) (fun c_8 => ?_)
                · have hend9 : ndg b x.natAbs md := hB (by omega) (hci.mp (by omega))
                  have hva : v a = v0 a := fr a ne_a
                  refine lv_aload_n hx hb dG_fill_110 rfl (lv_at hl 1 rfl) ?_
                  refine zw_below (d := (v a).1) (n := (v a).2.1) (b := (v a).2.2) hx hb ht hown hK hZ hla rfl tw_40 dG_fill_111 ?_
                  rw [hva]
                  refine zr_if_eq (tgt := 123) hx hb (by have := bZ_01 ((v0 a).2.2); omega) dG_fill_114 (by decide) (fun c_9 => ?_) (fun c_9 => ?_)
                  · have hx0 : ¬ x < 0 := fun h9 => absurd (hnx.mpr h9) (by rw [show (v0 a).2.2 = false from bZ_f.mp (by assumption)]; decide)
                    refine lv_sipush (v := iZ (2049)) hx hb dG_fill_123 (by decide) ?_
                    refine lv_aload_n hx hb dG_fill_126 rfl (lv_at hl 0 rfl) ?_
                    refine zg_start hx hb ht hown hK hZ tw_118 dG_fill_127 ?_
                    refine zr_isub hx hb dG_fill_130 ?_
                    refine zc_i (y := iZ ((md + (if x < 0 then 1 else 0) : Nat) : Int)) (congrArg iZ (by rw [if_neg hx0]; omega)) ?_
                    exact hend 131 _ (v, 2049 - md, g1) _ _ _ dG_fill_131 (⟨fr, md, hend9, hm8, hd, h128, fun h9 => absurd h9 hx0, by rw [if_neg hx0]; rfl, rfl⟩) hZ hS
                  · have hx0 : x < 0 := hnx.mp (bZ_nf.mp (by assumption))
                    refine lv_aload_n hx hb dG_fill_117 rfl (lv_at hl 0 rfl) ?_
                    refine lv_bipush (v := iZ (45)) hx hb dG_fill_118 (by decide) ?_
                    refine zcV_v 1 (As := [.int (iZ (45))]) (rest := []) rfl ⟨hx, hb, hml, hown, ht⟩ (mG_prepend l E B v o (2049 - md) g1 45 (by omega) (by omega) (by omega)) tw_670 tw_667 tw_669 tp_11 tw_5 qG_prepend (by rw [hR]; decide) (zg_recv hK hZ) hZ hK hl.1 rfl rfl (Nat.le_of_ble_eq_true rfl) dG_fill_120 ⟨Nat.zero_le _, Nat.zero_le _⟩ hS (fun u H locs hp hZ _ hS => ?_)
                    subst hp
                    dsimp only at hZ
                    refine lv_sipush (v := iZ (2049)) hx hb dG_fill_123 (by decide) ?_
                    refine lv_aload_n hx hb dG_fill_126 rfl (lv_at hl 0 rfl) ?_
                    refine zg_start hx hb ht hown hK hZ tw_118 dG_fill_127 ?_
                    refine zr_isub hx hb dG_fill_130 ?_
                    refine zc_i (y := iZ ((md + (if x < 0 then 1 else 0) : Nat) : Int)) (congrArg iZ (by rw [if_pos hx0]; omega)) ?_
                    exact hend 131 _ (v, 2049 - md - 1, va_up g1 (2049 - md - 1) 45) _ _ _ dG_fill_131 (⟨fr, md, hend9, hm8, fun j hj => by show va_up g1 (2049 - md - 1) 45 _ = _; rw [va_up_ne _ _ (by omega)]; exact hd j hj, fun i => by show va_up g1 (2049 - md - 1) 45 _ < _; by_cases h9 : i = 2049 - md - 1; rw [h9, va_up_self]; decide; rw [va_up_ne _ _ h9]; exact h128 i, fun _ => by show va_up g1 (2049 - md - 1) 45 _ = _; rw [show 2048 - md = 2049 - md - 1 by omega, va_up_self], by rw [if_pos hx0], rfl⟩) hZ hS
                · have h0i : i = 0 ∨ x.natAbs / b ^ (kd * i) ≠ 0 := Or.inr (fun h9 => absurd (hci.mpr h9) (by omega))
                  have hmd : md = kd * i := hA h0i
                  have hmd8 : md ≤ 2047 := by rcases h0i with h9 | h9; rw [hmd, h9, Nat.mul_zero]; decide; have := fill_m hbs.1 hXn h9; omega
                  have hnl : x < 0 → (v 78).2.2 = true := by
                    intro h9
                    rw [zN_neg hNl]
                    unfold lf
                    rw [if_pos h9]
                    rcases h0i with h8 | h8
                    · rw [h8, Nat.mul_zero, Nat.pow_zero, Nat.div_one]; omega
                    · exact Int.neg_neg_of_pos (Int.ofNat_lt.mpr (Nat.pos_of_ne_zero h8))
                  have hnl2 : (v 78).2.2 = true → x < 0 := by
                    intro h9
                    have h8 := (zN_neg hNl).mp h9
                    unfold lf at h8
                    split at h8
                    · assumption
                    · exact absurd h8 (Int.not_lt.mpr (Int.natCast_nonneg _))
                  refine lv_aload_n hx hb dG_fill_71 rfl (lv_at hl 0 rfl) ?_
                  refine zg_left hx hb ht hown hK hZ tw_119 dG_fill_72 ?_
                  refine lv_lload hx hb dG_fill_75 (lv_at hl 4 rfl) ?_
                  refine zcV_l 1 (As := [.long (lZ (((b ^ kd : Nat) : Int)))]) (rest := []) rfl ⟨hx, hb, hml, hown, ht⟩ (mW_shrink l E B v (zg E B o (2049 - md) g1) 78 (by decide) (v 78).1 (v 78).2.1 (v 78).2.2 rfl (b ^ kd) (by omega) (by omega)) tw_489 tw_662 tw_487 tw_488 tw_2 qW_shrink (by rw [hR]; decide) (zW_recv hK hZ (by decide)) hZ hK hl.1 rfl rfl (Nat.le_of_ble_eq_true rfl) dG_fill_77 ⟨Nat.zero_le _, Nat.zero_le _⟩ hS (fun r_10 v H locs hp hZ _ hS => ?_)
                  obtain ⟨ho, q9, r9, hr9, hr8, hq9, hN9⟩ := hp
                  subst hr9
                  rw [← zN_abs hNl, lf_abs] at hq9
                  have hqq : q9 = x.natAbs / b ^ (kd * (i + 1)) := by rw [Nat.mul_succ, Nat.pow_add, ← Nat.div_div_eq_div_mul, ← hq9, Nat.mul_comm q9, Nat.mul_add_div (by omega), Nat.div_eq_of_lt hr8, Nat.add_zero]
                  have hrr : r9 = x.natAbs / b ^ (kd * i) % b ^ kd := by rw [← hq9, Nat.mul_comm q9, Nat.mul_add_mod, Nat.mod_eq_of_lt hr8]
                  have hN8 : zN (v 78) (lf x (x.natAbs / b ^ (kd * (i + 1)))) := by rw [← hqq]; unfold lf; by_cases h9 : x < 0; rw [if_pos h9]; rw [if_pos (hnl h9)] at hN9; exact hN9; rw [if_neg h9]; rw [if_neg (fun h8 => h9 (hnl2 h8))] at hN9; exact hN9
                  have hVx : zN (v a) (x) := by rw [ho _ ne_a]; exact hVx
                  have fr : ∀ j, j ≠ 78 → v j = v0 j := fun j h0 => (ho j h0).trans (fr j h0)
                  have hNl : zN (v 78) (lf x (x.natAbs / b ^ (kd * (i + 1)))) := hN8
                  refine lv_lstore (lv' := [(7, .long (lZ (↑r9))), (0, .ref (B + 76)), (1, .ref (B + a)), (2, .int (iZ (↑b))), (3, .int (iZ (↑kd))), (4, .long (lZ (((b ^ kd : Nat) : Int)))), (6, .int (iZ (↑i)))]) hx hb dG_fill_80 hl (by decide) rfl (fun ls hl => ?_)
                  refine lv_aload_n hx hb dG_fill_82 rfl (lv_at hl 1 rfl) ?_
                  refine lv_lload hx hb dG_fill_83 (lv_at hl 0 rfl) ?_
                  refine lv_iload_n hx hb dG_fill_85 rfl (lv_at hl 3 rfl) ?_
                  refine lv_aload_n hx hb dG_fill_86 rfl (lv_at hl 1 rfl) ?_
                  refine zg_left hx hb ht hown hK hZ tw_119 dG_fill_87 ?_
                  refine zw_count (d := (v 78).1) (n := (v 78).2.1) (b := (v 78).2.2) hx hb ht hown hK hZ (by decide) rfl tw_35 dG_fill_90 ?_
                  have hc9 := zN_0 hNl
                  rw [lf_0] at hc9
                  refine zr_if_ne (tgt := 100) hx hb (by unfold zi; have := (hZ.2 78 (by decide)).2; omega) dG_fill_93 (by decide) (fun c_11 => ?_) (fun c_11 => ?_)
                  · have hW9 : x.natAbs / b ^ (kd * (i + 1)) ≠ 0 := fun h9 => absurd (hc9.mpr h9) (by omega)
                    have hmk : md + kd < 2048 := by have := fill_m hbs.1 hXn hW9; rw [Nat.mul_succ, ← hmd] at this; exact this
                    refine lv_iload_n hx hb dG_fill_100 rfl (lv_at hl 4 rfl) ?_
                    refine zcV_v 3 (As := [.long (lZ (↑r9)), .int (iZ (↑b)), .int (iZ (↑kd))]) (rest := []) rfl ⟨hx, hb, hml, hown, ht⟩ (mG_prependDigits l E B v o (2049 - md) g1 r9 b kd (kd) hbs (hr8) (by omega) (by omega) (Nat.le_refl _) (by omega) (by omega) (by omega) h128) tw_666 tw_663 tw_665 tp_10 tw_5 qG_prependDigits (by rw [hR]; decide) (zg_recv hK hZ) hZ hK hl.1 rfl rfl (Nat.le_of_ble_eq_true rfl) dG_fill_101 ⟨Nat.zero_le _, Nat.zero_le _⟩ hS (fun u H locs hp hZ _ hS => ?_)
                    obtain ⟨m1, g2, hm1, hm2, hm3, hm4, hu, hd2, hk2, h1282⟩ := hp
                    subst hu
                    dsimp only at hZ
                    rw [Nat.sub_sub] at hZ
                    refine lv_iinc (v := iZ (↑i + 1)) (lv' := [(6, .int (iZ (↑i + 1))), (7, .long (lZ (↑r9))), (0, .ref (B + 76)), (1, .ref (B + a)), (2, .int (iZ (↑b))), (3, .int (iZ (↑kd))), (4, .long (lZ (((b ^ kd : Nat) : Int))))]) hx hb dG_fill_104 hl (k := 6) rfl (iZ_add _ _) (by decide) rfl (fun ls hl => ?_)
                    refine lv_goto (tgt := 48) hx hb dG_fill_107 (by decide) ?_
                    rw [show (↑i + 1 : Int) = ↑(i + 1) from by omega] at hl
                    exact ihL48 (i + 1) (md + m1) g2 v _ _ _ (by omega) (by omega) (fun _ => by rw [show m1 = kd by omega, hmd, Nat.mul_succ]) (fun _ h9 => absurd h9 hW9) (by omega) (dgs_join (k := kd) hd hm8 (by omega) (by omega) (by rw [hmd]; exact hrr) hd2 hk2) (h1282) hNl hVx fr hZ hS (lv_sub hl [2, 3, 4, 5, 6, 0] rfl)
                  · have hW9 : x.natAbs / b ^ (kd * (i + 1)) = 0 := hc9.mp (by omega)
                    have hrW : r9 = x.natAbs / b ^ md := by rw [hrr, hmd]; apply Nat.mod_eq_of_lt; rw [Nat.mul_succ, Nat.pow_add, ← Nat.div_div_eq_div_mul] at hW9; rcases Nat.lt_or_ge (x.natAbs / b ^ (kd * i)) (b ^ kd) with h9 | h9; exact h9; exact absurd hW9 (Nat.pos_iff_ne_zero.mp (Nat.div_pos h9 hpk))
                    have hrM : r9 < b ^ (min kd (2048 - md)) := by rcases Nat.le_total kd (2048 - md) with h9 | h9; rw [Nat.min_eq_left h9]; exact hr8; rw [Nat.min_eq_right h9, hrW]; exact fill_p hbs.1 hXn hm8
                    refine lv_iconst (v := iZ (1)) hx hb dG_fill_96 (by decide) ?_
                    refine lv_goto (tgt := 101) hx hb dG_fill_97 (by decide) ?_
                    refine zcV_v 3 (As := [.long (lZ (↑r9)), .int (iZ (↑b)), .int (iZ (1))]) (rest := []) rfl ⟨hx, hb, hml, hown, ht⟩ (mG_prependDigits l E B v o (2049 - md) g1 r9 b 1 (min kd (2048 - md)) hbs (hrM) (by omega) (by decide) (by omega) (by omega) (by omega) (by omega) h128) tw_666 tw_663 tw_665 tp_10 tw_5 qG_prependDigits (by rw [hR]; decide) (zg_recv hK hZ) hZ hK hl.1 rfl rfl (Nat.le_of_ble_eq_true rfl) dG_fill_101 ⟨Nat.zero_le _, Nat.zero_le _⟩ hS (fun u H locs hp hZ _ hS => ?_)
                    obtain ⟨m1, g2, hm1, hm2, hm3, hm4, hu, hd2, hk2, h1282⟩ := hp
                    subst hu
                    dsimp only at hZ
                    rw [Nat.sub_sub] at hZ
                    refine lv_iinc (v := iZ (↑i + 1)) (lv' := [(6, .int (iZ (↑i + 1))), (7, .long (lZ (↑r9))), (0, .ref (B + 76)), (1, .ref (B + a)), (2, .int (iZ (↑b))), (3, .int (iZ (↑kd))), (4, .long (lZ (((b ^ kd : Nat) : Int))))]) hx hb dG_fill_104 hl (k := 6) rfl (iZ_add _ _) (by decide) rfl (fun ls hl => ?_)
                    refine lv_goto (tgt := 48) hx hb dG_fill_107 (by decide) ?_
                    rw [show (↑i + 1 : Int) = ↑(i + 1) from by omega] at hl
                    exact ihL48 (i + 1) (md + m1) g2 v _ _ _ (by omega) (by omega) (fun h9 => absurd hW9 (h9.resolve_left (by omega))) (fun _ _ => fill_end hbs.1 hm1 (hrW ▸ hm3) (fun h9 => hrW ▸ hm4 h9) (by rcases h0i with h9 | h9; left; rw [hmd, h9, Nat.mul_zero]; right; rw [hmd]; exact h9)) (by omega) (dgs_join (k := kd) hd hm8 (by omega) (by omega) (by rw [hmd]; exact hrr) hd2 hk2) (h1282) hNl hVx fr hZ hS (lv_sub hl [2, 3, 4, 5, 6, 0] rfl)
        exact L48 _ 0 0 f0 v _ _ _ (Nat.lt_succ_self _) (Nat.zero_le _) (fun _ => rfl) (fun h9 => absurd rfl h9) (Nat.zero_le _) (fun j hj => absurd hj (Nat.not_lt_zero _)) (hg) hNl hVx fr hZ hS (lv_sub hl [1, 2, 3, 4, 5, 0] rfl)
      · refine lv_lload hx hb dG_fill_17 (lv_at hl 4 rfl) ?_
        refine lv_iload_n hx hb dG_fill_19 rfl (lv_at hl 2 rfl) ?_
        refine zr_i2l hx hb (by unfold zi; omega) dG_fill_20 ?_
        refine zr_lmul hx hb dG_fill_21 ?_
        refine zc_l (y := lZ (((b ^ (i + 1) : Nat) : Int))) (congrArg lZ (by rw [Nat.pow_succ, Int.natCast_mul])) ?_
        refine lv_lstore (lv' := [(4, .long (lZ (((b ^ (i + 1) : Nat) : Int)))), (0, .ref (B + 76)), (1, .ref (B + a)), (2, .int (iZ (↑b))), (3, .int (iZ (↑kd))), (6, .int (iZ (↑i)))]) hx hb dG_fill_22 hl (by decide) rfl (fun ls hl => ?_)
        refine lv_iinc (v := iZ (↑i + 1)) (lv' := [(6, .int (iZ (↑i + 1))), (4, .long (lZ (((b ^ (i + 1) : Nat) : Int)))), (0, .ref (B + 76)), (1, .ref (B + a)), (2, .int (iZ (↑b))), (3, .int (iZ (↑kd)))]) hx hb dG_fill_24 hl (k := 5) rfl (iZ_add _ _) (by decide) rfl (fun ls hl => ?_)
        refine lv_goto (tgt := 11) hx hb dG_fill_27 (by decide) ?_
        rw [show (↑i + 1 : Int) = ↑(i + 1) from by omega] at hl
        exact ihL11 (i + 1) v _ _ _ (by omega) (by omega) hVx fr hZ hS (lv_sub hl [2, 3, 4, 5, 1, 0] rfl)
  exact L11 _ 0 v0 _ _ _ (Nat.lt_succ_self _) (Nat.zero_le _) hVx fr hZ hS (lv_sub hl [3, 4, 5, 2, 1, 0] rfl)
