/-! the bits of a whole number as if they went on without end -/
def zu (x : Int) : Nat := if x < 0 then (-x - 1).toNat else x.toNat
def tbz (x : Int) (i : Nat) : Bool := decide (x < 0) != (zu x).testBit i
theorem zu_neg {x : Int} (h : x < 0) : zu x = x.natAbs - 1 := by unfold zu; rw [if_pos h]; omega
theorem zu_pos {x : Int} (h : ¬ x < 0) : zu x = x.natAbs := by unfold zu; rw [if_neg h]; omega
theorem tbz_neg {x : Int} (h : x < 0) (i : Nat) : tbz x i = !(zu x).testBit i := by unfold tbz; rw [decide_eq_true h]; cases (zu x).testBit i <;> rfl
theorem tbz_pos {x : Int} (h : ¬ x < 0) (i : Nat) : tbz x i = (zu x).testBit i := by unfold tbz; rw [decide_eq_false h]; cases (zu x).testBit i <;> rfl
theorem tb_dm (x i : Nat) : x / 2 ^ i % 2 = (x.testBit i).toNat := by
  rw [Nat.testBit_eq_decide_div_mod_eq]
  rcases Nat.mod_two_eq_zero_or_one (x / 2 ^ i) with h | h <;> rw [h] <;> rfl
/-- W with its lowest one at t, and W - 1 -/
theorem lo1_split {W t : Nat} (h : lo1 W t) : ∃ q, W = 2 ^ (t + 1) * q + 2 ^ t ∧ W - 1 = 2 ^ (t + 1) * q + (2 ^ t - 1) := by
  obtain ⟨q, rfl⟩ := h
  have h1 : 1 ≤ 2 ^ t := Nat.one_le_two_pow
  have e : 2 ^ t * (2 * q + 1) = 2 ^ (t + 1) * q + 2 ^ t := by rw [Nat.mul_add, Nat.mul_one, Nat.pow_succ, Nat.mul_assoc]
  exact ⟨q, e, by rw [e]; omega⟩
theorem lo1_p1 (t : Nat) : 2 ^ t < 2 ^ (t + 1) ∧ 2 ^ t - 1 < 2 ^ (t + 1) := by
  have h1 : 1 ≤ 2 ^ t := Nat.one_le_two_pow
  have h2 : 2 ^ (t + 1) = 2 ^ t * 2 := Nat.pow_succ _ _
  omega
theorem lo1_tb {W t : Nat} (h : lo1 W t) (i : Nat) : (W - 1).testBit i = if i ≤ t then !W.testBit i else W.testBit i := by
  obtain ⟨q, e1, e2⟩ := lo1_split h
  rw [e2, e1, Nat.testBit_two_pow_mul_add _ (lo1_p1 t).1, Nat.testBit_two_pow_mul_add _ (lo1_p1 t).2, Nat.testBit_two_pow_sub_one, Nat.testBit_two_pow]
  by_cases h1 : i ≤ t
  · rw [if_pos h1, if_pos (by omega), if_pos (by omega)]
    by_cases h2 : i = t
    · rw [decide_eq_false (by omega), decide_eq_true (by omega)]; rfl
    · rw [decide_eq_true (by omega), decide_eq_false (by omega)]; rfl
  · rw [if_neg h1, if_neg (by omega), if_neg (by omega)]
/-- the bit of a number below 0 out of its size -/
theorem tbz_lo {x : Int} {t : Nat} (h : x < 0) (ht : lo1 x.natAbs t) (i : Nat) : tbz x i = if i ≤ t then x.natAbs.testBit i else !x.natAbs.testBit i := by
  rw [tbz_neg h, zu_neg h, lo1_tb ht]
  split
  · rw [Bool.not_not]
  · rfl
theorem wz_bit {d : Nat → Nat} (hd : ∀ i, d i < 268435456) (n i : Nat) : wz d n ((i / 28 : Nat) : Int) / 2 ^ (i % 28) % 2 = ((wv d n).testBit i).toNat := by
  rw [← tb_dm]
  rcases Nat.lt_or_ge (i / 28) n with h | h
  · rw [wz_in (by omega) (by omega), Int.toNat_natCast, ← wv_digit hd h, wP_two]
    have e1 : wv d n / 2 ^ i = wv d n / 2 ^ (28 * (i / 28)) / 2 ^ (i % 28) := by
      rw [Nat.div_div_eq_div_mul, ← Nat.pow_add, Nat.div_add_mod]
    rw [e1]
    generalize wv d n / 2 ^ (28 * (i / 28)) = A
    rw [show (268435456 : Nat) = 2 ^ 28 from rfl, tb_dm, tb_dm, Nat.testBit_mod_two_pow, decide_eq_true (Nat.mod_lt _ (by decide)), Bool.true_and]
  · rw [wz_out (Or.inr (by omega)), Nat.zero_div]
    have h1 : wv d n < 2 ^ i := Nat.lt_of_lt_of_le (wv_lt hd n) (by rw [wP_two]; exact Nat.pow_le_pow_right (by decide) (by omega))
    rw [Nat.div_eq_of_lt h1]
theorem pb_eq {x n m : Nat} (hn : x < 2 ^ n) (hm : x < 2 ^ m) : pb x n = pb x m := by
  rcases Nat.le_total n m with h | h
  · obtain ⟨k, rfl⟩ : ∃ k, m = n + k := ⟨m - n, by omega⟩
    rw [pb_tail, Nat.div_eq_of_lt hn, pb_zero, Nat.add_zero]
  · obtain ⟨k, rfl⟩ : ∃ k, n = m + k := ⟨n - m, by omega⟩
    rw [pb_tail, Nat.div_eq_of_lt hm, pb_zero, Nat.add_zero]
theorem pb_wv {d : Nat → Nat} (hd : ∀ i, d i < 268435456) (n : Nat) : pb (wv d (n + 1)) (28 * (n + 1)) = pb (wv d n) (28 * n) + pb (d n) 28 := by
  have h1 := wv_lt hd n
  rw [wP_two] at h1
  rw [show 28 * (n + 1) = 28 * n + 28 by omega, pb_tail, ← pb_mod (wv d (n + 1)) (28 * n), wv_s, wP_two, Nat.add_mul_mod_self_right, Nat.mod_eq_of_lt h1, Nat.add_mul_div_right _ _ (Nat.two_pow_pos _), Nat.div_eq_of_lt h1, Nat.zero_add]
theorem pb_add (q r n m : Nat) (hr : r < 2 ^ n) : pb (2 ^ n * q + r) (n + m) = pb r n + pb q m := by
  rw [pb_tail, ← pb_mod, Nat.mul_add_mod, Nat.mod_eq_of_lt hr, Nat.mul_add_div (Nat.two_pow_pos n), Nat.div_eq_of_lt hr, Nat.add_zero]
theorem pb_pow (t : Nat) : pb (2 ^ t) (t + 1) = 1 := by
  induction t with
  | zero => rfl
  | succ t ih =>
    show 2 ^ (t + 1) % 2 + pb (2 ^ (t + 1) / 2) (t + 1) = 1
    rw [show 2 ^ (t + 1) / 2 = 2 ^ t by rw [Nat.pow_succ]; omega, ih, Nat.pow_succ, Nat.mul_mod_left]
theorem pb_pow1 (t : Nat) : pb (2 ^ t - 1) (t + 1) = t := by
  induction t with
  | zero => rfl
  | succ t ih =>
    have h1 : 1 ≤ 2 ^ t := Nat.one_le_two_pow
    have h2 : 2 ^ (t + 1) = 2 ^ t * 2 := Nat.pow_succ _ _
    show (2 ^ (t + 1) - 1) % 2 + pb ((2 ^ (t + 1) - 1) / 2) (t + 1) = t + 1
    rw [show (2 ^ (t + 1) - 1) / 2 = 2 ^ t - 1 by omega, ih, show (2 ^ (t + 1) - 1) % 2 = 1 by omega, Nat.add_comm]
/-- the ones of W - 1 -/
theorem pb_dec {W t N : Nat} (h : lo1 W t) (hN : t < N) : pb (W - 1) N + 1 = pb W N + t := by
  obtain ⟨q, e1, e2⟩ := lo1_split h
  obtain ⟨k, rfl⟩ : ∃ k, N = (t + 1) + k := ⟨N - (t + 1), by omega⟩
  rw [e2, e1, pb_add _ _ _ _ (lo1_p1 t).1, pb_add _ _ _ _ (lo1_p1 t).2, pb_pow, pb_pow1]
  omega
/-- the length of W - 1 -/
theorem bl_dec {W t q : Nat} (h : lo1 W t) (hq : bl W q) : bl (W - 1) (if (t : Int) = (q : Int) - 1 then q - 1 else q) := by
  obtain ⟨r, hr⟩ := h
  obtain ⟨h1, h2⟩ := hq
  have hp : 1 ≤ 2 ^ t := Nat.one_le_two_pow
  have hq0 : q ≠ 0 := by
    rintro rfl
    have : 2 ^ t * 1 ≤ 2 ^ t * (2 * r + 1) := Nat.mul_le_mul_left _ (by omega)
    omega
  have h3 := h2 hq0
  have hpq : 2 ^ q = 2 ^ (q - 1) * 2 := by have := Nat.pow_succ 2 (q - 1); rw [show (q - 1).succ = q by omega] at this; exact this
  split
  · next h4 =>
    have h5 : t = q - 1 := by omega
    have hr0 : r = 0 := by
      rcases Nat.eq_zero_or_pos r with h9 | h9
      · exact h9
      · have : 2 ^ t * 3 ≤ 2 ^ t * (2 * r + 1) := Nat.mul_le_mul_left _ (by omega)
        rw [h5] at hr this
        omega
    rw [hr0, h5] at hr
    refine ⟨by omega, fun h9 => ?_⟩
    have : 2 ^ (q - 1) = 2 ^ (q - 1 - 1) * 2 := by have := Nat.pow_succ 2 (q - 1 - 1); rw [show (q - 1 - 1).succ = q - 1 by omega] at this; exact this
    have := Nat.one_le_two_pow (n := q - 1 - 1)
    omega
  · next h4 =>
    refine ⟨by omega, fun _ => ?_⟩
    have : W ≠ 2 ^ (q - 1) := by
      intro h9
      have := lo1_uniq (show lo1 W t from ⟨r, hr⟩) (show lo1 W (q - 1) from ⟨0, by rw [h9]; omega⟩)
      omega
    omega
theorem zX_u {x : Int} (h : zX x) : zu x < 2 ^ 2048 := by
  have h9 : x.natAbs < 2 ^ 2048 := h
  by_cases h0 : x < 0
  · rw [zu_neg h0]; omega
  · rw [zu_pos h0]; exact h9
theorem zN_some {d : Nat → Nat} {n : Nat} {b : Bool} {x : Int} (h : zN (d, n, b) x) (h0 : x ≠ 0) : ∃ i, i < n ∧ d i ≠ 0 := by
  have h1 : n ≠ 0 := fun h9 => h0 ((zN_0 h).mp h9)
  exact ⟨n - 1, by omega, h.1 h1⟩
