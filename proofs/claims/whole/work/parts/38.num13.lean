/-! shifts -/
theorem wv_digs {e : Nat → Nat} {T : Nat} : ∀ n, (∀ i, i < n → e i = T / wP i % 268435456) → wv e n = T % wP n
  | 0, _ => by rw [show wP 0 = 1 from rfl, Nat.mod_one]; rfl
  | n + 1, h => by
    rw [wv_s, wv_digs n (fun i hi => h i (by omega)), h n (by omega), show wP (n + 1) = wP n * 268435456 from Nat.pow_succ _ _, Nat.mod_mul, Nat.mul_comm (wP n)]
theorem sh_up {d : Nat → Nat} (hd : ∀ i, d i < 268435456) (n sn i : Nat) (hi : sn / 28 ≤ i) : lsh d n (sn % 28) (i - sn / 28 + 1) = wv d n * 2 ^ sn / wP i % 268435456 := by
  rw [lsh_eq hd n (by omega), wP_two, wP_two, show (268435456 : Nat) = 2 ^ 28 from rfl, show 28 * (i - sn / 28 + 1) = 28 * (i - sn / 28) + 28 by omega, Nat.pow_add, Nat.mul_div_mul_right _ _ (Nat.two_pow_pos 28)]
  have e1 : sn = sn % 28 + 28 * (sn / 28) := by omega
  have e2 : 28 * i = 28 * (i - sn / 28) + 28 * (sn / 28) := by omega
  rw [show 2 ^ sn = 2 ^ (sn % 28) * 2 ^ (28 * (sn / 28)) by rw [← Nat.pow_add, ← e1], show 2 ^ (28 * i) = 2 ^ (28 * (i - sn / 28)) * 2 ^ (28 * (sn / 28)) by rw [← Nat.pow_add, ← e2], ← Nat.mul_assoc, Nat.mul_div_mul_right _ _ (Nat.two_pow_pos _)]
theorem sh_up0 (W sn i : Nat) (hi : i < sn / 28) : W * 2 ^ sn / wP i % 268435456 = 0 := by
  rw [wP_two, show 2 ^ sn = 2 ^ (28 * i) * (2 ^ 28 * 2 ^ (sn - 28 * i - 28)) by rw [← Nat.pow_add, ← Nat.pow_add]; congr 1; omega, Nat.mul_left_comm, Nat.mul_div_cancel_left _ (Nat.two_pow_pos _), ← Nat.mul_assoc, Nat.mul_comm W, Nat.mul_assoc]
  exact Nat.mul_mod_right _ _
theorem sh_upl {d : Nat → Nat} (hd : ∀ i, d i < 268435456) (n sn : Nat) : wv d n * 2 ^ sn < wP (sn / 28 + n + 1) := by
  have h1 := wv_lt hd n
  have h2 : 2 ^ sn ≤ wP (sn / 28 + 1) := by rw [wP_two]; exact Nat.pow_le_pow_right (by decide) (by omega)
  have h3 : wP (sn / 28 + n + 1) = wP n * wP (sn / 28 + 1) := by rw [wP_two, wP_two, wP_two, ← Nat.pow_add]; congr 1; omega
  rw [h3]
  exact Nat.lt_of_lt_of_le (Nat.mul_lt_mul_of_pos_right h1 (Nat.two_pow_pos _)) (Nat.mul_le_mul_left _ h2)
theorem sh_dn {d : Nat → Nat} (hd : ∀ i, d i < 268435456) (n k i : Nat) : lsh d n (28 - k % 28) (i + k / 28 + 1 + 1) = wv d n / 2 ^ k / wP i % 268435456 := by
  rw [lsh_eq hd n (by omega), wP_two, wP_two, show (268435456 : Nat) = 2 ^ 28 from rfl, Nat.mul_assoc, ← Nat.pow_add, Nat.div_div_eq_div_mul, ← Nat.pow_add]
  have e1 : 28 * (i + k / 28 + 1 + 1) = (k + 28 * i) + (28 - k % 28 + 28) := by omega
  rw [e1, Nat.pow_add 2 (k + 28 * i), Nat.mul_div_mul_right _ _ (Nat.two_pow_pos _)]
theorem sh_dnl {d : Nat → Nat} (hd : ∀ i, d i < 268435456) (n k : Nat) : wv d n / 2 ^ k < wP (n - k / 28) := by
  have h1 := wv_lt hd n
  rw [wP_two] at h1 ⊢
  apply Nat.div_lt_of_lt_mul
  rw [← Nat.pow_add]
  exact Nat.lt_of_lt_of_le h1 (Nat.pow_le_pow_right (by decide) (by omega))
theorem zM_0 {w : zV} {n : Nat} {b : Bool} (hd : ∀ i, w.1 i < 268435456) (h : zM w n 0 b) {i : Nat} (hi : i < n) : w.1 i = 0 := by
  rw [← wv_digit hd hi, h.2.1, Nat.zero_div]
/-- the quotient below 0, out of the size and its lowest one -/
theorem shd_val {W t k : Nat} (h : lo1 W t) : -((W : Nat) : Int) / ((2 ^ k : Nat) : Int) = if t < k then -((W / 2 ^ k + 1 : Nat) : Int) else -((W / 2 ^ k : Nat) : Int) := by
  obtain ⟨q, rfl⟩ := h
  have hp := Nat.two_pow_pos k
  split
  · next h9 =>
    have hd : ¬ 2 ^ t * (2 * q + 1) % 2 ^ k = 0 := by
      intro h0
      have e9 : 2 ^ k = 2 ^ t * (2 * 2 ^ (k - t - 1)) := by rw [show 2 * 2 ^ (k - t - 1) = 2 ^ (k - t - 1 + 1) from (Nat.pow_succ').symm, ← Nat.pow_add]; congr 1; omega
      have h1 := Nat.div_add_mod (2 ^ t * (2 * q + 1)) (2 ^ k)
      rw [h0, Nat.add_zero] at h1
      generalize 2 ^ t * (2 * q + 1) / 2 ^ k = Z at h1
      rw [e9, Nat.mul_assoc, Nat.mul_assoc] at h1
      have := Nat.eq_of_mul_eq_mul_left (Nat.two_pow_pos t) h1
      omega
    have h1 := Nat.div_add_mod (2 ^ t * (2 * q + 1)) (2 ^ k)
    have h2 := Nat.mod_lt (2 ^ t * (2 * q + 1)) hp
    generalize 2 ^ t * (2 * q + 1) = W at *
    generalize W % 2 ^ k = r at *
    generalize W / 2 ^ k = Z at *
    generalize 2 ^ k = P at *
    have e : -((W : Nat) : Int) = (P - r : Int) + (P : Int) * (-(Z : Int) - 1) := by
      rw [← h1, Int.natCast_add, Int.natCast_mul, Int.mul_sub, Int.mul_neg, Int.mul_one]
      omega
    rw [e, Int.add_mul_ediv_left _ _ (by omega), Int.ediv_eq_zero_of_lt (by omega) (by omega)]
    omega
  · next h9 =>
    have e9 : 2 ^ t * (2 * q + 1) = 2 ^ k * (2 ^ (t - k) * (2 * q + 1)) := by rw [← Nat.mul_assoc, ← Nat.pow_add]; congr 2; omega
    rw [e9, Nat.mul_div_cancel_left _ hp, Int.natCast_mul, ← Int.mul_neg, Int.mul_ediv_cancel_left _ (by omega)]
