/-! powers modulo -/
theorem pm_mul (b i j m : Nat) : (((b ^ i % m : Nat) : Int) * ((b ^ j % m : Nat) : Int)).tmod ((m : Nat) : Int) = ((b ^ (i + j) % m : Nat) : Int) := by
  rw [← Int.natCast_mul]
  show ((b ^ i % m * (b ^ j % m) % m : Nat) : Int) = _
  rw [← Nat.mul_mod, Nat.pow_add]
theorem pm_mul1 (b i m : Nat) (hb : b < m) : (((b ^ i % m : Nat) : Int) * ((b : Nat) : Int)).tmod ((m : Nat) : Int) = ((b ^ (i + 1) % m : Nat) : Int) := by
  have := pm_mul b i 1 m
  rw [Nat.pow_one, Nat.mod_eq_of_lt hb] at this
  exact this
theorem pm_0 (b m : Nat) : (1 : Int).tmod ((m : Nat) : Int) = ((b ^ 0 % m : Nat) : Int) := rfl
theorem pm_smm {b i j m : Nat} (hm : 0 < m) (hX : zX ((m : Nat) : Int)) : smm ((b ^ i % m : Nat) : Int) ((b ^ j % m : Nat) : Int) := by
  have h9 : ((m : Nat) : Int).natAbs < 2 ^ 2048 := hX
  rw [Int.natAbs_natCast] at h9
  have k : ∀ t, zX ((b ^ t % m : Nat) : Int) := fun t => by
    show (((b ^ t % m : Nat) : Int)).natAbs < 2 ^ 2048
    rw [Int.natAbs_natCast]
    exact Nat.lt_trans (Nat.mod_lt _ hm) h9
  exact zX_smm (k i) (k j)
theorem pm_smm1 {b i m : Nat} (hb : b < m) (hX : zX ((m : Nat) : Int)) : smm ((b ^ i % m : Nat) : Int) ((b : Nat) : Int) := by
  have := pm_smm (b := b) (i := i) (j := 1) (show 0 < m by omega) hX
  rw [Nat.pow_one, Nat.mod_eq_of_lt hb] at this
  exact this
/-- a window of four bits -/
theorem win_e {d : Nat → Nat} (hd : ∀ i, d i < 268435456) {n i t : Nat} (hi : i < n) (ht : 1 ≤ t ∧ t ≤ 7) : 16 * (wv d n / 2 ^ (28 * i + 4 * t)) + d i / 2 ^ (4 * t - 4) % 16 = wv d n / 2 ^ (28 * i + (4 * t - 4)) := by
  have h1 := wv_digit hd hi
  rw [wP_two] at h1
  generalize wv d n = V at h1 ⊢
  have e1 : V / 2 ^ (28 * i + 4 * t) = V / 2 ^ (28 * i) / 2 ^ (4 * t - 4) / 16 := by
    rw [Nat.div_div_eq_div_mul, Nat.div_div_eq_div_mul, show (16 : Nat) = 2 ^ 4 from rfl, ← Nat.pow_add, ← Nat.pow_add]
    congr 2; omega
  have e2 : V / 2 ^ (28 * i + (4 * t - 4)) = V / 2 ^ (28 * i) / 2 ^ (4 * t - 4) := by
    rw [Nat.div_div_eq_div_mul, ← Nat.pow_add]
  rw [e1, e2, ← h1]
  generalize V / 2 ^ (28 * i) = A
  have e3 : A % 268435456 / 2 ^ (4 * t - 4) % 16 = A / 2 ^ (4 * t - 4) % 16 := by
    have h7 : t = 1 ∨ t = 2 ∨ t = 3 ∨ t = 4 ∨ t = 5 ∨ t = 6 ∨ t = 7 := by omega
    rcases h7 with h | h | h | h | h | h | h <;> subst h <;> simp only [Nat.reduceMul, Nat.reduceSub, Nat.reducePow] <;> omega
  rw [e3]
  omega
