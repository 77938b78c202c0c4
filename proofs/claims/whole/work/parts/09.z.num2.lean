/-- limb z of the n in use, 0 elsewhere -/
def wz (d : Nat → Nat) (n : Nat) (z : Int) : Nat := if 0 ≤ z then wx d n z.toNat else 0
theorem wz_in {d : Nat → Nat} {n : Nat} {z : Int} (h0 : 0 ≤ z) (h1 : z < n) : wz d n z = d z.toNat := by
  unfold wz
  rw [if_pos h0, wx_in (by omega)]
theorem wz_out {d : Nat → Nat} {n : Nat} {z : Int} (h : z < 0 ∨ (n : Int) ≤ z) : wz d n z = 0 := by
  unfold wz
  by_cases h0 : 0 ≤ z
  · rw [if_pos h0, wx_out (by omega)]
  · rw [if_neg h0]
theorem wz_nat (d : Nat → Nat) (n i : Nat) : wz d n i = wx d n i := by
  unfold wz
  rw [if_pos (by omega), Int.toNat_natCast]
theorem wz_lt {d : Nat → Nat} (hd : ∀ i, d i < 268435456) (n : Nat) (z : Int) : wz d n z < 268435456 := by
  unfold wz
  split
  · exact wx_lt hd n _
  · decide
theorem lsh_z (d : Nat → Nat) (n : Nat) {up : Nat} {z : Int} (hz : -1 ≤ z) : ((lsh d n up (z + 1).toNat : Nat) : Int) = ((wz d n z : Int) * ((2 ^ up : Nat) : Int) + (wz d n (z - 1) : Int) / ((2 ^ (28 - up) : Nat) : Int)) % 268435456 := by
  obtain ⟨j, hj⟩ : ∃ j : Nat, z = (j : Int) - 1 := ⟨(z + 1).toNat, by omega⟩
  subst hj
  rw [show ((j : Int) - 1 + 1).toNat = j by omega]
  match j with
  | 0 =>
    rw [wz_out (z := ((0 : Nat) : Int) - 1) (by omega), wz_out (z := ((0 : Nat) : Int) - 1 - 1) (by omega)]
    show (0 : Int) = _
    simp
  | 1 =>
    rw [show (((1 : Nat) : Int) - 1) = ((0 : Nat) : Int) by omega, wz_nat, wz_out (z := ((0 : Nat) : Int) - 1) (by omega)]
    show ((wx d n 0 * 2 ^ up % 268435456 : Nat) : Int) = _
    simp [Int.natCast_emod, Int.natCast_mul]
  | i + 2 =>
    rw [show (((i + 2 : Nat) : Int) - 1) = ((i + 1 : Nat) : Int) by omega, wz_nat, show (((i + 1 : Nat) : Int) - 1) = ((i : Nat) : Int) by omega, wz_nat]
    show (((wx d n (i + 1) * 2 ^ up + wx d n i / 2 ^ (28 - up)) % 268435456 : Nat) : Int) = _
    rw [Int.natCast_emod, Int.natCast_add, Int.natCast_mul, Int.natCast_ediv]
    rfl
/-- no zero limb above -/
def nz (d : Nat → Nat) (n : Nat) : Prop := n ≠ 0 → d (n - 1) ≠ 0
theorem nz_0 (d : Nat → Nat) : nz d 0 := fun h => absurd rfl h
theorem nz_pos {d : Nat → Nat} {n : Nat} (h : nz d n) : n ≠ 0 ↔ 0 < wv d n := by
  constructor
  · intro hn
    have := wv_ge (h hn)
    rw [show n - 1 + 1 = n by omega] at this
    have := wP_pos (n - 1)
    omega
  · intro h0 e
    subst e
    rw [wv_0] at h0
    omega
theorem nz_le {d : Nat → Nat} {n m : Nat} (hd : ∀ i, d i < 268435456) (h : nz d n) : n ≤ m ↔ wv d n < wP m := by
  constructor
  · intro hn
    exact Nat.lt_of_lt_of_le (wv_lt hd n) (wP_mono hn)
  · intro hw
    rcases Nat.lt_or_ge m n with h2 | h2
    · have h1 := wv_ge (h (by omega))
      rw [show n - 1 + 1 = n by omega] at h1
      have := wP_mono (show m ≤ n - 1 by omega)
      omega
    · exact h2
def cmpZ (a b : Int) : Int := if a < b then -1 else if a = b then 0 else 1
/-- a number: no zero limbs above, 0 not below 0, its value -/
def zN (w : zV) (x : Int) : Prop := nz w.1 w.2.1 ∧ (w.2.2 = true → w.2.1 ≠ 0) ∧ x = if w.2.2 = true then -(wv w.1 w.2.1 : Int) else (wv w.1 w.2.1 : Int)
theorem zN_abs {w : zV} {x : Int} (h : zN w x) : x.natAbs = wv w.1 w.2.1 := by
  obtain ⟨-, -, e⟩ := h
  rw [e]
  split <;> omega
theorem zN_neg {w : zV} {x : Int} (h : zN w x) : w.2.2 = true ↔ x < 0 := by
  obtain ⟨h1, h2, e⟩ := h
  constructor
  · intro hb
    have := (nz_pos h1).mp (h2 hb)
    rw [if_pos hb] at e
    omega
  · intro hx
    by_cases hb : w.2.2 = true
    · exact hb
    · rw [if_neg hb] at e
      omega
theorem zN_0 {w : zV} {x : Int} (h : zN w x) : w.2.1 = 0 ↔ x = 0 := by
  have h1 := zN_abs h
  have h2 := nz_pos h.1
  omega
theorem bl_28 {x k : Nat} (hx : x < 268435456) (h : bl x k) : k ≤ 28 := (bl_le h).mpr hx
theorem bl_of {x k : Nat} (h1 : x < 2 ^ k) (h2 : k ≠ 0 → 2 ^ (k - 1) ≤ x) : bl x k := ⟨h1, h2⟩
