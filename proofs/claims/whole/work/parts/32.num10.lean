/-! bits -/
/-- how many ones stand among the lowest n bits -/
def pb (x : Nat) : Nat → Nat
  | 0 => 0
  | n + 1 => x % 2 + pb (x / 2) n
theorem pb_zero (n : Nat) : pb 0 n = 0 := by
  induction n with
  | zero => rfl
  | succ n ih => show 0 % 2 + pb (0 / 2) n = 0; rw [Nat.zero_div, ih]
theorem and16 (a b c d : Nat) (ha : a < 16) (hc : c < 16) : (a + 16 * b) &&& (c + 16 * d) = (a &&& c) + 16 * (b &&& d) := by
  have h1 : (a &&& c) < 2 ^ 4 := Nat.lt_of_le_of_lt Nat.and_le_left ha
  apply Nat.eq_of_testBit_eq
  intro i
  rw [Nat.add_comm a, Nat.add_comm c, Nat.add_comm (a &&& c), show (16 : Nat) = 2 ^ 4 from rfl, Nat.testBit_and, Nat.testBit_two_pow_mul_add _ ha, Nat.testBit_two_pow_mul_add _ hc, Nat.testBit_two_pow_mul_add _ h1]
  split
  · rw [Nat.testBit_and]
  · rw [Nat.testBit_and]
/-- a mask of k digits c to the base 16 -/
def mk16 (c : Nat) : Nat → Nat
  | 0 => 0
  | k + 1 => c + 16 * mk16 c k
def p4 (n : Nat) : Nat := n % 2 + n / 2 % 2 + n / 4 % 2 + n / 8 % 2
def swA (k x : Nat) : Nat := x - (x / 2 &&& mk16 5 k)
def swB (k x : Nat) : Nat := (swA k x &&& mk16 3 k) + (swA k x / 4 &&& mk16 3 k)
theorem sw_n1 : ∀ n, n < 16 → ∀ b, b < 2 → ((n / 2 + 8 * b) &&& 5) = (n / 2 &&& 5) ∧ (n / 2 &&& 5) ≤ n := by decide +kernel
theorem sw_n2 : ∀ g, g < 16 → ∀ b, b < 4 → ((g / 4 + 4 * b) &&& 3) = (g / 4 &&& 3) := by decide +kernel
theorem sw_n3 : ∀ n, n < 16 → n - (n / 2 &&& 5) < 16 ∧ ((n - (n / 2 &&& 5)) &&& 3) + ((n - (n / 2 &&& 5)) / 4 &&& 3) = p4 n := by decide +kernel
theorem swA_s (k n r : Nat) (hn : n < 16) : swA (k + 1) (n + 16 * r) = (n - (n / 2 &&& 5)) + 16 * swA k r := by
  unfold swA
  rw [show (n + 16 * r) / 2 = (n / 2 + 8 * (r % 2)) + 16 * (r / 2) by omega, mk16, and16 _ _ _ _ (by omega) (by decide)]
  obtain ⟨h1, h2⟩ := sw_n1 n hn (r % 2) (Nat.mod_lt _ (by decide))
  rw [h1]
  have h3 : (r / 2 &&& mk16 5 k) ≤ r / 2 := Nat.and_le_left
  have h4 := Nat.div_le_self r 2
  generalize (r / 2 &&& mk16 5 k) = q at *
  generalize (n / 2 &&& 5) = q2 at *
  omega
theorem swB_s (k n r : Nat) (hn : n < 16) : swB (k + 1) (n + 16 * r) = p4 n + 16 * swB k r := by
  unfold swB
  rw [swA_s k n r hn]
  obtain ⟨h1, h2⟩ := sw_n3 n hn
  rw [← h2]
  generalize n - (n / 2 &&& 5) = g at h1 ⊢
  generalize swA k r = Y
  rw [show (g + 16 * Y) / 4 = (g / 4 + 4 * (Y % 4)) + 16 * (Y / 4) by omega, mk16, and16 _ _ _ _ h1 (by decide), and16 _ _ _ _ (by omega) (by decide), sw_n2 g h1 _ (Nat.mod_lt _ (by decide))]
  omega
theorem swB_0 (k : Nat) : swB k 0 = 0 := by
  unfold swB swA
  rw [Nat.zero_sub, Nat.zero_div, Nat.zero_and]
theorem pb_4 (x n : Nat) : pb x (n + 4) = p4 (x % 16) + pb (x / 16) n := by
  show x % 2 + (x / 2 % 2 + (x / 2 / 2 % 2 + (x / 2 / 2 / 2 % 2 + pb (x / 2 / 2 / 2 / 2) n))) = _
  rw [show x / 2 / 2 / 2 / 2 = x / 16 by omega]
  unfold p4
  omega
theorem p4_le : ∀ n, n < 16 → p4 n ≤ 4 := by decide +kernel
theorem mk5_16 : mk16 5 16 = 6148914691236517205 := by decide +kernel
theorem mk3_16 : mk16 3 16 = 3689348814741910323 := by decide +kernel
theorem swB_q (k x : Nat) : swB (k + 1) x = p4 (x % 16) + 16 * swB k (x / 16) := by
  have h := swB_s k (x % 16) (x / 16) (Nat.mod_lt _ (by decide))
  rw [Nat.mod_add_div] at h
  exact h
theorem sw_fin {a0 a1 a2 a3 a4 a5 a6 z w w1 w2 w3 : Nat} (l0 : a0 ≤ 4) (l1 : a1 ≤ 4) (l2 : a2 ≤ 4) (l3 : a3 ≤ 4) (l4 : a4 ≤ 4) (l5 : a5 ≤ 4) (l6 : a6 ≤ 4) (e1 : z = a0 + 16 * (a1 + 16 * (a2 + 16 * (a3 + 16 * (a4 + 16 * (a5 + 16 * (a6 + 16 * 0))))))) (hw : w = (z + z / 16 &&& 1085102592571150095)) (h1 : w1 = w + w / 256) (h2 : w2 = w1 + w1 / 65536) (h3 : w3 = w2 + w2 / 4294967296) :
    z < 268435456 ∧ w < 268435456 ∧ w3 % 128 = a0 + (a1 + (a2 + (a3 + (a4 + (a5 + a6))))) := by
  have e3 : z + z / 16 = (a0 + a1) + 16 * ((a1 + a2) + 16 * ((a2 + a3) + 16 * ((a3 + a4) + 16 * ((a4 + a5) + 16 * ((a5 + a6) + 16 * (a6 + 16 * 0)))))) := by omega
  rw [e3, show (1085102592571150095 : Nat) = 15 + 16 * (0 + 16 * (15 + 16 * (0 + 16 * (15 + 16 * (0 + 16 * (15 + 16 * 4042322160)))))) by decide +kernel, and16 _ _ _ _ (by omega) (by decide), and16 _ _ _ _ (by omega) (by decide), and16 _ _ _ _ (by omega) (by decide), and16 _ _ _ _ (by omega) (by decide), and16 _ _ _ _ (by omega) (by decide), and16 _ _ _ _ (by omega) (by decide), and16 _ _ _ _ (by omega) (by decide)] at hw
  have f : ∀ q, q < 16 → (q &&& 15) = q := by decide +kernel
  rw [f _ (by omega), f _ (by omega), f _ (by omega), f _ (by omega), Nat.and_zero, Nat.and_zero, Nat.and_zero, Nat.zero_and] at hw
  have e7 : w = (a0 + a1) + 256 * (a2 + a3) + 65536 * (a4 + a5) + 16777216 * a6 := by omega
  clear hw e3
  have z1 : z < 268435456 := by omega
  clear e1
  have e4 : w1 = (a0 + a1 + (a2 + a3)) + 256 * ((a2 + a3) + (a4 + a5)) + 65536 * ((a4 + a5) + a6) + 16777216 * a6 := by omega
  have z2 : w < 268435456 := by omega
  clear h1 e7
  have e5 : w2 = w1 + (((a4 + a5) + a6) + 256 * a6) := by omega
  have e6 : w3 = w2 := by omega
  exact ⟨z1, z2, by omega⟩
/-- the ones of a limb, as the JDK counts them -/
theorem swar {x : Nat} (hx : x < 268435456) {y z w w1 w2 w3 : Nat} (hy : y = x - (x / 2 &&& 6148914691236517205)) (hz : z = (y &&& 3689348814741910323) + (y / 4 &&& 3689348814741910323)) (hw : w = (z + z / 16 &&& 1085102592571150095)) (h1 : w1 = w + w / 256) (h2 : w2 = w1 + w1 / 65536) (h3 : w3 = w2 + w2 / 4294967296) :
    z < 268435456 ∧ w < 268435456 ∧ w3 % 128 = pb x 28 := by
  have e1 : z = swB 16 x := by
    unfold swB swA
    rw [mk5_16, mk3_16, ← hy]
    exact hz
  have m : ∀ q, p4 (q % 16) ≤ 4 := fun q => p4_le _ (Nat.mod_lt _ (by decide))
  rw [swB_q 15, swB_q 14, swB_q 13, swB_q 12, swB_q 11, swB_q 10, swB_q 9, show x / 16 / 16 / 16 / 16 / 16 / 16 / 16 = 0 by omega, swB_0] at e1
  rw [pb_4 x 24, pb_4 _ 20, pb_4 _ 16, pb_4 _ 12, pb_4 _ 8, pb_4 _ 4, pb_4 _ 0, show ∀ q, pb q 0 = 0 from fun _ => rfl, Nat.add_zero]
  exact sw_fin (m _) (m _) (m _) (m _) (m _) (m _) (m _) e1 hw h1 h2 h3
/-- the lowest one stands at t -/
def lo1 (x t : Nat) : Prop := ∃ q, x = 2 ^ t * (2 * q + 1)
theorem lo1_uniq {x t u : Nat} (h : lo1 x t) (h2 : lo1 x u) : t = u := by
  have main : ∀ {t u q r : Nat}, t < u → 2 ^ t * (2 * q + 1) = 2 ^ u * (2 * r + 1) → False := by
    intro t u q r h e
    have e9 : 2 ^ u = 2 ^ t * (2 * 2 ^ (u - t - 1)) := by rw [show 2 * 2 ^ (u - t - 1) = 2 ^ (u - t - 1 + 1) from (Nat.pow_succ').symm, ← Nat.pow_add]; congr 1; omega
    rw [e9, Nat.mul_assoc, Nat.mul_assoc] at e
    have := Nat.eq_of_mul_eq_mul_left (Nat.two_pow_pos t) e
    omega
  obtain ⟨q, hq⟩ := h
  obtain ⟨r, hr⟩ := h2
  rcases Nat.lt_trichotomy t u with h | h | h
  · exact (main h (hq.symm.trans hr)).elim
  · exact h
  · exact (main h (hr.symm.trans hq)).elim
theorem lo1_ex {x : Nat} (h : x ≠ 0) : ∃ t, lo1 x t := by
  induction x using Nat.strongRecOn with
  | _ x ih =>
    by_cases h2 : x % 2 = 1
    · exact ⟨0, x / 2, by omega⟩
    · obtain ⟨t, q, hq⟩ := ih (x / 2) (by omega) (by omega)
      refine ⟨t + 1, q, ?_⟩
      rw [Nat.pow_succ, Nat.mul_comm (2 ^ t), Nat.mul_assoc, ← hq]
      omega
theorem lo1_le {x t k : Nat} (h : lo1 x t) (hx : x < 2 ^ k) : t < k := by
  obtain ⟨q, rfl⟩ := h
  rcases Nat.lt_or_ge t k with h9 | h9
  · exact h9
  · have h1 := Nat.pow_le_pow_right (show 0 < 2 by decide) h9
    have h2 : 2 ^ t * 1 ≤ 2 ^ t * (2 * q + 1) := Nat.mul_le_mul_left _ (by omega)
    omega
theorem and_comp {q k : Nat} (h : q < 2 ^ k) : q &&& (2 ^ k - (q + 1)) = 0 := by
  apply Nat.eq_of_testBit_eq
  intro i
  rw [Nat.testBit_and, Nat.testBit_two_pow_sub_succ h, Nat.zero_testBit]
  cases q.testBit i <;> simp
theorem and_2 (a b : Nat) : (2 * a + 1) &&& (2 * b + 1) = 2 * (a &&& b) + 1 := by
  apply Nat.eq_of_testBit_eq
  intro i
  have k : ∀ a : Nat, (2 * a + 1).testBit i = if i < 1 then (1 : Nat).testBit i else a.testBit (i - 1) := fun a => by
    have := Nat.testBit_two_pow_mul_add a (show 1 < 2 ^ 1 by decide) i
    rw [Nat.pow_one] at this
    exact this
  rw [Nat.testBit_and, k, k, k]
  split
  · cases (1 : Nat).testBit i <;> rfl
  · rw [Nat.testBit_and]
theorem lo1_and {x t : Nat} (h : lo1 x t) (hx : x < 268435456) : x &&& (18446744073709551616 - x) = 2 ^ t := by
  have ht := lo1_le h (k := 28) hx
  obtain ⟨q, rfl⟩ := h
  have e1 : 18446744073709551616 = 2 ^ t * 2 ^ (64 - t) := by rw [← Nat.pow_add, show t + (64 - t) = 64 by omega]
  have e2 : 2 ^ (64 - t) = 2 * 2 ^ (63 - t) := by rw [← Nat.pow_succ']; congr 1; omega
  have hq : q < 2 ^ (63 - t) := by
    have h1 : 2 ^ t * (2 * q + 1) < 2 ^ t * 2 ^ (28 - t) := by rw [← Nat.pow_add, show t + (28 - t) = 28 by omega]; exact hx
    have h2 := Nat.lt_of_mul_lt_mul_left h1
    have h3 : 2 ^ (28 - t) ≤ 2 ^ (63 - t) := Nat.pow_le_pow_right (by decide) (by omega)
    omega
  rw [e1, ← Nat.mul_sub, e2, show 2 * 2 ^ (63 - t) - (2 * q + 1) = 2 * (2 ^ (63 - t) - (q + 1)) + 1 by omega]
  have e3 : ∀ a b : Nat, 2 ^ t * a &&& 2 ^ t * b = 2 ^ t * (a &&& b) := by
    intro a b
    apply Nat.eq_of_testBit_eq
    intro i
    rw [Nat.testBit_and, Nat.testBit_two_pow_mul, Nat.testBit_two_pow_mul, Nat.testBit_two_pow_mul, Nat.testBit_and]
    cases decide (i ≥ t) <;> simp
  rw [e3, and_2, and_comp hq, Nat.mul_zero, Nat.zero_add, Nat.mul_one]
theorem pb_ones : ∀ t, t < 29 → pb (2 ^ t - 1) 28 = t := by decide +kernel
theorem pb_tail (x n m : Nat) : pb x (n + m) = pb x n + pb (x / 2 ^ n) m := by
  induction n generalizing x with
  | zero => rw [Nat.zero_add, Nat.pow_zero, Nat.div_one]; exact (Nat.zero_add _).symm
  | succ n ih =>
    rw [show n + 1 + m = (n + m) + 1 by omega]
    show x % 2 + pb (x / 2) (n + m) = x % 2 + pb (x / 2) n + _
    rw [ih, Nat.div_div_eq_div_mul, ← Nat.pow_succ', Nat.add_assoc]
theorem pb_mod (x n : Nat) : pb (x % 2 ^ n) n = pb x n := by
  induction n generalizing x with
  | zero => rfl
  | succ n ih =>
    show x % 2 ^ (n + 1) % 2 + pb (x % 2 ^ (n + 1) / 2) n = x % 2 + pb (x / 2) n
    have h := Nat.mod_mul_right_div_self x 2 (2 ^ n)
    rw [← Nat.pow_succ'] at h
    rw [h, ih, Nat.mod_mod_of_dvd _ (Nat.dvd_of_pow_dvd (show 1 ≤ n + 1 by omega) (Nat.dvd_refl _) |> fun h => (by simpa using h))]
