theorem gs_lt (a b : Nat) : gs a b < 268435456 := by
  unfold gs
  split <;> omega
theorem wv_set0 {d : Nat → Nat} {i n g : Nat} (h : i < n) (h0 : d i = 0) : wv (va_up d i g) n = wv d n + g * wP i := by
  obtain ⟨k, rfl⟩ : ∃ k, n = i + 1 + k := ⟨n - i - 1, by omega⟩
  rw [wv_split _ (i + 1) k, wv_split d (i + 1) k, wv_up_s, wv_s, h0]
  have : wv (fun j => va_up d i g (i + 1 + j)) k = wv (fun j => d (i + 1 + j)) k := wv_congr fun j _ => va_up_ne d g (by omega)
  rw [this]
  omega
/-- a number that is less than the weight of its highest limb has 0 there -/
theorem wv_top0 {d : Nat → Nat} {n : Nat} (h : wv d (n + 1) < wP n) : d n = 0 ∧ wv d (n + 1) = wv d n := by
  have h0 : d n = 0 := by
    rcases Nat.eq_zero_or_pos (d n) with h1 | h1
    · exact h1
    · have := wv_ge (d := d) (n := n) (by omega)
      omega
  exact ⟨h0, by rw [wv_s, h0, Nat.zero_mul, Nat.add_zero]⟩
theorem dv_next {d d2 du du1 dq : Nat → Nat} {n n2 nq m g : Nat} (hd2 : ∀ i, d2 i < 268435456) (hm : 1 ≤ m) (hmq : m ≤ nq) (hI : wv d n = wv d2 n2 * wv dq nq + wv du (m + n2)) (hz : ∀ i, i < m → dq i = 0)
    (hJ1 : (wv du1 (m + n2) : Int) + (g : Int) * ((wv d2 n2 : Int) * wP (m - 1)) = wv du (m + n2)) (hJ2 : (wv du1 (m + n2) : Int) < (wv d2 n2 : Int) * wP (m - 1)) :
    wv d n = wv d2 n2 * wv (va_up dq (m - 1) g) nq + wv du1 (m - 1 + n2) ∧ wv du1 (m - 1 + n2) < wv d2 n2 * wP (m - 1) := by
  obtain ⟨a, rfl⟩ : ∃ a, m = a + 1 := ⟨m - 1, by omega⟩
  rw [show a + 1 - 1 = a by omega, show a + 1 + n2 = a + n2 + 1 by omega] at *
  have e1 : (g : Int) * ((wv d2 n2 : Int) * wP a) = ((g * (wv d2 n2 * wP a) : Nat) : Int) := by simp only [Int.natCast_mul]
  have e2 : (wv d2 n2 : Int) * wP a = ((wv d2 n2 * wP a : Nat) : Int) := by simp only [Int.natCast_mul]
  rw [e1] at hJ1
  rw [e2] at hJ2
  have h1 : wv d2 n2 * wP a < wP (a + n2) := by
    rw [Nat.add_comm, wP_add]
    exact Nat.mul_lt_mul_of_pos_right (wv_lt hd2 n2) (wP_pos a)
  have h2 := wv_top0 (d := du1) (n := a + n2) (by omega)
  rw [h2.2] at hJ1 hJ2
  rw [wv_set0 (by omega) (hz a (by omega)), Nat.mul_add, hI]
  have e3 : wv d2 n2 * (g * wP a) = g * (wv d2 n2 * wP a) := Nat.mul_left_comm _ _ _
  rw [e3]
  generalize g * (wv d2 n2 * wP a) = X at *
  generalize wv d2 n2 * wP a = Y at *
  omega
theorem dv_first {d d2 ds : Nat → Nat} {n n2 : Nat} (hd : ∀ i, d i < 268435456) (hn2 : n2 ≠ 0) (hnn : n2 ≤ n) (ht : d2 (n2 - 1) ≠ 0) (hlo : ∀ i, i < n → ds i = d i) (hhi : ds n = 0) : wv ds (n - n2 + 1 + n2) = wv d n ∧ wv d n < wv d2 n2 * wP (n - n2 + 1) := by
  rw [show n - n2 + 1 + n2 = n + 1 by omega, wv_s, hhi, Nat.zero_mul, Nat.add_zero, wv_congr hlo]
  refine ⟨rfl, ?_⟩
  have h1 := wv_lt hd n
  have h2 := wv_ge ht
  rw [show n2 - 1 + 1 = n2 by omega] at h2
  have h3 := Nat.mul_le_mul_right (wP (n - n2 + 1)) h2
  rw [← wP_add, show n2 - 1 + (n - n2 + 1) = n by omega] at h3
  omega
