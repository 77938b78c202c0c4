theorem shrink_step2 {d d' : Nat → Nat} {v r i n q r' : Nat} (hi : 1 ≤ i) (hn : i ≤ n) (hd : ∀ j, j < i → d' j = d j) (hI : wv d' n * v + r * wP i + wv d i = wv d n + wv d i * v) (hq : r * 268435456 + d (i - 1) = q * v + r') :
    wv (va_up d' (i - 1) q) n * v + r' * wP (i - 1) + wv d (i - 1) = wv d n + wv d (i - 1) * v := by
  obtain ⟨k, rfl⟩ : ∃ k, i = k + 1 := ⟨i - 1, by omega⟩
  exact shrink_step (i := k) (by omega) (fun j hj => hd j (by omega)) hI hq
theorem cv_bd2 {a b : Nat → Nat} (ha : ∀ i, a i < 268435456) (hb : ∀ i, b i < 268435456) {na nb k : Nat} (h : na + nb ≤ 152) : cv a b nb na k ≤ 76 * 72057593501057025 := by
  rcases Nat.lt_or_ge k na with h1 | h1
  · rw [cv_high a b (Nat.le_refl (k + 1)) na (by omega)]
    exact Nat.le_trans (cv_bd ha hb (k + 1)) (Nat.mul_le_mul_right _ (by omega))
  · exact Nat.le_trans (cv_bd ha hb na) (Nat.mul_le_mul_right _ (by omega))
theorem cv_exit (a b : Nat → Nat) {na nb k i : Nat} (hi : i ≤ na) (h : k + 1 ≤ i ∨ na ≤ i) : cv a b nb i k = cv a b nb na k := by
  rcases h with h | h
  · exact (cv_high a b h na hi).symm
  · rw [show i = na by omega]
theorem prod_end {a b d : Nat → Nat} (ha : ∀ i, a i < 268435456) (hb : ∀ i, b i < 268435456) {na nb c : Nat} (hI : wv d (na + nb) + c * wP (na + nb) = wv (cv a b nb na) (na + nb)) : wv d (na + nb) = wv a na * wv b nb := by
  rw [cv_sum a b nb na (Nat.le_refl _)] at hI
  have h1 := wv_lt ha na
  have h2 := wv_lt hb nb
  have h3 : wv a na * wv b nb < wP na * wP nb := Nat.mul_lt_mul_of_le_of_lt (Nat.le_of_lt h1) h2 (Nat.lt_of_le_of_lt (Nat.zero_le _) h1)
  rw [← wP_add] at h3
  rcases Nat.eq_zero_or_pos c with h | h
  · subst h; omega
  · have : 1 * wP (na + nb) ≤ c * wP (na + nb) := Nat.mul_le_mul_right _ h
    omega
theorem lack_end {d d1 ds d2 : Nat → Nat} {n n1 n2 : Nat} {c : Int} (h1 : ∀ i, d1 i < 268435456) (h2 : ∀ i, d2 i < 268435456) (hlo : ∀ i, i < n → ds i = d i) (hhi : ∀ i, n ≤ i → i < n1 → ds i = 0) (hn : n ≤ n1) (hn2 : n2 ≤ n1) (hle : wv d n ≤ wv d2 n2) (hI : (wv d1 n1 : Int) + c * wP n1 = wv (wx d2 n2) n1 - wv ds n1) : (wv d1 n1 : Int) = wv d2 n2 - wv d n := by
  have e1 : wv ds n1 = wv d n := by rw [wv_drop hn hhi]; exact wv_congr hlo
  rw [wv_wx d2 hn2, e1] at hI
  have h3 := wv_lt h1 n1
  have h4 := Nat.lt_of_lt_of_le (wv_lt h2 n2) (wP_mono hn2)
  exact (no_carry hI (by omega) (by omega) (by omega) (by omega)).2
theorem cv_lo0 (a b : Nat → Nat) (nb k : Nat) : cv a b nb (k + 1 - nb) k = 0 := by
  rcases Nat.lt_or_ge (k + 1) nb with h | h
  · rw [show k + 1 - nb = 0 by omega]; rfl
  · exact cv_low a b _ (by omega)
