theorem zN_trim {d : Nat → Nat} {n n1 : Nat} {b : Bool} (hle : n1 ≤ n) (hz : ∀ i, n1 ≤ i → i < n → d i = 0) (hnz : nz d n1) : zN (d, n1, b && decide (n1 ≠ 0)) (if b = true then -(wv d n : Int) else (wv d n : Int)) := by
  refine ⟨hnz, fun h => ?_, ?_⟩
  · have h1 : (b && decide (n1 ≠ 0)) = true := h
    rw [Bool.and_eq_true] at h1
    exact of_decide_eq_true h1.2
  · show _ = if (b && decide (n1 ≠ 0)) = true then -(wv d n1 : Int) else (wv d n1 : Int)
    rw [wv_drop hle hz]
    cases b
    · rfl
    · by_cases h0 : n1 = 0
      · subst h0; rfl
      · rw [show (true && decide (n1 ≠ 0)) = true from by simp [h0]]
theorem wv3 (d : Nat → Nat) (a b c : Nat) : wv (va_up (va_up (va_up d 0 a) 1 b) 2 c) 3 = a + b * 268435456 + c * 72057594037927936 := by
  simp [wv, va_up, wP]
theorem wv_tail {d d1 : Nat → Nat} {a : Nat} : ∀ {n : Nat}, a ≤ n → (∀ q, a ≤ q → d1 q = d q) → wv d1 n + wv d a = wv d n + wv d1 a
  | 0, h, _ => by rw [show a = 0 by omega]; rfl
  | n + 1, h, hq => by
    by_cases e : a = n + 1
    · rw [e, Nat.add_comm]
    · have := wv_tail (n := n) (by omega) hq
      rw [wv_s, wv_s, hq n (by omega)]
      omega
theorem mixA {d d1 : Nat → Nat} {n a : Nat} {c Y : Int} (hI : (wv d1 a : Int) + c * wP a = wv d a + Y) (h : a = n) : (wv d1 n : Int) + c * wP n = wv d n + Y := h ▸ hI
theorem mixB {d d1 : Nat → Nat} {n a : Nat} {c Y : Int} (hI : (wv d1 a : Int) + c * wP a = wv d a + Y) (hu : ∀ q, a ≤ q → d1 q = d q) (h : a ≤ n) (hc : c = 0) : (wv d1 n : Int) + c * wP n = wv d n + Y := by
  subst hc
  rw [Int.zero_mul] at hI ⊢
  have := wv_tail h hu
  omega
theorem scale_end {d d1 d2 : Nat → Nat} {f s c n : Nat} (hf : f < 268435456) (hs : s < 268435456) (hd : ∀ i, d i < 268435456) (hlo : ∀ i, i < n → d1 i = d i) (hhi : d1 n = 0) (hI : wv d2 (n + 1) + c * wP (n + 1) = f * wv d1 (n + 1) + s) : wv d2 (n + 1) = f * wv d n + s := by
  have e : wv d1 (n + 1) = wv d n := by rw [wv_s, hhi, Nat.zero_mul, Nat.add_zero]; exact wv_congr hlo
  rw [e] at hI
  have h1 := wv_lt hd n
  have h2 : f * wv d n ≤ 268435455 * wv d n := Nat.mul_le_mul_right _ (by omega)
  have h3 := wP_s n
  have hc : c = 0 := by
    rcases Nat.eq_zero_or_pos c with h | h
    · exact h
    · have : 1 * wP (n + 1) ≤ c * wP (n + 1) := Nat.mul_le_mul_right _ h
      omega
  subst hc
  omega
theorem wP_posZ (n : Nat) : (0 : Int) < wP n := by have := wP_pos n; omega
