/-! bits of two numbers, taken together -/
def bop (how : Nat) (p q : Bool) : Bool := if how = 0 then p && q else if how = 1 then p || q else if how = 2 then p != q else p && !q
def jop (how a b : Nat) : Nat := if how = 0 then a &&& b else if how = 1 then a ||| b else if how = 2 then a ^^^ b else a &&& (b ^^^ 18446744073709551615)
theorem jop_lt {how a b : Nat} (ha : a < 268435456) (hb : b < 268435456) : jop how a b < 268435456 := by
  unfold jop
  split
  · exact Nat.lt_of_le_of_lt Nat.and_le_left ha
  split
  · exact Nat.or_lt_two_pow (n := 28) ha hb
  split
  · exact Nat.xor_lt_two_pow (n := 28) ha hb
  · exact Nat.lt_of_le_of_lt Nat.and_le_left ha
theorem jop_tb {how a b : Nat} (ha : a < 268435456) (i : Nat) : (jop how a b).testBit i = bop how (a.testBit i) (b.testBit i) := by
  unfold jop bop
  split
  · rw [Nat.testBit_and]
  split
  · rw [Nat.testBit_or]
  split
  · rw [Nat.testBit_xor]
  · rw [Nat.testBit_and, Nat.testBit_xor, show (18446744073709551615 : Nat) = 2 ^ 64 - 1 from rfl, Nat.testBit_two_pow_sub_one]
    rcases Nat.lt_or_ge i 64 with h | h
    · rw [decide_eq_true h]; cases b.testBit i <;> rfl
    · have h1 : a.testBit i = false := Nat.testBit_lt_two_pow (Nat.lt_of_lt_of_le ha (Nat.le_trans (show 268435456 ≤ 2 ^ 64 by decide) (Nat.pow_le_pow_right (by decide) h)))
      rw [h1]; rfl
theorem wv_tb {d : Nat → Nat} (hd : ∀ i, d i < 268435456) {n i : Nat} (h : i < 28 * n) : (wv d n).testBit i = (d (i / 28)).testBit (i % 28) := by
  have h1 : i / 28 < n := by omega
  rw [← wv_digit hd h1, wP_two, show (268435456 : Nat) = 2 ^ 28 from rfl, Nat.testBit_mod_two_pow, decide_eq_true (Nat.mod_lt _ (by decide)), Bool.true_and, Nat.testBit_div_two_pow]
  congr 1
  omega
/-- A is x in N bits -/
def rp (N : Nat) (x : Int) (A : Nat) : Prop := x.natAbs < 2 ^ N ∧ A = if x < 0 then 2 ^ N - x.natAbs else x.natAbs
theorem rp_lt {N A : Nat} {x : Int} (h : rp N x A) : A < 2 ^ N := by
  rw [h.2]
  have := h.1
  split
  · omega
  · exact this
theorem rp_tb {N A : Nat} {x : Int} (h : rp N x A) (i : Nat) : tbz x i = if i < N then A.testBit i else decide (x < 0) := by
  obtain ⟨h1, h2⟩ := h
  by_cases h0 : x < 0
  · rw [if_pos h0] at h2
    have hU : zu x < 2 ^ N := by rw [zu_neg h0]; omega
    rw [tbz_neg h0, h2, show 2 ^ N - x.natAbs = 2 ^ N - (zu x + 1) by rw [zu_neg h0]; omega, Nat.testBit_two_pow_sub_succ hU]
    rcases Nat.lt_or_ge i N with h9 | h9
    · rw [if_pos h9, decide_eq_true h9]; rfl
    · rw [if_neg (by omega), Nat.testBit_lt_two_pow (Nat.lt_of_lt_of_le hU (Nat.pow_le_pow_right (by decide) h9)), decide_eq_true h0]; rfl
  · rw [if_neg h0] at h2
    rw [tbz_pos h0, zu_pos h0, ← h2]
    rcases Nat.lt_or_ge i N with h9 | h9
    · rw [if_pos h9]
    · rw [if_neg (by omega), Nat.testBit_lt_two_pow (Nat.lt_of_lt_of_le (by omega) (Nat.pow_le_pow_right (show 0 < 2 by decide) h9)), decide_eq_false h0]
/-- the uppermost limb holds the sign alone -/
theorem rp_top {t A : Nat} {x : Int} (h : rp (28 * (t + 1)) x A) (hx : x.natAbs < 2 ^ (28 * t)) : ∀ j, j < 28 → A.testBit (28 * t + j) = decide (x < 0) := by
  intro j hj
  have h1 := rp_tb h (28 * t + j)
  rw [if_pos (by omega)] at h1
  rw [← h1]
  by_cases h0 : x < 0
  · rw [tbz_neg h0, zu_neg h0, decide_eq_true h0, Nat.testBit_lt_two_pow (Nat.lt_of_lt_of_le (show x.natAbs - 1 < 2 ^ (28 * t) by omega) (Nat.pow_le_pow_right (by decide) (by omega)))]; rfl
  · rw [tbz_pos h0, zu_pos h0, decide_eq_false h0, Nat.testBit_lt_two_pow (Nat.lt_of_lt_of_le hx (Nat.pow_le_pow_right (by decide) (by omega)))]
/-- the limbs taken together -/
theorem comb_all {t how C : Nat} {x y : Int} {dA dB e : Nat → Nat} (hA : rp (28 * (t + 1)) x (wv dA (t + 1))) (hB : rp (28 * (t + 1)) y (wv dB (t + 1))) (hx : x.natAbs < 2 ^ (28 * t)) (hy : y.natAbs < 2 ^ (28 * t)) (hdA : ∀ i, dA i < 268435456) (hdB : ∀ i, dB i < 268435456) (hde : ∀ i, e i < 268435456) (he : ∀ i, i < t + 1 → e i = jop how (dA i) (dB i)) (hC : C = wv e (t + 1)) :
    C < 2 ^ (28 * (t + 1)) ∧ (e t ≠ 0 ↔ bop how (decide (x < 0)) (decide (y < 0)) = true) ∧ (e t ≠ 0 → C ≠ 0) ∧ ∀ z : Int, (z = if e t ≠ 0 then -((2 ^ (28 * (t + 1)) - C : Nat) : Int) else ((C : Nat) : Int)) → ∀ i, tbz z i = bop how (tbz x i) (tbz y i) := by
  have hlt : C < 2 ^ (28 * (t + 1)) := by rw [hC, ← wP_two]; exact wv_lt hde _
  have hbit : ∀ i, i < 28 * (t + 1) → C.testBit i = bop how ((wv dA (t + 1)).testBit i) ((wv dB (t + 1)).testBit i) := by
    intro i hi
    rw [hC, wv_tb hde hi, he _ (by omega), jop_tb (hdA _), wv_tb hdA hi, wv_tb hdB hi]
  have hb0 : bop how false false = false := by unfold bop; split; rfl; split; rfl; split <;> rfl
  have htop : e t ≠ 0 ↔ bop how (decide (x < 0)) (decide (y < 0)) = true := by
    have hj : ∀ j, j < 28 → (e t).testBit j = bop how (decide (x < 0)) (decide (y < 0)) := by
      intro j hj
      have h1 := hbit (28 * t + j) (by omega)
      rw [rp_top hA hx j hj, rp_top hB hy j hj, hC, wv_tb hde (by omega), show (28 * t + j) / 28 = t by omega, show (28 * t + j) % 28 = j by omega] at h1
      exact h1
    constructor
    · intro h0
      cases hq : bop how (decide (x < 0)) (decide (y < 0))
      · exfalso
        apply h0
        apply Nat.eq_of_testBit_eq
        intro i
        rw [Nat.zero_testBit]
        rcases Nat.lt_or_ge i 28 with h9 | h9
        · rw [hj i h9, hq]
        · exact Nat.testBit_lt_two_pow (Nat.lt_of_lt_of_le (hde t) (Nat.pow_le_pow_right (show 0 < 2 by decide) h9))
      · rfl
    · intro h0 h9
      have := hj 0 (by decide)
      rw [h9, h0, Nat.zero_testBit] at this
      exact absurd this (by decide)
  have hC0 : e t ≠ 0 → C ≠ 0 := by
    intro h0 h9
    rw [hC, wv_s] at h9
    have := Nat.mul_pos (Nat.pos_of_ne_zero h0) (wP_pos t)
    omega
  refine ⟨hlt, htop, hC0, fun z hz i => ?_⟩
  have hrz : rp (28 * (t + 1)) z C := by
    refine ⟨?_, ?_⟩
    · rw [hz]
      split
      · next h0 => have := hC0 h0; rw [Int.natAbs_neg, Int.natAbs_natCast]; omega
      · rw [Int.natAbs_natCast]; exact hlt
    · rw [hz]
      by_cases h0 : e t ≠ 0
      · have := hC0 h0
        rw [if_pos h0, if_pos (by omega), Int.natAbs_neg, Int.natAbs_natCast]
        omega
      · rw [if_neg h0, if_neg (by omega), Int.natAbs_natCast]
  have hsg : decide (z < 0) = bop how (decide (x < 0)) (decide (y < 0)) := by
    rw [Bool.eq_iff_iff, decide_eq_true_iff, ← htop, hz]
    constructor
    · intro h9 h0
      rw [if_neg (fun h => h h0)] at h9
      omega
    · intro h0
      have := hC0 h0
      rw [if_pos h0]
      omega
  rw [rp_tb hrz, rp_tb hA, rp_tb hB]
  split
  · next h9 => exact hbit i h9
  · exact hsg
theorem zM_turn {w w' : zV} {n t c : Nat} {b : Bool} {d1 : Nat → Nat} (h : zM w n t b) (ev : w' = (d1, w.2.1, w.2.2)) (hI : wv d1 w.2.1 + c * wP w.2.1 + wv w.1 w.2.1 = wP w.2.1) (ht : t ≠ 0) : zM w' n (wP n - t) b := by
  obtain ⟨h1, h2, h3⟩ := h
  rw [ev]
  rw [h1] at hI ⊢
  rw [h2] at hI
  refine ⟨rfl, ?_, h3⟩
  show wv d1 n = _
  rcases Nat.eq_zero_or_pos c with h9 | h9
  · rw [h9, Nat.zero_mul] at hI; omega
  · have := Nat.mul_le_mul_right (wP n) h9
    rw [Nat.one_mul] at this
    omega
theorem rp_of {n n1 : Nat} {w : zV} {x : Int} (hd : ∀ i, w.1 i < 268435456) (h : zN w x) (hn : w.2.1 ≤ n) (hn1 : n ≤ n1) : x.natAbs < 2 ^ (28 * n1) ∧ x.natAbs < 2 ^ (28 * n) := by
  rw [zN_abs h, ← wP_two, ← wP_two]
  exact ⟨Nat.lt_of_lt_of_le (wv_lt hd _) (wP_mono (by omega)), Nat.lt_of_lt_of_le (wv_lt hd _) (wP_mono hn)⟩
