/-! a Whole that may have zeros on top: n limbs, size t, sign b -/
def zM (w : zV) (n t : Nat) (b : Bool) : Prop := w.2.1 = n ∧ wv w.1 n = t ∧ w.2.2 = b
theorem zN_M {w : zV} {x : Int} (h : zN w x) : zM w w.2.1 x.natAbs w.2.2 := ⟨rfl, (zN_abs h).symm, rfl⟩
theorem zM_trim {w w' : zV} {n t n1 : Nat} {b : Bool} (h : zM w n t b) (ev : w' = (w.1, n1, w.2.2 && decide (n1 ≠ 0))) (hle : n1 ≤ w.2.1) (hz : ∀ i, n1 ≤ i → i < w.2.1 → w.1 i = 0) (hnz : nz w.1 n1) : zN w' (if b = true then -(t : Int) else (t : Int)) := by
  obtain ⟨h1, h2, h3⟩ := h
  rw [← h2, ← h3, ← h1, ev]
  exact zN_trim hle hz hnz
theorem zM_stretch {w w' : zV} {n t n1 : Nat} {b : Bool} {d1 : Nat → Nat} (h : zM w n t b) (ev : w' = (d1, n1, w.2.2)) (hn : w.2.1 ≤ n1) (hlo : ∀ i, i < w.2.1 → d1 i = w.1 i) (hhi : ∀ i, w.2.1 ≤ i → i < n1 → d1 i = 0) : zM w' n1 t b := by
  obtain ⟨h1, h2, h3⟩ := h
  rw [ev]
  refine ⟨rfl, ?_, h3⟩
  show wv d1 n1 = t
  rw [wv_drop hn hhi, wv_congr hlo, h1, h2]
theorem zM_mix {w w' : zV} {n t T n2 : Nat} {b : Bool} {d1 d2 : Nat → Nat} {c f : Int} {y : Nat} (h : zM w n t b) (ev : w' = (d1, w.2.1, w.2.2)) (hd : ∀ i, w'.1 i < 268435456) (hI : (wv d1 w.2.1 : Int) + c * wP w.2.1 = wv w.1 w.2.1 + f * wP 0 * wv d2 n2) (hy : y = wv d2 n2) (hT : (t : Int) + f * y = T) (hb : T < wP n) : zM w' n T b := by
  obtain ⟨h1, h2, h3⟩ := h
  rw [ev] at hd ⊢
  refine ⟨h1, ?_, h3⟩
  show wv d1 n = T
  rw [h1, h2, wP_0, ← hy, show f * ((1 : Nat) : Int) = f from Int.mul_one f, hT] at hI
  have hl := wv_lt hd n
  have hl : wv d1 n < wP n := hl
  have hc : c = 0 := by
    rcases Int.lt_trichotomy c 0 with h9 | h9 | h9
    · have := Int.mul_le_mul_of_nonneg_right (show c ≤ -1 by omega) (show (0 : Int) ≤ wP n by omega)
      omega
    · exact h9
    · have := Int.mul_le_mul_of_nonneg_right (show 1 ≤ c by omega) (show (0 : Int) ≤ wP n by omega)
      omega
  rw [hc, Int.zero_mul] at hI
  omega
theorem zM_b {w w' : zV} {n t : Nat} {b b1 : Bool} (h : zM w n t b) (ev : w' = (w.1, w.2.1, b1)) : zM w' n t b1 := by
  rw [ev]; exact ⟨h.1, h.2.1, rfl⟩
theorem zM_sh {w : zV} {n t q dv r0 : Nat} {b : Bool} (h : zM w n t b) (hq : q * dv + r0 = wv w.1 w.2.1) (hr : r0 < dv) : q = t / dv := by
  rw [h.1, h.2.1] at hq
  rw [← hq, Nat.mul_comm, Nat.mul_add_div (by omega), Nat.div_eq_of_lt hr, Nat.add_zero]
theorem zM_a {w : zV} {x : Int} (h : zN w x) (hx : 0 ≤ x) : w.2.2 = false := by
  cases hb : w.2.2
  · rfl
  · have := (zN_neg h).mp hb; omega
/-- the size of a number without its sign -/
theorem zN_pos {w w' : zV} {x : Int} (h : zN w x) (ev : w' = (w.1, w.2.1, false)) : zN w' (x.natAbs : Int) := by
  rw [ev]
  exact ⟨h.1, fun h9 => Bool.noConfusion h9, by rw [zN_abs h]; rfl⟩
theorem cmp_ge {a b : Int} (h : ¬ cmpZ a b < 0) : b ≤ a := by
  unfold cmpZ at h
  split at h
  · omega
  · omega
theorem cmp_lt9 {a b : Int} (h : cmpZ a b < 0) : a < b := by
  unfold cmpZ at h
  split at h
  · assumption
  · split at h <;> omega
theorem tdiv_abs (x y : Int) : x.tdiv y = if (decide (x < 0) != decide (y < 0)) = true then -((x.natAbs / y.natAbs : Nat) : Int) else ((x.natAbs / y.natAbs : Nat) : Int) := by
  have key : ∀ a b : Nat, (a : Int).tdiv b = ((a / b : Nat) : Int) := fun a b => rfl
  rcases Int.lt_or_le x 0 with hx | hx
  · rcases Int.lt_or_le y 0 with hy | hy
    · have ex : x = -(x.natAbs : Int) := by omega
      have ey : y = -(y.natAbs : Int) := by omega
      rw [if_neg (by simp [hx, hy])]
      conv => lhs; rw [ex, ey, Int.neg_tdiv, Int.tdiv_neg, Int.neg_neg, key]
    · have ex : x = -(x.natAbs : Int) := by omega
      have ey : y = (y.natAbs : Int) := by omega
      rw [if_pos (by simp [hx]; omega)]
      conv => lhs; rw [ex, ey, Int.neg_tdiv, key]
  · rcases Int.lt_or_le y 0 with hy | hy
    · have ex : x = (x.natAbs : Int) := by omega
      have ey : y = -(y.natAbs : Int) := by omega
      rw [if_pos (by simp [hy]; omega)]
      conv => lhs; rw [ex, ey, Int.tdiv_neg, key]
    · have ex : x = (x.natAbs : Int) := by omega
      have ey : y = (y.natAbs : Int) := by omega
      rw [if_neg (by rw [decide_eq_false (by omega), decide_eq_false (by omega)]; decide)]
      conv => lhs; rw [ex, ey, key]
theorem tdiv_zN {w1 w2 : zV} {x y : Int} {b : Bool} (h1 : zN w1 x) (h2 : zN w2 y) (hb : b = (w1.2.2 != w2.2.2)) : (if b = true then -((x.natAbs / y.natAbs : Nat) : Int) else ((x.natAbs / y.natAbs : Nat) : Int)) = x.tdiv y := by
  have e1 : w1.2.2 = decide (x < 0) := by
    rw [Bool.eq_iff_iff, zN_neg h1, decide_eq_true_iff]
  have e2 : w2.2.2 = decide (y < 0) := by
    rw [Bool.eq_iff_iff, zN_neg h2, decide_eq_true_iff]
  rw [tdiv_abs, hb, e1, e2]
/-! sizes of registers -/
def zX (x : Int) : Prop := x.natAbs < 2 ^ 2048
theorem zX_sm {x : Int} (h : zX x) : sm x := Nat.lt_of_lt_of_le h (by rw [wP_two]; exact Nat.pow_le_pow_right (by decide) (by decide))
theorem zX_smm {x y : Int} (h : zX x) (h2 : zX y) : smm x y := by
  show x.natAbs * y.natAbs < wP 150
  refine Nat.lt_of_lt_of_le (Nat.mul_lt_mul'' h h2) ?_
  rw [← Nat.pow_add, wP_two]
  exact Nat.pow_le_pow_right (by decide) (by decide)
/-! Euclid's steps -/
def eu (K s h l : Nat) : Prop := l * 2 ^ (s / 2) < K ∧ (1 ≤ s → l < h ∧ h * 2 ^ ((s - 1) / 2) < K)
theorem eu_0 {K h l : Nat} (hl : l < K) : eu K 0 h l := ⟨by rw [show (0 : Nat) / 2 = 0 from rfl, Nat.pow_zero, Nat.mul_one]; exact hl, fun h => absurd h (by decide)⟩
theorem eu_step {K s h l : Nat} (hl : l ≠ 0) (hE : eu K s h l) : eu K (s + 1) l (h % l) := by
  obtain ⟨h1, h2⟩ := hE
  have hm := Nat.mod_lt h (show l > 0 by omega)
  refine ⟨?_, fun _ => ⟨hm, by rw [Nat.add_sub_cancel]; exact h1⟩⟩
  rcases Nat.eq_zero_or_pos s with hs | hs
  · rw [hs] at h1 ⊢
    refine Nat.lt_of_le_of_lt ?_ h1
    exact Nat.mul_le_mul_right _ (Nat.le_of_lt hm)
  · obtain ⟨h3, h4⟩ := h2 hs
    refine Nat.lt_of_le_of_lt ?_ h4
    have e : (s + 1) / 2 = (s - 1) / 2 + 1 := by omega
    rw [e, Nat.pow_succ, Nat.mul_comm (2 ^ ((s - 1) / 2)) 2, ← Nat.mul_assoc]
    refine Nat.mul_le_mul_right _ ?_
    have h5 := Nat.div_add_mod h l
    have h6 : 1 ≤ h / l := (Nat.one_le_div_iff (by omega)).mpr (by omega)
    have h7 := Nat.mul_le_mul_left l h6
    omega
theorem eu_end {K h l : Nat} (hK : K = 2 ^ 2048) (hE : eu K 4096 h l) : l = 0 := by
  have h1 := hE.1
  rw [show 4096 / 2 = 2048 from rfl, ← hK] at h1
  rcases Nat.eq_zero_or_pos l with h2 | h2
  · exact h2
  · have := Nat.mul_le_mul_right K h2; omega
theorem gcd_st {x y : Int} : Nat.gcd y.natAbs (x.tmod y).natAbs = Nat.gcd x.natAbs y.natAbs := by
  rw [Int.natAbs_tmod, Nat.gcd_comm y.natAbs, ← Nat.gcd_rec, Nat.gcd_comm]
/-! Newton's way -/
theorem sq_le (r x : Nat) : 2 * (r * x) ≤ r * r + x * x := by
  rcases Nat.le_total r x with h | h
  · obtain ⟨k, rfl⟩ := Nat.exists_eq_add_of_le h
    grind
  · obtain ⟨k, rfl⟩ := Nat.exists_eq_add_of_le h
    grind
theorem amgm (r x : Nat) : ∀ n, (n + 1) * (r * x ^ n) ≤ r ^ (n + 1) + n * x ^ (n + 1)
  | 0 => by simp
  | n + 1 => by
    have ih := amgm r x n
    have h1 := Nat.mul_le_mul_right r ih
    have h2 := Nat.mul_le_mul_left ((n + 1) * x ^ n) (sq_le r x)
    rw [Nat.pow_succ x (n + 1), Nat.pow_succ r (n + 1), Nat.pow_succ x n]
    rw [Nat.pow_succ x n] at h1
    generalize x ^ n = X at h1 h2 ⊢
    generalize r ^ (n + 1) = Y at h1 h2 ⊢
    grind
theorem newt_lo {a r x k : Nat} (hr : r ^ (k + 1) ≤ a) (hx : 0 < x) : r ≤ (a / x ^ k + k * x) / (k + 1) := by
  rw [Nat.le_div_iff_mul_le (by omega)]
  have h1 := amgm r x k
  have h0 : 0 < x ^ k := Nat.pow_pos hx
  rcases Nat.le_total (r * (k + 1)) (k * x) with h2 | h2
  · exact Nat.le_trans h2 (Nat.le_add_left _ _)
  · have h3 : r * (k + 1) - k * x ≤ a / x ^ k := by
      rw [Nat.le_div_iff_mul_le h0, Nat.sub_mul]
      have e1 : r * (k + 1) * x ^ k = (k + 1) * (r * x ^ k) := by grind
      have e2 : k * x * x ^ k = k * x ^ (k + 1) := by rw [Nat.pow_succ]; grind
      rw [e1, e2]
      omega
    exact Nat.sub_le_iff_le_add.mp h3
theorem newt_hi {a r x k : Nat} (hr : a < (r + 1) ^ (k + 1)) (hx : r + 1 ≤ x) : a / x ^ k ≤ r := by
  have h0 : 0 < x ^ k := Nat.pow_pos (by omega)
  refine Nat.le_of_lt_succ ?_
  rw [Nat.div_lt_iff_lt_mul h0]
  refine Nat.lt_of_lt_of_le hr ?_
  rw [Nat.pow_succ, Nat.mul_comm]
  exact Nat.mul_le_mul_left _ (Nat.pow_le_pow_left hx k)
theorem newt_st {a r x k : Nat} (hr : a < (r + 1) ^ (k + 1)) (hx : r + 1 ≤ x) : (k + 1) * ((a / x ^ k + k * x) / (k + 1) - r) ≤ k * (x - r) ∧ (a / x ^ k + k * x) / (k + 1) < x := by
  have h1 := newt_hi hr hx
  generalize a / x ^ k = t at h1 ⊢
  have h2 := Nat.div_mul_le_self (t + k * x) (k + 1)
  generalize (t + k * x) / (k + 1) = q at h2 ⊢
  obtain ⟨j, rfl⟩ := Nat.exists_eq_add_of_le hx
  have e3 : q * (k + 1) ≤ r + k * r + k * (j + 1) := by grind
  have e2 : (k + 1) * q ≤ (k + 1) * r + k * (j + 1) := by grind
  refine ⟨?_, ?_⟩
  · rw [Nat.mul_sub, show r + 1 + j - r = j + 1 from by omega]
    omega
  · rcases Nat.lt_or_ge q (r + 1 + j) with h | h
    · exact h
    · have := Nat.mul_le_mul_left (k + 1) h
      grind
def newt (r e k s x : Nat) : Prop := r ≤ x ∧ 1 ≤ x ∧ x ≤ 2 ^ e ∧ (x - r) * (k + 1) ^ s ≤ k ^ s * 2 ^ e
theorem newt_next {a r e x k s : Nat} (hr1 : 1 ≤ r) (hr0 : r ^ (k + 1) ≤ a) (hr : a < (r + 1) ^ (k + 1)) (hN : newt r e k s x) (hlt : (a / x ^ k + k * x) / (k + 1) < x) : newt r e k (s + 1) ((a / x ^ k + k * x) / (k + 1)) := by
  obtain ⟨h1, h2, h3, h4⟩ := hN
  have h5 := newt_lo (x := x) hr0 (by omega)
  refine ⟨h5, by omega, by omega, ?_⟩
  have h6 : r + 1 ≤ x := by omega
  have h7 := (newt_st hr h6).1
  generalize (a / x ^ k + k * x) / (k + 1) = q at h7 ⊢
  rw [Nat.pow_succ, Nat.pow_succ]
  have h8 := Nat.mul_le_mul_left k h4
  have h9 := Nat.mul_le_mul_right ((k + 1) ^ s) h7
  generalize (k + 1) ^ s = A at h4 h8 h9 ⊢
  generalize k ^ s = C at h4 h8 h9 ⊢
  generalize 2 ^ e = D at h4 h8 h9 ⊢
  generalize q - r = u at h9 ⊢
  generalize x - r = w at h4 h8 h9 ⊢
  grind
theorem newt_stop {a r e x k s : Nat} (hr : a < (r + 1) ^ (k + 1)) (hN : newt r e k s x) (hge : x ≤ (a / x ^ k + k * x) / (k + 1)) : x = r := by
  rcases Nat.lt_or_ge r x with h | h
  · have := (newt_st hr h).2; omega
  · have := hN.1; omega
theorem k_half : ∀ k, k < 64 → 2 * k ^ (k + 1) ≤ (k + 1) ^ (k + 1) := by decide +kernel
theorem k_pow {k : Nat} (hk : k < 64) (j s : Nat) (hs : (k + 1) * j ≤ s) : 2 ^ j * k ^ s ≤ (k + 1) ^ s := by
  obtain ⟨t, rfl⟩ := Nat.exists_eq_add_of_le hs
  rw [Nat.pow_add, Nat.pow_add, ← Nat.mul_assoc, Nat.pow_mul, Nat.pow_mul, ← Nat.mul_pow]
  exact Nat.mul_le_mul (Nat.pow_le_pow_left (k_half k hk) j) (Nat.pow_le_pow_left (Nat.le_succ k) t)
theorem newt_end {r e x k s : Nat} (hk : k < 64) (hs : (k + 1) * (e + 1) ≤ s) (hN : newt r e k s x) : x = r := by
  obtain ⟨h1, h2, h3, h4⟩ := hN
  rcases Nat.eq_zero_or_pos k with h0 | h0
  · subst h0
    have : (k0 : Nat) → k0 = s → 0 < k0 := by intro k0 h; have := Nat.mul_le_mul_left (0 + 1) (show 1 ≤ e + 1 by omega); omega
    have h5 := this s rfl
    rw [Nat.zero_pow h5, Nat.zero_mul, Nat.zero_add, Nat.one_pow, Nat.mul_one] at h4
    omega
  · have h5 := k_pow hk (e + 1) s hs
    have h6 := Nat.mul_le_mul_left (x - r) h5
    have h7 : 0 < k ^ s := Nat.pow_pos h0
    have h8 : (x - r) * (2 ^ (e + 1)) * k ^ s ≤ 2 ^ e * k ^ s := by
      rw [Nat.mul_assoc]
      refine Nat.le_trans h6 (Nat.le_trans h4 ?_)
      rw [Nat.mul_comm]
      exact Nat.le_refl _
    have h9 := Nat.le_of_mul_le_mul_right h8 h7
    rw [Nat.pow_succ] at h9
    have h10 : 0 < 2 ^ e := Nat.pow_pos (by decide)
    rcases Nat.eq_zero_or_pos (x - r) with h11 | h11
    · omega
    · have := Nat.mul_le_mul_right (2 ^ e * 2) h11
      omega
theorem newt_first {a r n k q : Nat} (hn : n = k + 1) (hr : r ^ n ≤ a) (hq : bl a q) (hr1 : 1 ≤ r) : newt r ((q + n - 1) / n) k 0 (2 ^ ((q + n - 1) / n)) := by
  subst hn
  have h0 : 0 < 2 ^ ((q + (k + 1) - 1) / (k + 1)) := Nat.pow_pos (by decide)
  refine ⟨?_, h0, Nat.le_refl _, ?_⟩
  · rcases Nat.lt_or_ge (2 ^ ((q + (k + 1) - 1) / (k + 1))) r with h | h
    · have h1 := Nat.pow_lt_pow_left h (show k + 1 ≠ 0 by omega)
      rw [← Nat.pow_mul] at h1
      have h2 : q ≤ (q + (k + 1) - 1) / (k + 1) * (k + 1) := by
        have := Nat.div_add_mod (q + (k + 1) - 1) (k + 1)
        have := Nat.mod_lt (q + (k + 1) - 1) (show k + 1 > 0 by omega)
        rw [Nat.mul_comm]
        omega
      have h3 := Nat.pow_le_pow_right (show 2 > 0 by decide) h2
      have := hq.1
      omega
    · exact h
  · rw [Nat.pow_zero, Nat.pow_zero, Nat.mul_one, Nat.one_mul]
    omega
theorem root_ex {n : Nat} (hn : n ≠ 0) : ∀ a : Nat, ∃ r, r ^ n ≤ a ∧ a < (r + 1) ^ n
  | 0 => ⟨0, by rw [Nat.zero_pow (by omega)]; exact Nat.le_refl 0, by rw [Nat.zero_add, Nat.one_pow]; decide⟩
  | a + 1 => by
    obtain ⟨r, h1, h2⟩ := root_ex hn a
    by_cases h : (r + 1) ^ n ≤ a + 1
    · refine ⟨r + 1, h, ?_⟩
      have := Nat.pow_lt_pow_left (show r + 1 < r + 1 + 1 by omega) hn
      omega
    · exact ⟨r, by omega, by omega⟩
theorem root_un {n a r q : Nat} (hn : n ≠ 0) (h1 : r ^ n ≤ a) (h2 : a < (r + 1) ^ n) (h3 : q ^ n ≤ a) (h4 : a < (q + 1) ^ n) : r = q := by
  have h5 : r < q + 1 := (Nat.pow_lt_pow_iff_left hn).mp (by omega)
  have h6 : q < r + 1 := (Nat.pow_lt_pow_iff_left hn).mp (by omega)
  omega
theorem zN_bl {w : zV} {x : Int} {q : Nat} (hd : ∀ i, w.1 i < 268435456) (h : zN w x) (h0 : w.2.1 = 0 → q = 0) (h1 : w.2.1 ≠ 0 → ∃ t, bl (w.1 (w.2.1 - 1)) t ∧ q = 28 * (w.2.1 - 1) + t) : bl x.natAbs q := by
  rw [zN_abs h]
  by_cases h2 : w.2.1 = 0
  · rw [h0 h2, h2]; exact bl_0
  · obtain ⟨t, h3, h4⟩ := h1 h2
    have h5 := bl_top hd (h.1 h2) h3
    rw [h4, show w.2.1 = w.2.1 - 1 + 1 from by omega]
    exact h5
theorem zN_one {w : zV} {x : Int} (hd : ∀ i, w.1 i < 268435456) (h : zN w x) : decide (w.2.1 = 1 ∧ w.1 0 = 1 ∧ w.2.2 = false) = decide (x = 1) := by
  rw [decide_eq_decide]
  constructor
  · rintro ⟨h1, h2, h3⟩
    rw [h.2.2, h3, h1]
    show ((wv w.1 1 : Nat) : Int) = 1
    rw [wv_s, wv_0, h2, wP_0]; rfl
  · intro h1
    have h2 := zN_abs h
    rw [h1] at h2 h
    have h3 : w.2.1 ≤ 1 := (zN_len hd h).mpr (by decide)
    have h4 : w.2.1 ≠ 0 := fun h9 => absurd ((zN_0 h).mp h9) (by decide)
    have h5 : w.2.1 = 1 := by omega
    refine ⟨h5, ?_, zM_a h (by decide)⟩
    rw [h5, wv_s, wv_0, wP_0, Nat.zero_add, Nat.mul_one] at h2
    exact h2.symm
theorem zN_groom {w1 w2 w3 : zV} {x y z : Int} (hd1 : ∀ i, w1.1 i < 268435456) (hd2 : ∀ i, w2.1 i < 268435456) (hd3 : ∀ i, w3.1 i < 268435456) (h1 : zN w1 x) (h2 : zN w2 y) (h3 : zN w3 z) (hb : x.natAbs < wP 148 ∧ y.natAbs < wP 148 ∧ z.natAbs < wP 148 ∧ y.natAbs * z.natAbs < wP 148) : max w1.2.1 (w2.2.1 + w3.2.1) + 1 ≤ 152 := by
  have e1 := (zN_len hd1 h1).mpr hb.1
  have e2 := (zN_len hd2 h2).mpr hb.2.1
  have e3 := (zN_len hd3 h3).mpr hb.2.2.1
  by_cases hy : w2.2.1 = 0
  · omega
  by_cases hz : w3.2.1 = 0
  · omega
  have f2 : ¬ y.natAbs < wP (w2.2.1 - 1) := fun h9 => by have := (zN_len hd2 h2).mpr h9; omega
  have f3 : ¬ z.natAbs < wP (w3.2.1 - 1) := fun h9 => by have := (zN_len hd3 h3).mpr h9; omega
  have f4 := Nat.mul_le_mul (Nat.le_of_not_lt f2) (Nat.le_of_not_lt f3)
  rw [← wP_add] at f4
  have f5 : w2.2.1 - 1 + (w3.2.1 - 1) < 148 := by
    rcases Nat.lt_or_ge (w2.2.1 - 1 + (w3.2.1 - 1)) 148 with h | h
    · exact h
    · have := wP_mono h
      have := hb.2.2.2
      omega
  omega
/-! places that omega does not see -/
def nA (a b : Nat) : Prop := a ≠ b
def swp (x y a s : Nat) : Prop := (a = x ∧ s = y) ∨ (a = y ∧ s = x)
theorem swp_ne {x y o a s : Nat} (h : swp x y a s) (h1 : o ≠ x) (h2 : o ≠ y) : nA o a ∧ nA o s := by
  unfold swp at h; unfold nA; omega
theorem swp_as {x y a s : Nat} (h : swp x y a s) (h1 : x ≠ y) : nA a s := by
  unfold swp at h; unfold nA; omega
theorem swp_lp {x y a s : Nat} (h : swp x y a s) (h1 : lp x = true) (h2 : lp y = true) : lp a = true ∧ lp s = true := by
  rcases h with ⟨ha, hs⟩ | ⟨ha, hs⟩ <;> rw [ha, hs] <;> simp [h1, h2]
theorem swp_sym {x y a s : Nat} (h : swp x y a s) : swp x y s a := by
  unfold swp at h ⊢; omega
def l80 (x : Nat) : Prop := x < wP 80
