/-! the guess of a digit, as the loop makes it -/
theorem g_start {pt hi nx u2 : Nat} (h0 : 0 < hi) (hu : u2 < 268435456) : pt * 268435456 + u2 < (pt / hi + 1) * (hi * 268435456 + nx) := by
  have h1 : pt < (pt / hi + 1) * hi := by
    have := Nat.div_add_mod pt hi
    have := Nat.mod_lt pt h0
    rw [Nat.add_mul, Nat.one_mul, Nat.mul_comm]
    omega
  have h2 : (pt + 1) * 268435456 ≤ (pt / hi + 1) * hi * 268435456 := Nat.mul_le_mul_right _ h1
  have h3 : (pt / hi + 1) * (hi * 268435456 + nx) = (pt / hi + 1) * hi * 268435456 + (pt / hi + 1) * nx := by rw [Nat.mul_add, Nat.mul_assoc]
  omega
theorem g_dec {pt hi nx u2 g lf : Nat} (hp : pt = g * hi + lf) (h : 268435456 ≤ g ∨ lf * 268435456 + u2 < g * nx) : 1 ≤ g ∧ (pt * 268435456 + u2 < (g - 1 + 1) * (hi * 268435456 + nx) ∨ 268435456 ≤ g - 1 + 1) := by
  have hg : 1 ≤ g := by
    rcases h with h | h
    · omega
    · rcases Nat.eq_zero_or_pos g with h0 | h0
      · subst h0; rw [Nat.zero_mul] at h; omega
      · exact h0
  refine ⟨hg, ?_⟩
  rw [show g - 1 + 1 = g by omega]
  rcases h with h | h
  · exact Or.inr h
  · left
    subst hp
    rw [Nat.mul_add, ← Nat.mul_assoc, Nat.add_mul]
    rw [Nat.add_assoc]
    exact Nat.add_lt_add_left h _
theorem g_end {pt hi nx u2 g lf : Nat} (hhi : 134217728 ≤ hi) (hnx : nx < 268435456) (hp : pt = g * hi + lf) (hpt : pt ≤ hi * 268435456 + 268435455) (hlow : pt * 268435456 + u2 < (g + 1) * (hi * 268435456 + nx) ∨ 268435456 ≤ g + 1) (h : 268435456 ≤ lf ∨ (g < 268435456 ∧ g * nx ≤ lf * 268435456 + u2)) : g = gs (hi * 268435456 + nx) (pt * 268435456 + u2) := by
  have hg : g < 268435456 := by
    rcases h with h | h
    · rcases Nat.lt_or_ge g 268435456 with h1 | h1
      · exact h1
      · have : 268435456 * hi ≤ g * hi := Nat.mul_le_mul_right _ h1
        omega
    · exact h.1
  have h3 : g * (hi * 268435456 + nx) = g * hi * 268435456 + g * nx := by rw [Nat.mul_add, Nat.mul_assoc]
  have h4 : g * nx ≤ lf * 268435456 + u2 := by
    rcases h with h | h
    · have : g * nx ≤ 268435455 * 268435455 := Nat.mul_le_mul (by omega) (by omega)
      omega
    · exact h.2
  refine gs_of (by omega) ?_ ?_ hg
  · rw [h3, hp, Nat.add_mul]
    omega
  · rcases hlow with h5 | h5
    · exact Or.inl h5
    · exact Or.inr (by omega)
/-- two neighbouring digits are a quotient's head -/
theorem dig2 (X j : Nat) : X / wP (j + 1) * 268435456 + X / wP j % 268435456 = X / wP j := by
  rw [wP_s, Nat.mul_comm 268435456, ← Nat.div_div_eq_div_mul, Nat.mul_comm]
  exact Nat.div_add_mod _ _
theorem dv_guess {d2 du : Nat → Nat} {n2 m q up : Nat} (hd2 : ∀ i, d2 i < 268435456) (hdu : ∀ i, du i < 268435456) (hn2 : n2 ≠ 0) (ht : d2 (n2 - 1) ≠ 0) (hq : bl (d2 (n2 - 1)) q) (hup : up = 28 - q) (hm : 1 ≤ m) (hR : wv du (m + n2) < wv d2 n2 * wP m) :
    134217728 ≤ lsh d2 n2 up n2 ∧ lsh du (m + n2) up (m + n2) ≤ lsh d2 n2 up n2 ∧
    wv du (m + n2) / (wv d2 n2 * wP (m - 1)) ≤ gs (lsh d2 n2 up n2 * 268435456 + lsh d2 n2 up (n2 - 1)) ((lsh du (m + n2) up (m + n2) * 268435456 + lsh du (m + n2) up (m + n2 - 1)) * 268435456 + lsh du (m + n2) up (m + n2 - 2)) ∧
    gs (lsh d2 n2 up n2 * 268435456 + lsh d2 n2 up (n2 - 1)) ((lsh du (m + n2) up (m + n2) * 268435456 + lsh du (m + n2) up (m + n2 - 1)) * 268435456 + lsh du (m + n2) up (m + n2 - 2)) ≤ wv du (m + n2) / (wv d2 n2 * wP (m - 1)) + 1 := by
  obtain ⟨a, rfl⟩ : ∃ a, n2 = a + 1 := ⟨n2 - 1, by omega⟩
  obtain ⟨c, rfl⟩ : ∃ c, m = c + 1 := ⟨m - 1, by omega⟩
  rw [show a + 1 - 1 = a by omega] at ht hq ⊢
  rw [show c + 1 - 1 = c by omega, show c + 1 + (a + 1) - 1 = c + a + 1 by omega, show c + 1 + (a + 1) - 2 = c + a by omega, show c + 1 + (a + 1) = c + a + 2 by omega] at *
  have hq28 : q ≤ 28 := bl_28 (hd2 a) hq
  have hq0 : q ≠ 0 := fun e => by subst e; have := hq.1; omega
  have hup28 : up ≤ 28 := by omega
  have hbl := bl_top hd2 ht hq
  obtain ⟨V, hV⟩ : ∃ V, V = wv d2 (a + 1) := ⟨_, rfl⟩
  obtain ⟨Rr, hRr⟩ : ∃ Rr, Rr = wv du (c + a + 2) := ⟨_, rfl⟩
  obtain ⟨S, hS⟩ : ∃ S, S = 2 ^ up := ⟨_, rfl⟩
  have hS0 : 0 < S := by rw [hS]; exact Nat.two_pow_pos _
  rw [lsh_eq hd2 _ hup28, lsh_eq hd2 _ hup28, lsh_eq hdu _ hup28, lsh_eq hdu _ hup28, lsh_eq hdu _ hup28, ← hV, ← hRr, ← hS]
  rw [← hV] at hbl hR
  rw [← hRr] at hR
  have v1 : V * S < wP (a + 1) := by
    rw [wP_two, hS]
    have := Nat.mul_lt_mul_of_pos_right hbl.1 (Nat.two_pow_pos up)
    rw [← Nat.pow_add, show 28 * a + q + up = 28 * (a + 1) by omega] at this
    exact this
  have v2 : 2 ^ (28 * (a + 1) - 1) ≤ V * S := by
    rw [hS]
    have := Nat.mul_le_mul_right (2 ^ up) (hbl.2 (by omega))
    rw [← Nat.pow_add, show 28 * a + q - 1 + up = 28 * (a + 1) - 1 by omega] at this
    exact this
  have v3 : V * S * 268435456 / wP (a + 1) < 268435456 := (Nat.div_lt_iff_lt_mul (wP_pos _)).mpr (by rw [Nat.mul_comm]; exact Nat.mul_lt_mul_of_pos_left v1 (by decide))
  have v4 : 134217728 ≤ V * S * 268435456 / wP (a + 1) := (Nat.le_div_iff_mul_le (wP_pos _)).mpr (by
    have h1 : wP (a + 1) = 2 * 2 ^ (28 * (a + 1) - 1) := by rw [wP_two, ← Nat.pow_succ']; congr 1
    rw [h1]
    omega)
  have r1 : Rr * S < V * S * wP (c + 1) := by
    have := Nat.mul_lt_mul_of_pos_right hR hS0
    rw [Nat.mul_right_comm] at this
    exact this
  have r2 : Rr * S * 268435456 / wP (c + a + 2) ≤ V * S * 268435456 / wP (a + 1) := by
    rw [show c + a + 2 = c + 1 + (a + 1) by omega, wP_add, ← Nat.div_div_eq_div_mul]
    refine Nat.div_le_div_right ?_
    refine Nat.le_of_lt ((Nat.div_lt_iff_lt_mul (wP_pos _)).mpr ?_)
    have := Nat.mul_lt_mul_of_pos_right r1 (show 0 < 268435456 by decide)
    rw [Nat.mul_right_comm (V * S)] at this
    exact this
  rw [Nat.mod_eq_of_lt v3, Nat.mod_eq_of_lt (Nat.lt_of_le_of_lt r2 v3), dig2 _ a, show c + a + 2 = c + a + 1 + 1 by omega, dig2 _ (c + a + 1), dig2 _ (c + a)]
  refine ⟨v4, r2, ?_⟩
  have hVV : 268435456 ≤ V * S * 268435456 / wP a := by
    have := dig2 (V * S * 268435456) a
    omega
  have key := gs_true (v := V * S) (r := Rr * S) (VV := V * S * 268435456 / wP a) (UU := Rr * S * 268435456 / wP (c + a)) (lv := V * S * 268435456 % wP a) (lr := Rr * S * 268435456 % wP (c + a)) (P := wP a) (Q := wP c) (wP_pos _) (wP_pos _)
    (by rw [Nat.mul_comm (_ / _)]; exact (Nat.div_add_mod _ _).symm) (Nat.mod_lt _ (wP_pos _))
    (by rw [← wP_add, Nat.add_comm a c, Nat.mul_comm (_ / _)]; exact (Nat.div_add_mod _ _).symm) (by rw [← wP_add, Nat.add_comm a c]; exact Nat.mod_lt _ (wP_pos _)) hVV
    (by rw [Nat.mul_comm (wP c), ← wP_s]; exact r1)
  rw [Nat.mul_right_comm V, Nat.mul_div_mul_right _ _ hS0] at key
  exact key
/-- behind the digit: the rest is less than the divisor at this place -/
theorem dv_digit {R V Q g : Nat} {A c : Int} {n : Nat} (hVQ : 0 < V * Q) (hg1 : R / (V * Q) ≤ g) (hlt : R < wP n) (hA0 : 0 ≤ A) (hA1 : A < wP n) (hI : A + c * wP n = R - g * Q * V) (hc : 0 ≤ c) : A + g * (V * Q) = R ∧ A < V * Q := by
  have h1 : R < (g + 1) * (V * Q) := (Nat.div_lt_iff_lt_mul hVQ).mp (by omega)
  have hY : ¬ ((R : Int) - g * Q * V < 0) := fun h => by have := (neg_carry hI hA0 hA1).mpr h; omega
  have e : ((g : Int) * Q * V) = ((g * (V * Q) : Nat) : Int) := by simp only [Int.natCast_mul]; grind
  rw [e] at hI hY
  have h2 := no_carry hI hA0 hA1 (by omega) (by omega)
  have h3 : (g + 1) * (V * Q) = g * (V * Q) + V * Q := by rw [Nat.add_mul, Nat.one_mul]
  have h4 : ((g : Int) * ((V : Int) * Q)) = ((g * (V * Q) : Nat) : Int) := by simp only [Int.natCast_mul]
  rw [h4]
  omega
theorem dv_back {R V Q g : Nat} {A c A2 c2 : Int} {n : Nat} (hVQ : 0 < V * Q) (hg2 : g ≤ R / (V * Q) + 1) (hlt : R < wP n) (hVQn : V * Q < wP n) (hA0 : 0 ≤ A) (hA1 : A < wP n) (hI : A + c * wP n = R - g * Q * V) (hc : c < 0) (hB0 : 0 ≤ A2) (hB1 : A2 < wP n) (hI2 : A2 + c2 * wP n = A + 1 * Q * V) : 1 ≤ g ∧ A2 + ((g - 1 : Nat) : Int) * (V * Q) = R ∧ A2 < V * Q := by
  have hY := (neg_carry hI hA0 hA1).mp hc
  have e : ((g : Int) * Q * V) = ((g * (V * Q) : Nat) : Int) := by simp only [Int.natCast_mul]; grind
  have e2 : ((1 : Int) * Q * V) = ((V * Q : Nat) : Int) := by simp only [Int.natCast_mul]; grind
  rw [e] at hI hY
  rw [e2] at hI2
  obtain ⟨qd, hqd⟩ : ∃ qd, qd = R / (V * Q) := ⟨_, rfl⟩
  rw [← hqd] at hg2
  have q1 : qd * (V * Q) ≤ R := by rw [hqd]; exact Nat.div_mul_le_self _ _
  have q2 : R < (qd + 1) * (V * Q) := by rw [hqd]; exact (Nat.div_lt_iff_lt_mul hVQ).mp (Nat.lt_succ_self _)
  have hg : g = qd + 1 := by
    rcases Nat.lt_or_ge qd g with h | h
    · omega
    · have := Nat.mul_le_mul_right (V * Q) h
      omega
  subst hg
  have h3 : (qd + 1) * (V * Q) = qd * (V * Q) + V * Q := by rw [Nat.add_mul, Nat.one_mul]
  rw [h3] at hI q2 hY
  have h4 : ((qd + 1 - 1 : Nat) : Int) * ((V : Int) * Q) = ((qd * (V * Q) : Nat) : Int) := by rw [show qd + 1 - 1 = qd by omega]; simp only [Int.natCast_mul]
  rw [h4]
  have hP := wP_posZ n
  have e3 : (V : Int) * Q = ((V * Q : Nat) : Int) := (Int.natCast_mul _ _).symm
  rw [e3]
  clear hqd h3 h4 e e2 hg2 e3
  generalize V * Q = X at *
  generalize qd * X = Z at *
  generalize wP n = Pn at *
  have hc1 : c = -1 := by
    rcases Int.lt_or_le c (-1) with h | h
    · have : c * (Pn : Int) ≤ -2 * Pn := Int.mul_le_mul_of_nonneg_right (by omega) (by omega)
      omega
    · omega
  subst hc1
  have hc2 : c2 = 1 := by
    rcases Int.lt_trichotomy c2 1 with h | h | h
    · have : c2 * (Pn : Int) ≤ 0 * Pn := Int.mul_le_mul_of_nonneg_right (by omega) (by omega)
      omega
    · exact h
    · have : 2 * (Pn : Int) ≤ c2 * Pn := Int.mul_le_mul_of_nonneg_right (by omega) (by omega)
      omega
  subst hc2
  omega
