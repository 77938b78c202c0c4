/-! numbers in limbs of 28 bits: wP n is the weight of limb n, wv d n the value of the n lowest limbs of d -/
def wP (n : Nat) : Nat := 268435456 ^ n
theorem wP_0 : wP 0 = 1 := rfl
theorem wP_s (n : Nat) : wP (n + 1) = 268435456 * wP n := by show 268435456 ^ (n + 1) = 268435456 * 268435456 ^ n; rw [Nat.pow_succ, Nat.mul_comm]
theorem wP_pos (n : Nat) : 0 < wP n := Nat.pow_pos (by decide)
theorem wP_add (m n : Nat) : wP (m + n) = wP m * wP n := Nat.pow_add _ m n
theorem wP_two (n : Nat) : wP n = 2 ^ (28 * n) := by show (2 ^ 28) ^ n = _; rw [Nat.pow_mul]
theorem wP_mono {m n : Nat} (h : m ≤ n) : wP m ≤ wP n := Nat.pow_le_pow_right (by decide) h
def wv (d : Nat → Nat) : Nat → Nat
  | 0 => 0
  | n + 1 => wv d n + d n * wP n
theorem wv_0 (d : Nat → Nat) : wv d 0 = 0 := rfl
theorem wv_s (d : Nat → Nat) (n : Nat) : wv d (n + 1) = wv d n + d n * wP n := rfl
theorem wv_congr {d e : Nat → Nat} : ∀ {n : Nat}, (∀ i, i < n → d i = e i) → wv d n = wv e n
  | 0, _ => rfl
  | n + 1, h => by rw [wv_s, wv_s, wv_congr (fun i hi => h i (Nat.lt_succ_of_lt hi)), h n (Nat.lt_succ_self n)]
theorem wv_lt {d : Nat → Nat} (h : ∀ i, d i < 268435456) : ∀ n, wv d n < wP n
  | 0 => Nat.one_pos
  | n + 1 => by
    have h1 := wv_lt h n
    have h3 : (d n + 1) * wP n ≤ 268435456 * wP n := Nat.mul_le_mul_right _ (h n)
    rw [Nat.add_mul, Nat.one_mul] at h3
    rw [wv_s, wP_s]
    omega
theorem wv_drop {d : Nat → Nat} {m : Nat} : ∀ {n : Nat}, m ≤ n → (∀ i, m ≤ i → i < n → d i = 0) → wv d n = wv d m
  | 0, h, _ => by rw [show m = 0 by omega]
  | n + 1, h, hz => by
    by_cases e : m = n + 1
    · rw [e]
    · rw [wv_s, hz n (by omega) (by omega), Nat.zero_mul, Nat.add_zero, wv_drop (by omega) (fun i a b => hz i a (by omega))]
theorem wv_ge {d : Nat → Nat} {n : Nat} (h : d n ≠ 0) : wP n ≤ wv d (n + 1) := by
  rw [wv_s]
  have : 1 * wP n ≤ d n * wP n := Nat.mul_le_mul_right _ (by omega)
  omega
theorem wv_mono {d : Nat → Nat} {m n : Nat} (h : m ≤ n) : wv d m ≤ wv d n := by
  induction n with
  | zero => rw [show m = 0 by omega]; exact Nat.le_refl _
  | succ n ih =>
    by_cases e : m = n + 1
    · rw [e]; exact Nat.le_refl _
    · rw [wv_s]
      have := ih (by omega)
      omega
theorem wv_up {d : Nat → Nat} {k x n : Nat} (h : n ≤ k) : wv (va_up d k x) n = wv d n := wv_congr fun i hi => va_up_ne d x (by omega)
theorem wv_up_s {d : Nat → Nat} {k x : Nat} : wv (va_up d k x) (k + 1) = wv d k + x * wP k := by rw [wv_s, wv_up (Nat.le_refl k), va_up_self]
theorem up_lt {d : Nat → Nat} {k x M : Nat} (h : ∀ i, d i < M) (hx : x < M) : ∀ i, va_up d k x i < M := fun i => by
  by_cases e : i = k
  · rw [e, va_up_self]; exact hx
  · rw [va_up_ne d x e]; exact h i
/-- the first place from above at which two numbers differ says which is less -/
theorem wv_lex {d e : Nat → Nat} (hd : ∀ i, d i < 268435456) {i : Nat} (hlt : d i < e i) : ∀ n, i < n → (∀ j, i < j → j < n → d j = e j) → wv d n < wv e n
  | 0, h, _ => absurd h (by omega)
  | n + 1, h, hq => by
    rw [wv_s, wv_s]
    by_cases hi : i = n
    · subst hi
      have h1 := wv_lt hd i
      have h3 : (d i + 1) * wP i ≤ e i * wP i := Nat.mul_le_mul_right _ hlt
      rw [Nat.add_mul, Nat.one_mul] at h3
      omega
    · have h1 := wv_lex hd hlt n (by omega) (fun j a b => hq j a (by omega))
      rw [hq n (by omega) (by omega)]
      omega
/-- the value splits at any limb -/
theorem wv_split (d : Nat → Nat) (m : Nat) : ∀ n, wv d (m + n) = wv d m + wP m * wv (fun i => d (m + i)) n
  | 0 => by rw [wv_0, Nat.mul_zero]; rfl
  | n + 1 => by
    rw [← Nat.add_assoc, wv_s, wv_s, wv_split d m n, wP_add, Nat.mul_add, Nat.mul_left_comm, Nat.add_assoc]
theorem wv_div {d : Nat → Nat} (hd : ∀ i, d i < 268435456) (m n : Nat) : wv d (m + n) / wP m = wv (fun i => d (m + i)) n := by
  rw [wv_split, Nat.add_mul_div_left _ _ (wP_pos m), Nat.div_eq_of_lt (wv_lt hd m), Nat.zero_add]
theorem wv_mod {d : Nat → Nat} (hd : ∀ i, d i < 268435456) (m n : Nat) : wv d (m + n) % wP m = wv d m := by
  rw [wv_split, Nat.add_mul_mod_self_left, Nat.mod_eq_of_lt (wv_lt hd m)]
theorem wv_first (d : Nat → Nat) (n : Nat) : wv d (1 + n) = d 0 + 268435456 * wv (fun i => d (1 + i)) n := by
  rw [wv_split]
  show 0 + d 0 * 1 + _ = _
  rw [Nat.zero_add, Nat.mul_one]
  rfl
theorem wv_digit {d : Nat → Nat} (hd : ∀ i, d i < 268435456) {i n : Nat} (h : i < n) : wv d n / wP i % 268435456 = d i := by
  obtain ⟨k, rfl⟩ : ∃ k, n = i + (1 + k) := ⟨n - i - 1, by omega⟩
  rw [wv_div hd, wv_first]
  have := hd (i + 0)
  rw [Nat.add_mul_mod_self_left, Nat.mod_eq_of_lt this, Nat.add_zero]
/-- a number's limbs are its own -/
theorem wv_inj {d e : Nat → Nat} (hd : ∀ i, d i < 268435456) (he : ∀ i, e i < 268435456) {n : Nat} (h : wv d n = wv e n) {i : Nat} (hi : i < n) : d i = e i := by
  rw [← wv_digit hd hi, ← wv_digit he hi, h]
/-- without zeros above, less limbs is less -/
theorem wv_len {d e : Nat → Nat} (hd : ∀ i, d i < 268435456) {m n : Nat} (hn : n ≠ 0 → e (n - 1) ≠ 0) (h : m < n) : wv d m < wv e n := by
  have h1 := wv_lt hd m
  have h2 := wv_ge (hn (by omega))
  rw [show n - 1 + 1 = n by omega] at h2
  have h3 := wP_mono (show m ≤ n - 1 by omega)
  omega
theorem mul_bd {f : Int} {w : Nat} (h1 : -268435456 ≤ f) (h2 : f ≤ 268435456) (hw : w < 268435456) : -72057593769492480 ≤ f * w ∧ f * w ≤ 72057593769492480 := by
  have hw2 : (w : Int) ≤ 268435455 := by omega
  have hw0 : (0 : Int) ≤ w := by omega
  have a1 : f * (w : Int) ≤ 268435456 * w := Int.mul_le_mul_of_nonneg_right h2 hw0
  have a2 : -268435456 * (w : Int) ≤ f * w := Int.mul_le_mul_of_nonneg_right h1 hw0
  omega
/-- mix, first loop: a limb of a sum -/
theorem mix_step {u u' w : Nat → Nat} {f c z : Int} {p i : Nat} (hI : (wv u' (p + i) : Int) + c * wP (p + i) = wv u (p + i) + f * wP p * wv w i) (hz : z = u (p + i) + f * w i + c) :
    (wv (va_up u' (p + i) (z % 268435456).toNat) (p + (i + 1)) : Int) + z / 268435456 * wP (p + (i + 1)) = wv u (p + (i + 1)) + f * wP p * wv w (i + 1) := by
  have h0 : (0 : Int) ≤ z % 268435456 := Int.emod_nonneg _ (by decide)
  have h1 : z % 268435456 + 268435456 * (z / 268435456) = z := Int.emod_add_mul_ediv z 268435456
  rw [← Nat.add_assoc, wv_up_s, wP_s, wv_s, wv_s, wP_add]
  rw [wP_add] at hI
  generalize hx : z % 268435456 = x at h0 h1 ⊢
  generalize hq : z / 268435456 = q at h1 ⊢
  obtain ⟨x, rfl⟩ := Int.eq_ofNat_of_zero_le h0
  simp only [Int.toNat_natCast, Int.natCast_add, Int.natCast_mul] at hI ⊢
  generalize (wv u' (p + i) : Int) = A at hI ⊢
  generalize (wv u (p + i) : Int) = Bv at hI ⊢
  generalize (wv w i : Int) = C at hI ⊢
  generalize (wP p : Int) = P at hI ⊢
  generalize (wP i : Int) = Pi at hI ⊢
  generalize (u (p + i) : Int) = y at hz ⊢
  grind
theorem mix_bd {u w : Nat → Nat} {f c : Int} {j i : Nat} (hu : u j < 268435456) (hw : w i < 268435456) (h1 : -268435456 ≤ f) (h2 : f ≤ 268435456) (h3 : -268435456 ≤ c) (h4 : c ≤ 268435456) :
    zl (u j + f * w i + c) ∧ -268435456 ≤ (u j + f * w i + c) / 268435456 ∧ (u j + f * w i + c) / 268435456 ≤ 268435456 := by
  have := mul_bd h1 h2 hw
  omega
/-- mix, second loop: the carry goes up -/
theorem carry_step {u u' : Nat → Nat} {c z Y : Int} {k : Nat} (hI : (wv u' k : Int) + c * wP k = wv u k + Y) (hz : z = u k + c) :
    (wv (va_up u' k (z % 268435456).toNat) (k + 1) : Int) + z / 268435456 * wP (k + 1) = wv u (k + 1) + Y := by
  have h0 : (0 : Int) ≤ z % 268435456 := Int.emod_nonneg _ (by decide)
  have h1 : z % 268435456 + 268435456 * (z / 268435456) = z := Int.emod_add_mul_ediv z 268435456
  rw [wv_up_s, wP_s, wv_s]
  generalize hx : z % 268435456 = x at h0 h1 ⊢
  generalize hq : z / 268435456 = q at h1 ⊢
  obtain ⟨x, rfl⟩ := Int.eq_ofNat_of_zero_le h0
  simp only [Int.toNat_natCast, Int.natCast_add, Int.natCast_mul] at hI ⊢
  generalize (wv u' k : Int) = A at hI ⊢
  generalize (wv u k : Int) = Bv at hI ⊢
  generalize (wP k : Int) = P at hI ⊢
  generalize (u k : Int) = y at hz ⊢
  grind
/-- a size in limbs, with no carry, is the sum -/
theorem no_carry {A c Y : Int} {n : Nat} (hI : A + c * wP n = Y) (hA : 0 ≤ A) (hA2 : A < wP n) (h0 : 0 ≤ Y) (h1 : Y < wP n) : c = 0 ∧ A = Y := by
  have hP : (0 : Int) < wP n := by have := wP_pos n; omega
  generalize (wP n : Int) = P at *
  have : c = 0 := by
    rcases Int.lt_trichotomy c 0 with h | h | h
    · have : c * P ≤ -1 * P := Int.mul_le_mul_of_nonneg_right (by omega) (by omega)
      omega
    · exact h
    · have : 1 * P ≤ c * P := Int.mul_le_mul_of_nonneg_right (by omega) (by omega)
      omega
  subst this
  omega
/-- the carry says whether the sum is below 0 -/
theorem neg_carry {A c Y : Int} {n : Nat} (hI : A + c * wP n = Y) (hA : 0 ≤ A) (hA2 : A < wP n) : (c < 0 ↔ Y < 0) := by
  have hP : (0 : Int) < wP n := by have := wP_pos n; omega
  generalize (wP n : Int) = P at *
  constructor
  · intro h
    have : c * P ≤ -1 * P := Int.mul_le_mul_of_nonneg_right (by omega) (by omega)
    omega
  · intro h
    rcases Int.lt_or_le c 0 with h2 | h2
    · exact h2
    · have : 0 * P ≤ c * P := Int.mul_le_mul_of_nonneg_right (by omega) (by omega)
      omega
/-! products, column by column -/
theorem wv_addf (f g : Nat → Nat) : ∀ n, wv (fun k => f k + g k) n = wv f n + wv g n
  | 0 => rfl
  | n + 1 => by rw [wv_s, wv_s, wv_s, wv_addf f g n, Nat.add_mul]; omega
theorem wv_mulf (x : Nat) (f : Nat → Nat) : ∀ n, wv (fun k => x * f k) n = x * wv f n
  | 0 => rfl
  | n + 1 => by rw [wv_s, wv_s, wv_mulf x f n, Nat.mul_add, Nat.mul_assoc]
/-- the part of column k that the m lowest limbs of a make with the nb limbs of b -/
def cv (a b : Nat → Nat) (nb : Nat) : Nat → Nat → Nat
  | 0, _ => 0
  | m + 1, k => cv a b nb m k + if m ≤ k ∧ k - m < nb then a m * b (k - m) else 0
theorem cv_s (a b : Nat → Nat) (nb m k : Nat) : cv a b nb (m + 1) k = cv a b nb m k + if m ≤ k ∧ k - m < nb then a m * b (k - m) else 0 := rfl
theorem cv_shift (x m nb : Nat) (b : Nat → Nat) {K : Nat} (h : m + nb ≤ K) : wv (fun k => if m ≤ k ∧ k - m < nb then x * b (k - m) else 0) K = x * wP m * wv b nb := by
  obtain ⟨r, rfl⟩ : ∃ r, K = m + r := ⟨K - m, by omega⟩
  rw [wv_split, wv_drop (m := 0) (n := m) (Nat.zero_le _) (fun i _ hi => if_neg (by omega)), wv_0, Nat.zero_add]
  have h1 : wv (fun i => if m ≤ m + i ∧ m + i - m < nb then x * b (m + i - m) else 0) r = wv (fun i => if m ≤ m + i ∧ m + i - m < nb then x * b (m + i - m) else 0) nb := wv_drop (by omega) (fun i h1 _ => if_neg (by omega))
  have h2 : wv (fun i => if m ≤ m + i ∧ m + i - m < nb then x * b (m + i - m) else 0) nb = wv (fun i => x * b i) nb := wv_congr fun i hi => by
    show (if m ≤ m + i ∧ m + i - m < nb then x * b (m + i - m) else 0) = x * b i
    rw [if_pos ⟨by omega, by omega⟩, Nat.add_sub_cancel_left]
  rw [h1, h2, wv_mulf, Nat.mul_left_comm, Nat.mul_assoc]
theorem cv_sum (a b : Nat → Nat) (nb : Nat) {K : Nat} : ∀ m, m + nb ≤ K → wv (cv a b nb m) K = wv a m * wv b nb
  | 0, _ => by
    rw [wv_0, Nat.zero_mul]
    exact wv_drop (m := 0) (Nat.zero_le _) (fun _ _ _ => rfl)
  | m + 1, h => by
    have e : wv (cv a b nb (m + 1)) K = wv (fun k => cv a b nb m k + if m ≤ k ∧ k - m < nb then a m * b (k - m) else 0) K := wv_congr fun i _ => rfl
    rw [e, wv_addf, cv_sum a b nb m (by omega), cv_shift (a m) m nb b (by omega), wv_s, Nat.add_mul]
theorem cv_low (a b : Nat → Nat) {nb k : Nat} : ∀ m, m + nb ≤ k + 1 → cv a b nb m k = 0
  | 0, _ => rfl
  | m + 1, h => by rw [cv_s, cv_low a b m (by omega), if_neg (by omega)]
theorem cv_high (a b : Nat → Nat) {nb k m : Nat} (hm : k + 1 ≤ m) : ∀ n, m ≤ n → cv a b nb n k = cv a b nb m k
  | 0, h => by rw [show m = 0 by omega]
  | n + 1, h => by
    by_cases e : m = n + 1
    · rw [e]
    · rw [cv_s, if_neg (by omega), Nat.add_zero, cv_high a b hm n (by omega)]
theorem cv_bd {a b : Nat → Nat} (ha : ∀ i, a i < 268435456) (hb : ∀ i, b i < 268435456) {nb k : Nat} : ∀ m, cv a b nb m k ≤ (m - (k + 1 - nb)) * 72057593501057025
  | 0 => by rw [Nat.zero_sub, Nat.zero_mul]; exact Nat.le_refl 0
  | m + 1 => by
    have ih := cv_bd ha hb (nb := nb) (k := k) m
    rw [cv_s]
    split
    · rename_i h
      have h1 : a m * b (k - m) ≤ 268435455 * 268435455 := Nat.mul_le_mul (by have := ha m; omega) (by have := hb (k - m); omega)
      rw [show m + 1 - (k + 1 - nb) = m - (k + 1 - nb) + 1 by omega, Nat.add_mul]
      omega
    · exact Nat.le_trans (by omega) (Nat.mul_le_mul_right _ (show m - (k + 1 - nb) ≤ m + 1 - (k + 1 - nb) by omega))
/-- a column's carry -/
theorem col_step {d C : Nat → Nat} {c k : Nat} (hI : wv d k + c * wP k = wv C k) : wv (va_up d k ((c + C k) % 268435456)) (k + 1) + (c + C k) / 268435456 * wP (k + 1) = wv C (k + 1) := by
  rw [wv_up_s, wP_s, wv_s]
  have h1 := Nat.mod_add_div (c + C k) 268435456
  generalize (c + C k) % 268435456 = x at *
  generalize (c + C k) / 268435456 = q at *
  generalize wP k = P at *
  generalize wv d k = A at *
  generalize wv C k = D at *
  generalize C k = y at *
  grind
/-! the digit of a quotient out of the highest digits (Knuth's way D) -/
/-- what the guess is: the quotient of the two- and three-digit heads, at most B - 1 -/
def gs (VV UU : Nat) : Nat := if UU / VV < 268435456 then UU / VV else 268435455
theorem gs_of {VV UU g : Nat} (hV : 0 < VV) (h1 : g * VV ≤ UU) (h2 : UU < (g + 1) * VV ∨ g = 268435455) (h3 : g < 268435456) : g = gs VV UU := by
  unfold gs
  have l1 : g ≤ UU / VV := (Nat.le_div_iff_mul_le hV).mpr h1
  rcases h2 with h2 | h2
  · have l2 : UU / VV < g + 1 := (Nat.div_lt_iff_lt_mul hV).mpr h2
    rw [if_pos (by omega)]
    omega
  · split <;> omega
/-- with heads of a divisor v and a rest r < v * B, the guess is the true digit or one more -/
theorem gs_true {v r VV UU lv lr P Q : Nat} (hP : 0 < P) (hQ : 0 < Q) (hv : v * 268435456 = VV * P + lv) (hlv : lv < P) (hr : r * 268435456 = UU * (P * Q) + lr) (hlr : lr < P * Q) (hVV : 268435456 ≤ VV) (hb : r < v * (Q * 268435456)) :
    r / (v * Q) ≤ gs VV UU ∧ gs VV UU ≤ r / (v * Q) + 1 := by
  have hv0 : 0 < v := by
    rcases Nat.eq_zero_or_pos v with h | h
    · subst h
      rw [Nat.zero_mul] at hb
      omega
    · exact h
  have hvQ : 0 < v * Q := Nat.mul_pos hv0 hQ
  have hVp : 0 < VV := by omega
  obtain ⟨g, hg⟩ : ∃ g, g = gs VV UU := ⟨_, rfl⟩
  obtain ⟨q, hq⟩ : ∃ q, q = r / (v * Q) := ⟨_, rfl⟩
  rw [← hg, ← hq]
  have q1 : q * (v * Q) ≤ r := by rw [hq]; exact Nat.div_mul_le_self _ _
  have q2 : r < (q + 1) * (v * Q) := by rw [hq]; exact (Nat.div_lt_iff_lt_mul hvQ).mp (Nat.lt_succ_self _)
  have qB : q < 268435456 := by rw [hq]; exact (Nat.div_lt_iff_lt_mul hvQ).mpr (by rw [Nat.mul_comm 268435456, Nat.mul_assoc]; exact hb)
  have g1 : g * VV ≤ UU := by
    rw [hg]; unfold gs
    split
    · exact Nat.div_mul_le_self _ _
    · exact Nat.le_trans (Nat.mul_le_mul_right _ (by omega)) (Nat.div_mul_le_self UU VV)
  have g2 : UU < (g + 1) * VV ∨ g = 268435455 := by
    rw [hg]; unfold gs
    split
    · exact Or.inl ((Nat.div_lt_iff_lt_mul hVp).mp (Nat.lt_succ_self _))
    · exact Or.inr rfl
  have gB : g < 268435456 := by rw [hg]; unfold gs; split <;> omega
  constructor
  · rcases g2 with g2 | g2
    · refine Nat.le_of_lt_succ ((Nat.mul_lt_mul_right (a := VV * (P * Q)) (Nat.mul_pos hVp (Nat.mul_pos hP hQ))).mp ?_)
      have s1 : q * (VV * (P * Q)) ≤ q * (v * Q) * 268435456 := by
        have : VV * P ≤ v * 268435456 := by omega
        have h2 := Nat.mul_le_mul_left (q * Q) this
        calc q * (VV * (P * Q)) = q * Q * (VV * P) := by grind
          _ ≤ q * Q * (v * 268435456) := h2
          _ = q * (v * Q) * 268435456 := by grind
      have s2 : q * (v * Q) * 268435456 ≤ r * 268435456 := Nat.mul_le_mul_right _ q1
      have s3 : (UU + 1) * (P * Q) ≤ (g + 1) * VV * (P * Q) := Nat.mul_le_mul_right _ g2
      rw [Nat.add_mul, Nat.one_mul] at s3
      have s4 : (g + 1) * VV * (P * Q) = (g + 1) * (VV * (P * Q)) := Nat.mul_assoc _ _ _
      have s5 : (g + 1) * (VV * (P * Q)) = g.succ * (VV * (P * Q)) := rfl
      omega
    · omega
  · rcases Nat.eq_zero_or_pos g with h0 | h0
    · omega
    · obtain ⟨k, rfl⟩ : ∃ k, g = k + 1 := ⟨g - 1, by omega⟩
      have key : k * (v * Q) ≤ r := by
        refine Nat.le_of_mul_le_mul_right (c := 268435456) ?_ (by decide)
        have s1 : v * 268435456 ≤ (VV + 1) * P := by rw [Nat.add_mul, Nat.one_mul]; omega
        have s2 : k * Q * (v * 268435456) ≤ k * Q * ((VV + 1) * P) := Nat.mul_le_mul_left _ s1
        have s3 : k * (VV + 1) ≤ UU := by
          have : k * (VV + 1) = k * VV + k := by rw [Nat.mul_add, Nat.mul_one]
          have : (k + 1) * VV = k * VV + VV := by rw [Nat.add_mul, Nat.one_mul]
          omega
        have s4 : k * (VV + 1) * (P * Q) ≤ UU * (P * Q) := Nat.mul_le_mul_right _ s3
        calc k * (v * Q) * 268435456 = k * Q * (v * 268435456) := by grind
          _ ≤ k * Q * ((VV + 1) * P) := s2
          _ = k * (VV + 1) * (P * Q) := by grind
          _ ≤ UU * (P * Q) := s4
          _ ≤ r * 268435456 := by omega
      have : k ≤ q := by rw [hq]; exact (Nat.le_div_iff_mul_le hvQ).mpr key
      omega
/-! limbs of a number times 2 to the up -/
theorem lsh_core {L u h G P S T : Nat} (hST : S * T = 268435456) (hP : 0 < P) (hS : 0 < S) (hL : L < P) :
    ((L + u * P + h * (268435456 * P) + G * (268435456 * (268435456 * P))) * S) / (268435456 * P) % 268435456 = (h * S + u / T) % 268435456 := by
  rw [Nat.mul_comm 268435456 P, ← Nat.div_div_eq_div_mul]
  have e1 : (L + u * P + h * (P * 268435456) + G * (268435456 * (P * 268435456))) * S = L * S + P * (u * S + 268435456 * (h * S + 268435456 * (G * S))) := by grind
  rw [e1, Nat.add_mul_div_left _ _ hP]
  have ht : L * S / P < S := (Nat.div_lt_iff_lt_mul hP).mpr (by rw [Nat.mul_comm S P]; exact Nat.mul_lt_mul_of_pos_right hL hS)
  generalize L * S / P = t at *
  rw [← Nat.add_assoc, Nat.add_mul_div_left _ _ (by decide)]
  have e2 : (t + u * S) / 268435456 = u / T := by rw [← hST, ← Nat.div_div_eq_div_mul, Nat.add_mul_div_right _ _ hS, Nat.div_eq_of_lt ht, Nat.zero_add]
  rw [e2, ← Nat.add_assoc, Nat.add_mul_mod_self_left, Nat.add_comm]
/-- the limbs with zeros above -/
def wx (d : Nat → Nat) (n : Nat) : Nat → Nat := fun i => if i < n then d i else 0
theorem wx_lt {d : Nat → Nat} (hd : ∀ i, d i < 268435456) (n : Nat) : ∀ i, wx d n i < 268435456 := fun i => by
  unfold wx
  split
  · exact hd i
  · decide
theorem wx_in {d : Nat → Nat} {n i : Nat} (h : i < n) : wx d n i = d i := if_pos h
theorem wx_out {d : Nat → Nat} {n i : Nat} (h : n ≤ i) : wx d n i = 0 := if_neg (by omega)
theorem wv_wx (d : Nat → Nat) {n m : Nat} (h : n ≤ m) : wv (wx d n) m = wv d n := by
  rw [wv_drop h (fun i h1 _ => wx_out h1)]
  exact wv_congr fun i hi => wx_in hi
/-- limb j - 1 of the number times 2 to the up, for j from 1 up; 0 for j = 0 -/
def lsh (d : Nat → Nat) (n up : Nat) : Nat → Nat
  | 0 => 0
  | 1 => wx d n 0 * 2 ^ up % 268435456
  | i + 2 => (wx d n (i + 1) * 2 ^ up + wx d n i / 2 ^ (28 - up)) % 268435456
theorem lsh_lt (d : Nat → Nat) (n up j : Nat) : lsh d n up j < 268435456 := by
  match j with
  | 0 => exact (by decide : 0 < 268435456)
  | 1 => exact Nat.mod_lt _ (by decide)
  | i + 2 => exact Nat.mod_lt _ (by decide)
theorem lsh_eq {d : Nat → Nat} (hd : ∀ i, d i < 268435456) (n : Nat) {up : Nat} (hup : up ≤ 28) (j : Nat) : lsh d n up j = wv d n * 2 ^ up * 268435456 / wP j % 268435456 := by
  have hS : 0 < 2 ^ up := Nat.two_pow_pos up
  have hST : 2 ^ up * 2 ^ (28 - up) = 268435456 := by rw [← Nat.pow_add, show up + (28 - up) = 28 by omega]
  match j with
  | 0 =>
    show 0 = _
    rw [wP_0, Nat.div_one, Nat.mul_mod_left]
  | 1 =>
    show wx d n 0 * 2 ^ up % 268435456 = _
    rw [show wP 1 = 268435456 from rfl, Nat.mul_div_cancel _ (by decide)]
    have h1 := wv_first (wx d n) n
    rw [wv_wx d (by omega)] at h1
    rw [h1, Nat.add_mul, Nat.mul_assoc, Nat.add_mul_mod_self_left]
  | i + 2 =>
    show (wx d n (i + 1) * 2 ^ up + wx d n i / 2 ^ (28 - up)) % 268435456 = _
    rw [show wP (i + 2) = wP (i + 1) * 268435456 from by rw [wP_s (i + 1), Nat.mul_comm], Nat.mul_div_mul_right _ _ (by decide : 0 < 268435456)]
    have h1 := wv_split (wx d n) (i + 2) n
    rw [wv_wx d (by omega), wv_s, wv_s] at h1
    have h2 := lsh_core (L := wv (wx d n) i) (u := wx d n i) (h := wx d n (i + 1)) (G := wv (fun k => wx d n (i + 2 + k)) n) (P := wP i) hST (wP_pos i) hS (wv_lt (wx_lt hd n) i)
    rw [← h2, h1, wP_s (i + 1), wP_s i]
    congr 3
    grind
/-! lengths in bits -/
/-- k is the number of binary digits of x -/
def bl (x k : Nat) : Prop := x < 2 ^ k ∧ (k ≠ 0 → 2 ^ (k - 1) ≤ x)
theorem bl_0 : bl 0 0 := ⟨by decide, fun h => absurd rfl h⟩
theorem bl_uniq {x j k : Nat} (hj : bl x j) (hk : bl x k) : j = k := by
  rcases Nat.lt_trichotomy j k with h | h | h
  · have h1 := hk.2 (by omega)
    have h2 := Nat.pow_le_pow_right (show 0 < 2 by decide) (show j ≤ k - 1 by omega)
    have h3 := hj.1
    omega
  · exact h
  · have h1 := hj.2 (by omega)
    have h2 := Nat.pow_le_pow_right (show 0 < 2 by decide) (show k ≤ j - 1 by omega)
    have h3 := hk.1
    omega
theorem bl_le {x k m : Nat} (h : bl x k) : k ≤ m ↔ x < 2 ^ m := by
  constructor
  · intro hm
    exact Nat.lt_of_lt_of_le h.1 (Nat.pow_le_pow_right (by decide) hm)
  · intro hx
    rcases Nat.lt_or_ge m k with h2 | h2
    · have h1 := h.2 (by omega)
      have h3 := Nat.pow_le_pow_right (show 0 < 2 by decide) (show m ≤ k - 1 by omega)
      omega
    · exact h2
theorem bl_top {d : Nat → Nat} (hd : ∀ i, d i < 268435456) {n k : Nat} (ht : d n ≠ 0) (h : bl (d n) k) : bl (wv d (n + 1)) (28 * n + k) := by
  have h1 := wv_lt hd n
  rw [wP_two] at h1
  have hk : k ≠ 0 := fun e => by subst e; have := h.1; omega
  have h2 := h.2 hk
  have h3 := h.1
  refine ⟨?_, fun _ => ?_⟩
  · rw [wv_s, wP_two, Nat.pow_add]
    have : (d n + 1) * 2 ^ (28 * n) ≤ 2 ^ k * 2 ^ (28 * n) := Nat.mul_le_mul_right _ h3
    rw [Nat.add_mul, Nat.one_mul] at this
    rw [Nat.mul_comm (2 ^ (28 * n))]
    omega
  · rw [wv_s, wP_two, show 28 * n + k - 1 = 28 * n + (k - 1) by omega, Nat.pow_add]
    have : 2 ^ (k - 1) * 2 ^ (28 * n) ≤ d n * 2 ^ (28 * n) := Nat.mul_le_mul_right _ h2
    rw [Nat.mul_comm (2 ^ (28 * n))]
    omega
/-- a limb is set, what is over goes up -/
theorem dstep (d : Nat → Nat) (i z : Nat) : wv (va_up d i (z % 268435456)) (i + 1) + z / 268435456 * wP (i + 1) = wv d i + z * wP i := by
  rw [wv_up_s, wP_s]
  have h1 := Nat.mod_add_div z 268435456
  generalize z % 268435456 = x at *
  generalize z / 268435456 = q at *
  generalize wP i = P at *
  generalize wv d i = A at *
  subst h1
  grind
theorem dstepZ (d : Nat → Nat) (i : Nat) (z : Int) : (wv (va_up d i (z % 268435456).toNat) (i + 1) : Int) + z / 268435456 * wP (i + 1) = wv d i + z * wP i := by
  rw [wv_up_s, wP_s]
  have h0 : (0 : Int) ≤ z % 268435456 := Int.emod_nonneg _ (by decide)
  have h1 : z % 268435456 + 268435456 * (z / 268435456) = z := Int.emod_add_mul_ediv z 268435456
  generalize z % 268435456 = x at *
  generalize z / 268435456 = q at *
  obtain ⟨x, rfl⟩ := Int.eq_ofNat_of_zero_le h0
  simp only [Int.toNat_natCast, Int.natCast_add, Int.natCast_mul]
  generalize (wP i : Int) = P at *
  generalize (wv d i : Int) = A at *
  subst h1
  grind
theorem scale_step {d d' : Nat → Nat} {f s c i : Nat} (hI : wv d' i + c * wP i = f * wv d i + s) : wv (va_up d' i ((d i * f + c) % 268435456)) (i + 1) + (d i * f + c) / 268435456 * wP (i + 1) = f * wv d (i + 1) + s := by
  rw [dstep, wv_s, Nat.add_mul, Nat.mul_add]
  have : d i * f * wP i = f * (d i * wP i) := by grind
  omega
theorem lack_step {d d' o : Nat → Nat} {c z : Int} {i : Nat} (hI : (wv d' i : Int) + c * wP i = wv o i - wv d i) (hz : z = o i - d i + c) : (wv (va_up d' i (z % 268435456).toNat) (i + 1) : Int) + z / 268435456 * wP (i + 1) = wv o (i + 1) - wv d (i + 1) := by
  rw [dstepZ, wv_s, wv_s]
  simp only [Int.natCast_add, Int.natCast_mul]
  generalize (wP i : Int) = P at *
  generalize (wv d i : Int) = A at *
  generalize (wv d' i : Int) = A' at *
  generalize (wv o i : Int) = O at *
  subst hz
  grind
theorem turn_step {d d' : Nat → Nat} {c i : Nat} (hd : d i < 268435456) (hI : wv d' i + c * wP i + wv d i = wP i) : wv (va_up d' i ((268435455 - d i + c) % 268435456)) (i + 1) + (268435455 - d i + c) / 268435456 * wP (i + 1) + wv d (i + 1) = wP (i + 1) := by
  rw [dstep, wv_s, wP_s]
  obtain ⟨e, he⟩ : ∃ e, e = 268435455 - d i := ⟨_, rfl⟩
  rw [← he]
  have hde : d i = 268435455 - e := by omega
  have hs : d i * wP i + e * wP i = 268435455 * wP i := by rw [← Nat.add_mul]; congr 1; omega
  rw [Nat.add_mul]
  omega
/-- division by a limb, from above -/
theorem shrink_step {d d' : Nat → Nat} {v r i n q r' : Nat} (hn : i < n) (hd : ∀ j, j ≤ i → d' j = d j) (hI : wv d' n * v + r * wP (i + 1) + wv d (i + 1) = wv d n + wv d (i + 1) * v) (hq : r * 268435456 + d i = q * v + r') :
    wv (va_up d' i q) n * v + r' * wP i + wv d i = wv d n + wv d i * v := by
  have e1 : wv (va_up d' i q) n + d i * wP i = wv d' n + q * wP i := by
    obtain ⟨k, rfl⟩ : ∃ k, n = i + 1 + k := ⟨n - i - 1, by omega⟩
    rw [wv_split _ (i + 1) k, wv_split d' (i + 1) k, wv_up_s, wv_s, hd i (Nat.le_refl _)]
    have : wv (fun j => va_up d' i q (i + 1 + j)) k = wv (fun j => d' (i + 1 + j)) k := wv_congr fun j _ => va_up_ne d' q (by omega)
    rw [this]
    omega
  rw [wv_s, wP_s] at hI
  generalize wv (va_up d' i q) n = X at *
  generalize wv d' n = Y at *
  generalize wv d n = Z at *
  generalize wv d i = A at *
  generalize wP i = P at *
  generalize d i = y at *
  have e2 : (X + y * P) * v = (Y + q * P) * v := by rw [e1]
  have e3 : (r * 268435456 + y) * P = (q * v + r') * P := by rw [hq]
  grind
