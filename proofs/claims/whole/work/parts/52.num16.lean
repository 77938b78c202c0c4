/-! numbers in limbs of 16 bits: rP n is the weight of limb n, rv d n the value of the n lowest limbs of d -/
def rP (n : Nat) : Nat := 65536 ^ n
theorem rP_0 : rP 0 = 1 := rfl
theorem rP_s (n : Nat) : rP (n + 1) = 65536 * rP n := by show 65536 ^ (n + 1) = 65536 * 65536 ^ n; rw [Nat.pow_succ, Nat.mul_comm]
theorem rP_pos (n : Nat) : 0 < rP n := Nat.pow_pos (by decide)
theorem rP_add (m n : Nat) : rP (m + n) = rP m * rP n := Nat.pow_add _ m n
theorem rP_two (n : Nat) : rP n = 2 ^ (16 * n) := by show (2 ^ 16) ^ n = _; rw [Nat.pow_mul]
theorem rP_mono {m n : Nat} (h : m ≤ n) : rP m ≤ rP n := Nat.pow_le_pow_right (by decide) h
def rv (d : Nat → Nat) : Nat → Nat
  | 0 => 0
  | n + 1 => rv d n + d n * rP n
theorem rv_0 (d : Nat → Nat) : rv d 0 = 0 := rfl
theorem rv_s (d : Nat → Nat) (n : Nat) : rv d (n + 1) = rv d n + d n * rP n := rfl
theorem rv_congr {d e : Nat → Nat} : ∀ {n : Nat}, (∀ i, i < n → d i = e i) → rv d n = rv e n
  | 0, _ => rfl
  | n + 1, h => by rw [rv_s, rv_s, rv_congr (fun i hi => h i (Nat.lt_succ_of_lt hi)), h n (Nat.lt_succ_self n)]
theorem rv_lt {d : Nat → Nat} (h : ∀ i, d i < 65536) : ∀ n, rv d n < rP n
  | 0 => Nat.one_pos
  | n + 1 => by
    have h1 := rv_lt h n
    have h3 : (d n + 1) * rP n ≤ 65536 * rP n := Nat.mul_le_mul_right _ (h n)
    rw [Nat.add_mul, Nat.one_mul] at h3
    rw [rv_s, rP_s]
    omega
theorem rv_drop {d : Nat → Nat} {m : Nat} : ∀ {n : Nat}, m ≤ n → (∀ i, m ≤ i → i < n → d i = 0) → rv d n = rv d m
  | 0, h, _ => by rw [show m = 0 by omega]
  | n + 1, h, hz => by
    by_cases e : m = n + 1
    · rw [e]
    · rw [rv_s, hz n (by omega) (by omega), Nat.zero_mul, Nat.add_zero, rv_drop (by omega) (fun i a b => hz i a (by omega))]
theorem rv_ge {d : Nat → Nat} {n : Nat} (h : d n ≠ 0) : rP n ≤ rv d (n + 1) := by
  rw [rv_s]
  have : 1 * rP n ≤ d n * rP n := Nat.mul_le_mul_right _ (by omega)
  omega
theorem rv_mono {d : Nat → Nat} {m n : Nat} (h : m ≤ n) : rv d m ≤ rv d n := by
  induction n with
  | zero => rw [show m = 0 by omega]; exact Nat.le_refl _
  | succ n ih =>
    by_cases e : m = n + 1
    · rw [e]; exact Nat.le_refl _
    · rw [rv_s]
      have := ih (by omega)
      omega
theorem rv_up {d : Nat → Nat} {k x n : Nat} (h : n ≤ k) : rv (va_up d k x) n = rv d n := rv_congr fun i hi => va_up_ne d x (by omega)
theorem rv_up_s {d : Nat → Nat} {k x : Nat} : rv (va_up d k x) (k + 1) = rv d k + x * rP k := by rw [rv_s, rv_up (Nat.le_refl k), va_up_self]
/-- the first place from above at which two numbers differ says which is less -/
theorem rv_lex {d e : Nat → Nat} (hd : ∀ i, d i < 65536) {i : Nat} (hlt : d i < e i) : ∀ n, i < n → (∀ j, i < j → j < n → d j = e j) → rv d n < rv e n
  | 0, h, _ => absurd h (by omega)
  | n + 1, h, hq => by
    rw [rv_s, rv_s]
    by_cases hi : i = n
    · subst hi
      have h1 := rv_lt hd i
      have h3 : (d i + 1) * rP i ≤ e i * rP i := Nat.mul_le_mul_right _ hlt
      rw [Nat.add_mul, Nat.one_mul] at h3
      omega
    · have h1 := rv_lex hd hlt n (by omega) (fun j a b => hq j a (by omega))
      rw [hq n (by omega) (by omega)]
      omega
/-- the value splits at any limb -/
theorem rv_split (d : Nat → Nat) (m : Nat) : ∀ n, rv d (m + n) = rv d m + rP m * rv (fun i => d (m + i)) n
  | 0 => by rw [rv_0, Nat.mul_zero]; rfl
  | n + 1 => by
    rw [← Nat.add_assoc, rv_s, rv_s, rv_split d m n, rP_add, Nat.mul_add, Nat.mul_left_comm, Nat.add_assoc]
theorem rv_div {d : Nat → Nat} (hd : ∀ i, d i < 65536) (m n : Nat) : rv d (m + n) / rP m = rv (fun i => d (m + i)) n := by
  rw [rv_split, Nat.add_mul_div_left _ _ (rP_pos m), Nat.div_eq_of_lt (rv_lt hd m), Nat.zero_add]
theorem rv_mod {d : Nat → Nat} (hd : ∀ i, d i < 65536) (m n : Nat) : rv d (m + n) % rP m = rv d m := by
  rw [rv_split, Nat.add_mul_mod_self_left, Nat.mod_eq_of_lt (rv_lt hd m)]
theorem rv_first (d : Nat → Nat) (n : Nat) : rv d (1 + n) = d 0 + 65536 * rv (fun i => d (1 + i)) n := by
  rw [rv_split]
  show 0 + d 0 * 1 + _ = _
  rw [Nat.zero_add, Nat.mul_one]
  rfl
theorem rv_digit {d : Nat → Nat} (hd : ∀ i, d i < 65536) {i n : Nat} (h : i < n) : rv d n / rP i % 65536 = d i := by
  obtain ⟨k, rfl⟩ : ∃ k, n = i + (1 + k) := ⟨n - i - 1, by omega⟩
  rw [rv_div hd, rv_first]
  have := hd (i + 0)
  rw [Nat.add_mul_mod_self_left, Nat.mod_eq_of_lt this, Nat.add_zero]
/-- a number's limbs are its own -/
theorem rv_inj {d e : Nat → Nat} (hd : ∀ i, d i < 65536) (he : ∀ i, e i < 65536) {n : Nat} (h : rv d n = rv e n) {i : Nat} (hi : i < n) : d i = e i := by
  rw [← rv_digit hd hi, ← rv_digit he hi, h]
/-- without zeros above, less limbs is less -/
theorem rv_len {d e : Nat → Nat} (hd : ∀ i, d i < 65536) {m n : Nat} (hn : n ≠ 0 → e (n - 1) ≠ 0) (h : m < n) : rv d m < rv e n := by
  have h1 := rv_lt hd m
  have h2 := rv_ge (hn (by omega))
  rw [show n - 1 + 1 = n by omega] at h2
  have h3 := rP_mono (show m ≤ n - 1 by omega)
  omega
/-- mix, first loop: a limb of a sum -/
theorem rmix_step {u u' w : Nat → Nat} {f c z : Int} {p i : Nat} (hI : (rv u' (p + i) : Int) + c * rP (p + i) = rv u (p + i) + f * rP p * rv w i) (hz : z = u (p + i) + f * w i + c) :
    (rv (va_up u' (p + i) (z % 65536).toNat) (p + (i + 1)) : Int) + z / 65536 * rP (p + (i + 1)) = rv u (p + (i + 1)) + f * rP p * rv w (i + 1) := by
  have h0 : (0 : Int) ≤ z % 65536 := Int.emod_nonneg _ (by decide)
  have h1 : z % 65536 + 65536 * (z / 65536) = z := Int.emod_add_mul_ediv z 65536
  rw [← Nat.add_assoc, rv_up_s, rP_s, rv_s, rv_s, rP_add]
  rw [rP_add] at hI
  generalize hx : z % 65536 = x at h0 h1 ⊢
  generalize hq : z / 65536 = q at h1 ⊢
  obtain ⟨x, rfl⟩ := Int.eq_ofNat_of_zero_le h0
  simp only [Int.toNat_natCast, Int.natCast_add, Int.natCast_mul] at hI ⊢
  generalize (rv u' (p + i) : Int) = A at hI ⊢
  generalize (rv u (p + i) : Int) = Bv at hI ⊢
  generalize (rv w i : Int) = C at hI ⊢
  generalize (rP p : Int) = P at hI ⊢
  generalize (rP i : Int) = Pi at hI ⊢
  generalize (u (p + i) : Int) = y at hz ⊢
  grind
/-- mix, second loop: the carry goes up -/
theorem rcarry_step {u u' : Nat → Nat} {c z Y : Int} {k : Nat} (hI : (rv u' k : Int) + c * rP k = rv u k + Y) (hz : z = u k + c) :
    (rv (va_up u' k (z % 65536).toNat) (k + 1) : Int) + z / 65536 * rP (k + 1) = rv u (k + 1) + Y := by
  have h0 : (0 : Int) ≤ z % 65536 := Int.emod_nonneg _ (by decide)
  have h1 : z % 65536 + 65536 * (z / 65536) = z := Int.emod_add_mul_ediv z 65536
  rw [rv_up_s, rP_s, rv_s]
  generalize hx : z % 65536 = x at h0 h1 ⊢
  generalize hq : z / 65536 = q at h1 ⊢
  obtain ⟨x, rfl⟩ := Int.eq_ofNat_of_zero_le h0
  simp only [Int.toNat_natCast, Int.natCast_add, Int.natCast_mul] at hI ⊢
  generalize (rv u' k : Int) = A at hI ⊢
  generalize (rv u k : Int) = Bv at hI ⊢
  generalize (rP k : Int) = P at hI ⊢
  generalize (u k : Int) = y at hz ⊢
  grind
/-- a size in limbs, with no carry, is the sum -/
theorem rno_carry {A c Y : Int} {n : Nat} (hI : A + c * rP n = Y) (hA : 0 ≤ A) (hA2 : A < rP n) (h0 : 0 ≤ Y) (h1 : Y < rP n) : c = 0 ∧ A = Y := by
  have hP : (0 : Int) < rP n := by have := rP_pos n; omega
  generalize (rP n : Int) = P at *
  have : c = 0 := by
    rcases Int.lt_trichotomy c 0 with h | h | h
    · have : c * P ≤ -1 * P := Int.mul_le_mul_of_nonneg_right (by omega) (by omega)
      omega
    · exact h
    · have : 1 * P ≤ c * P := Int.mul_le_mul_of_nonneg_right (by omega) (by omega)
      omega
  subst this
  omega
theorem rv_addf (f g : Nat → Nat) : ∀ n, rv (fun k => f k + g k) n = rv f n + rv g n
  | 0 => rfl
  | n + 1 => by rw [rv_s, rv_s, rv_s, rv_addf f g n, Nat.add_mul]; omega
theorem rv_mulf (x : Nat) (f : Nat → Nat) : ∀ n, rv (fun k => x * f k) n = x * rv f n
  | 0 => rfl
  | n + 1 => by rw [rv_s, rv_s, rv_mulf x f n, Nat.mul_add, Nat.mul_assoc]
/-- a limb is set, what is over goes up -/
theorem rdstep (d : Nat → Nat) (i z : Nat) : rv (va_up d i (z % 65536)) (i + 1) + z / 65536 * rP (i + 1) = rv d i + z * rP i := by
  rw [rv_up_s, rP_s]
  have h1 := Nat.mod_add_div z 65536
  generalize z % 65536 = x at *
  generalize z / 65536 = q at *
  generalize rP i = P at *
  generalize rv d i = A at *
  subst h1
  grind
theorem rdstepZ (d : Nat → Nat) (i : Nat) (z : Int) : (rv (va_up d i (z % 65536).toNat) (i + 1) : Int) + z / 65536 * rP (i + 1) = rv d i + z * rP i := by
  rw [rv_up_s, rP_s]
  have h0 : (0 : Int) ≤ z % 65536 := Int.emod_nonneg _ (by decide)
  have h1 : z % 65536 + 65536 * (z / 65536) = z := Int.emod_add_mul_ediv z 65536
  generalize z % 65536 = x at *
  generalize z / 65536 = q at *
  obtain ⟨x, rfl⟩ := Int.eq_ofNat_of_zero_le h0
  simp only [Int.toNat_natCast, Int.natCast_add, Int.natCast_mul]
  generalize (rP i : Int) = P at *
  generalize (rv d i : Int) = A at *
  subst h1
  grind
theorem rscale_step {d d' : Nat → Nat} {f s c i : Nat} (hI : rv d' i + c * rP i = f * rv d i + s) : rv (va_up d' i ((d i * f + c) % 65536)) (i + 1) + (d i * f + c) / 65536 * rP (i + 1) = f * rv d (i + 1) + s := by
  rw [rdstep, rv_s, Nat.add_mul, Nat.mul_add]
  have : d i * f * rP i = f * (d i * rP i) := by grind
  omega
/-- division by a limb, from above -/
theorem rshrink_step {d d' : Nat → Nat} {v r i n q r' : Nat} (hn : i < n) (hd : ∀ j, j ≤ i → d' j = d j) (hI : rv d' n * v + r * rP (i + 1) + rv d (i + 1) = rv d n + rv d (i + 1) * v) (hq : r * 65536 + d i = q * v + r') :
    rv (va_up d' i q) n * v + r' * rP i + rv d i = rv d n + rv d i * v := by
  have e1 : rv (va_up d' i q) n + d i * rP i = rv d' n + q * rP i := by
    obtain ⟨k, rfl⟩ : ∃ k, n = i + 1 + k := ⟨n - i - 1, by omega⟩
    rw [rv_split _ (i + 1) k, rv_split d' (i + 1) k, rv_up_s, rv_s, hd i (Nat.le_refl _)]
    have : rv (fun j => va_up d' i q (i + 1 + j)) k = rv (fun j => d' (i + 1 + j)) k := rv_congr fun j _ => va_up_ne d' q (by omega)
    rw [this]
    omega
  rw [rv_s, rP_s] at hI
  generalize rv (va_up d' i q) n = X at *
  generalize rv d' n = Y at *
  generalize rv d n = Z at *
  generalize rv d i = A at *
  generalize rP i = P at *
  generalize d i = y at *
  have e2 : (X + y * P) * v = (Y + q * P) * v := by rw [e1]
  have e3 : (r * 65536 + y) * P = (q * v + r') * P := by rw [hq]
  grind

theorem rshrink_step2 {d d' : Nat → Nat} {v r i n q r' : Nat} (hi : 1 ≤ i) (hn : i ≤ n) (hd : ∀ j, j < i → d' j = d j) (hI : rv d' n * v + r * rP i + rv d i = rv d n + rv d i * v) (hq : r * 65536 + d (i - 1) = q * v + r') :
    rv (va_up d' (i - 1) q) n * v + r' * rP (i - 1) + rv d (i - 1) = rv d n + rv d (i - 1) * v := by
  obtain ⟨k, rfl⟩ : ∃ k, i = k + 1 := ⟨i - 1, by omega⟩
  exact rshrink_step (i := k) (by omega) (fun j hj => hd j (by omega)) hI hq
theorem rv_digs {e : Nat → Nat} {T : Nat} : ∀ n, (∀ i, i < n → e i = T / rP i % 65536) → rv e n = T % rP n
  | 0, _ => by rw [show rP 0 = 1 from rfl, Nat.mod_one]; rfl
  | n + 1, h => by
    rw [rv_s, rv_digs n (fun i hi => h i (by omega)), h n (by omega), show rP (n + 1) = rP n * 65536 from Nat.pow_succ _ _, Nat.mod_mul, Nat.mul_comm (rP n)]
/-- a column's carry -/
theorem rcol_step {d C : Nat → Nat} {c k : Nat} (hI : rv d k + c * rP k = rv C k) : rv (va_up d k ((c + C k) % 65536)) (k + 1) + (c + C k) / 65536 * rP (k + 1) = rv C (k + 1) := by
  rw [rv_up_s, rP_s, rv_s]
  have h1 := Nat.mod_add_div (c + C k) 65536
  generalize (c + C k) % 65536 = x at *
  generalize (c + C k) / 65536 = q at *
  generalize rP k = P at *
  generalize rv d k = A at *
  generalize rv C k = D at *
  generalize C k = y at *
  grind
/-! the digit of a quotient out of the highest digits (Knuth's way D) -/
