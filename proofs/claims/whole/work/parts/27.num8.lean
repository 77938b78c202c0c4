/-! Euclid's way to an inverse -/
theorem natCast_dvd9 {n : Nat} {z : Int} : (n : Int) ∣ z ↔ n ∣ z.natAbs := by rw [← Int.natAbs_dvd_natAbs, Int.natAbs_natCast]
def eI (a : Int) (m h l p w : Nat) (pb : Bool) : Prop :=
  w * h + p * l = m ∧ l < h ∧ p < m ∧ 1 ≤ w ∧ Nat.gcd h l = Nat.gcd m a.natAbs ∧ (m : Int) ∣ (if pb = true then (h : Int) + a * p else (h : Int) - a * p) ∧ (m : Int) ∣ (if pb = true then (l : Int) - a * w else (l : Int) + a * w)
theorem gcd_emod9 (a : Int) (m : Nat) (hm : 0 < m) : Nat.gcd m (a % m).toNat = Nat.gcd m a.natAbs := by
  have h1 : ((a % m).toNat : Int) = a % m := Int.toNat_of_nonneg (Int.emod_nonneg _ (by omega))
  have h2 : a = (m : Int) * (a / m) + a % m := (Int.mul_ediv_add_emod a m).symm
  apply Nat.dvd_antisymm
  · apply Nat.dvd_gcd (Nat.gcd_dvd_left _ _)
    have d1 : ((Nat.gcd m (a % m).toNat : Nat) : Int) ∣ (m : Int) := Int.natCast_dvd_natCast.mpr (Nat.gcd_dvd_left _ _)
    have d2 : ((Nat.gcd m (a % m).toNat : Nat) : Int) ∣ a % m := by
      have := Int.natCast_dvd_natCast.mpr (Nat.gcd_dvd_right m (a % m).toNat)
      rw [h1] at this; exact this
    have d3 : ((Nat.gcd m (a % m).toNat : Nat) : Int) ∣ a := by
      rw [h2]
      rw [← h2]
      have := Int.dvd_add (Int.dvd_mul_of_dvd_left (c := a / m) d1) d2
      rw [← h2] at this; exact this
    exact natCast_dvd9.mp d3
  · apply Nat.dvd_gcd (Nat.gcd_dvd_left _ _)
    have d1 : ((Nat.gcd m a.natAbs : Nat) : Int) ∣ (m : Int) := Int.natCast_dvd_natCast.mpr (Nat.gcd_dvd_left _ _)
    have d2 : ((Nat.gcd m a.natAbs : Nat) : Int) ∣ a := natCast_dvd9.mpr (Nat.gcd_dvd_right _ _)
    have d3 : ((Nat.gcd m a.natAbs : Nat) : Int) ∣ a % m := by
      have e : a % m = a - (m : Int) * (a / m) := by omega
      rw [e]
      exact Int.dvd_sub d2 (Int.dvd_mul_of_dvd_left d1)
    rw [← h1] at d3
    exact Int.natCast_dvd_natCast.mp d3
theorem eI_0 (a : Int) (m : Nat) (hm : 0 < m) : eI a m m (a % m).toNat 0 1 true := by
  have h1 : ((a % m).toNat : Int) = a % m := Int.toNat_of_nonneg (Int.emod_nonneg _ (by omega))
  have h2 : a = (m : Int) * (a / m) + a % m := (Int.mul_ediv_add_emod a m).symm
  have h3 := Int.emod_lt_of_pos a (show (0 : Int) < m by omega)
  refine ⟨by rw [Nat.zero_mul, Nat.one_mul, Nat.add_zero], by omega, hm, Nat.le_refl 1, gcd_emod9 a m hm, ?_, ?_⟩
  · rw [if_pos rfl]
    exact ⟨1, by simp⟩
  · rw [if_pos rfl, h1]
    exact ⟨-(a / m), by rw [Int.mul_neg]; simp only [Int.natCast_one, Int.mul_one]; omega⟩
theorem eI_st {a : Int} {m h l p w : Nat} {pb : Bool} (hl : l ≠ 0) (hE : eI a m h l p w pb) : eI a m l (h % l) w (p + h / l * w) (!pb) := by
  obtain ⟨h1, h2, h3, h4, h5, h6, h7⟩ := hE
  have hd := Nat.div_add_mod h l
  have hq : 1 ≤ h / l := (Nat.one_le_div_iff (by omega)).mpr (by omega)
  have hm := Nat.mod_lt h (show l > 0 by omega)
  have hg : Nat.gcd l (h % l) = Nat.gcd m a.natAbs := by
    rw [← h5, Nat.gcd_comm l, ← Nat.gcd_rec, Nat.gcd_comm]
  generalize h / l = q at hd hq ⊢
  generalize h % l = r at hd hm hg ⊢
  subst hd
  refine ⟨?_, hm, ?_, ?_, hg, ?_, ?_⟩
  · rw [← h1]; grind
  · have : 2 ≤ l * q + r := by omega
    have := Nat.mul_le_mul_left w this
    have : 0 ≤ p * l := Nat.zero_le _
    omega
  · have := Nat.mul_le_mul hq h4
    omega
  · cases pb
    · simp at h7 ⊢; exact h7
    · simp at h7 ⊢; exact h7
  · cases pb
    · simp only [Bool.not_false, if_true, Bool.false_eq_true, if_false] at h6 h7 ⊢
      have := Int.dvd_sub h6 (Int.dvd_mul_of_dvd_right (b := (q : Int)) h7)
      have e : ((l * q + r : Nat) : Int) - a * p - q * ((l : Int) + a * w) = (r : Int) - a * ((p + q * w : Nat) : Int) := by
        simp only [Int.natCast_add, Int.natCast_mul]; grind
      rw [e] at this
      exact this
    · simp only [Bool.not_true, if_true, Bool.false_eq_true, if_false] at h6 h7 ⊢
      have := Int.dvd_sub h6 (Int.dvd_mul_of_dvd_right (b := (q : Int)) h7)
      have e : ((l * q + r : Nat) : Int) + a * p - q * ((l : Int) - a * w) = (r : Int) + a * ((p + q * w : Nat) : Int) := by
        simp only [Int.natCast_add, Int.natCast_mul]; grind
      rw [e] at this
      exact this
theorem eI_end {a : Int} {m h p w : Nat} {pb : Bool} (hE : eI a m h 0 p w pb) : h = Nat.gcd m a.natAbs := by
  have := hE.2.2.2.2.1
  rw [Nat.gcd_zero_right] at this
  exact this
theorem eI_res {a : Int} {m p w : Nat} {pb : Bool} (hE : eI a m 1 0 p w pb) : (pb = false ∨ p = 0 → p < m ∧ (m : Int) ∣ a * (p : Int) - 1) ∧ (pb = true → p ≠ 0 → p ≤ m ∧ m - p < m ∧ (m : Int) ∣ a * ((m - p : Nat) : Int) - 1) := by
  obtain ⟨h1, h2, h3, h4, h5, h6, h7⟩ := hE
  refine ⟨fun h => ⟨h3, ?_⟩, fun h hp => ⟨by omega, by omega, ?_⟩⟩
  · cases pb
    · simp only [Bool.false_eq_true, if_false] at h6
      have := Int.dvd_neg.mpr h6
      have e : -(((1 : Nat) : Int) - a * p) = a * p - 1 := by simp only [Int.natCast_one]; omega
      rw [e] at this; exact this
    · rcases h with h | h
      · cases h
      · subst h
        simp only [if_true] at h6
        have := Int.dvd_neg.mpr h6
        simp at this ⊢
        exact this
  · subst h
    simp only [if_true] at h6
    have := Int.dvd_sub (Int.dvd_mul_left a (m : Int)) h6
    have e : a * (m : Int) - (((1 : Nat) : Int) + a * p) = a * ((m - p : Nat) : Int) - 1 := by
      rw [Int.natCast_sub (by omega)]; simp only [Int.natCast_one]; grind
    rw [e] at this; exact this
/-- sizes on the way -/
theorem eI_sz {a : Int} {m h l p w : Nat} {pb : Bool} (hm : zX ((m : Nat) : Int)) (hl : l ≠ 0) (hE : eI a m h l p w pb) : zX ((h : Nat) : Int) ∧ p < wP 148 ∧ h / l < wP 148 ∧ w < wP 148 ∧ h / l * w < wP 148 := by
  have h8 := (eI_st hl hE).1
  obtain ⟨h1, h2, h3, h4, h5, h6, h7⟩ := hE
  have hm9 : ((m : Nat) : Int).natAbs < 2 ^ 2048 := hm
  rw [Int.natAbs_natCast] at hm9
  have hm : m < 2 ^ 2048 := hm9
  have hh : h ≤ m := by
    have := Nat.mul_le_mul_right h h4
    rw [Nat.one_mul] at this
    have : 0 ≤ p * l := Nat.zero_le _
    omega
  have hw : w ≤ m := by
    have := Nat.mul_le_mul_left w (show 1 ≤ h by omega)
    rw [Nat.mul_one] at this
    have : 0 ≤ p * l := Nat.zero_le _
    omega
  have hq : h / l * w ≤ m := by
    have a1 := Nat.mul_le_mul_left (p + h / l * w) (show 1 ≤ l by omega)
    rw [Nat.mul_one] at a1
    have : 0 ≤ w * (h % l) := Nat.zero_le _
    omega
  have hd := Nat.div_le_self h l
  have hK : (2 : Nat) ^ 2048 ≤ wP 148 := by rw [wP_two]; exact Nat.pow_le_pow_right (by decide) (by decide)
  generalize h / l * w = qw at hq ⊢
  generalize h / l = q at hd ⊢
  generalize wP 148 = K at hK ⊢
  refine ⟨?_, by omega, by omega, by omega, by omega⟩
  show ((h : Nat) : Int).natAbs < 2 ^ 2048
  rw [Int.natAbs_natCast]
  omega
/-- an inverse is one alone -/
theorem inv_un {a : Int} {m y z : Nat} (hg : Nat.gcd m a.natAbs = 1) (h1 : y < m) (h2 : z < m) (d1 : (m : Int) ∣ a * (y : Int) - 1) (d2 : (m : Int) ∣ a * (z : Int) - 1) : y = z := by
  have d := Int.dvd_sub d1 d2
  have e : a * (y : Int) - 1 - (a * (z : Int) - 1) = a * ((y : Int) - z) := by rw [Int.mul_sub]; omega
  rw [e] at d
  have d3 : m ∣ (a * ((y : Int) - z)).natAbs := natCast_dvd9.mp d
  rw [Int.natAbs_mul] at d3
  have d4 := Nat.Coprime.dvd_of_dvd_mul_left (show Nat.Coprime m a.natAbs from hg) d3
  rcases Nat.eq_zero_or_pos (((y : Int) - z).natAbs) with h | h
  · omega
  · have := Nat.le_of_dvd h d4
    omega
