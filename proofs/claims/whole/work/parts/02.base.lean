/-! ===== lN n to 2^64: shifts, and, or, masks, one bit ===== -/
theorem wb_tb (n : Nat) : (lN n).toBitVec = BitVec.ofNat 64 n := rfl
theorem wb_inj {a b : Int64} (h : a.toBitVec = b.toBitVec) : a = b := Int64.toBitVec_inj.mp h
theorem wb_tn {n : Nat} (h : n < 2 ^ 64) : (lN n).toBitVec.toNat = n := by rw [wb_tb, BitVec.toNat_ofNat, Nat.mod_eq_of_lt h]
theorem wb_of (x : Int64) : ∃ n, n < 2 ^ 64 ∧ x = lN n := ⟨x.toBitVec.toNat, x.toBitVec.isLt, wb_inj (by rw [wb_tb]; simp)⟩
theorem wb_of32 (x : Int32) : ∃ n, n < 2 ^ 32 ∧ x = nI n := ⟨x.toBitVec.toNat, x.toBitVec.isLt, Int32.toBitVec_inj.mp (by show _ = BitVec.ofNat 32 _; simp)⟩
theorem wb_c : ∀ k, k < 64 → ((nI k).toInt64 &&& 63) = lN k := by decide +kernel
theorem wb_cu : ∀ k, k < 64 → ((nI k).toInt64.toUInt64 &&& Int64.toUInt64 63) = UInt64.ofNat k := by decide +kernel
theorem wb_sm : ∀ k, k < 64 → (BitVec.ofNat 64 k).smod 64 = BitVec.ofNat 64 k := by decide +kernel
theorem wb_pw {a b : Nat} (h : a ≤ b) : 2 ^ b = 2 ^ a * 2 ^ (b - a) := by rw [← Nat.pow_add]; congr 1; omega
theorem wb_lt2 {a b : Nat} (h : a < b) : 2 ^ a < 2 ^ b := Nat.pow_lt_pow_right (by decide) h
theorem wb_mod (n : Nat) : lN n = lN (n % 2 ^ 64) := wb_inj (by rw [wb_tb, wb_tb]; apply BitVec.eq_of_toNat_eq; rw [BitVec.toNat_ofNat, BitVec.toNat_ofNat, Nat.mod_mod])
theorem wb_shr {n k : Nat} (hn : n < 2 ^ 64) (hk : k < 64) : ((lN n).toUInt64 >>> ((nI k).toInt64.toUInt64 &&& Int64.toUInt64 63)).toInt64 = lN (n / 2 ^ k) := by
  rw [wb_cu k hk]
  apply wb_inj
  apply BitVec.eq_of_toNat_eq
  show ((lN n).toUInt64 >>> UInt64.ofNat k).toNat = (BitVec.ofNat 64 _).toNat
  have h1 : (UInt64.ofNat k).toNat = k := by
    show (BitVec.ofNat 64 k).toNat = k
    rw [BitVec.toNat_ofNat, Nat.mod_eq_of_lt (by omega)]
  have h2 : (lN n).toUInt64.toNat = n := wb_tn hn
  rw [UInt64.toNat_shiftRight, h1, h2, Nat.mod_eq_of_lt hk, Nat.shiftRight_eq_div_pow, BitVec.toNat_ofNat, Nat.mod_eq_of_lt (Nat.lt_of_le_of_lt (Nat.div_le_self _ _) hn)]
theorem wb_shl (n : Nat) {k : Nat} (hk : k < 64) : lN n <<< ((nI k).toInt64 &&& 63) = lN (n * 2 ^ k) := by
  rw [wb_c k hk]
  apply wb_inj
  rw [Int64.toBitVec_shiftLeft, wb_tb, wb_tb, wb_tb, wb_sm k hk]
  apply BitVec.eq_of_toNat_eq
  rw [BitVec.shiftLeft_eq', BitVec.toNat_shiftLeft, BitVec.toNat_ofNat, BitVec.toNat_ofNat, BitVec.toNat_ofNat, Nat.mod_eq_of_lt (show k < 2 ^ 64 by omega), Nat.shiftLeft_eq, Nat.mul_mod, Nat.mod_mod, ← Nat.mul_mod]
theorem wb_and {a b : Nat} (ha : a < 2 ^ 64) (hb : b < 2 ^ 64) : lN a &&& lN b = lN (a &&& b) := by
  apply wb_inj
  rw [Int64.toBitVec_and, wb_tb, wb_tb, wb_tb]
  apply BitVec.eq_of_toNat_eq
  rw [BitVec.toNat_and, BitVec.toNat_ofNat, BitVec.toNat_ofNat, BitVec.toNat_ofNat, Nat.mod_eq_of_lt ha, Nat.mod_eq_of_lt hb, Nat.mod_eq_of_lt (Nat.and_lt_two_pow _ hb)]
theorem wb_or {a b : Nat} (ha : a < 2 ^ 64) (hb : b < 2 ^ 64) : lN a ||| lN b = lN (a ||| b) := by
  apply wb_inj
  rw [Int64.toBitVec_or, wb_tb, wb_tb, wb_tb]
  apply BitVec.eq_of_toNat_eq
  rw [BitVec.toNat_or, BitVec.toNat_ofNat, BitVec.toNat_ofNat, BitVec.toNat_ofNat, Nat.mod_eq_of_lt ha, Nat.mod_eq_of_lt hb, Nat.mod_eq_of_lt (Nat.or_lt_two_pow ha hb)]
theorem wb_mask {n k : Nat} (hn : n < 2 ^ 64) (hk : k < 64) : lN n &&& lN (2 ^ k - 1) = lN (n % 2 ^ k) := by
  rw [wb_and hn (by have := wb_lt2 hk; omega), Nat.and_two_pow_sub_one_eq_mod]
theorem wb_a1 {n : Nat} (hn : n < 2 ^ 64) : lN n &&& 1 = lN (n % 2) := wb_mask (k := 1) hn (by decide)
theorem wb_bit {n k : Nat} (hn : n < 2 ^ 64) (hk : k < 64) : ((lN n).toUInt64 >>> ((nI k).toInt64.toUInt64 &&& Int64.toUInt64 63)).toInt64 &&& 1 = lN (n / 2 ^ k % 2) := by
  rw [wb_shr hn hk, wb_a1 (Nat.lt_of_le_of_lt (Nat.div_le_self _ _) hn)]
theorem wb_xor {q k : Nat} (hk : k < 63) (h : 2 ^ k ≤ q) (h2 : q < 2 ^ (k + 1)) : lN q ^^^ lN (2 ^ k) = lN (q - 2 ^ k) := by
  obtain ⟨r, rfl⟩ : ∃ r, q = 2 ^ k + r := ⟨q - 2 ^ k, by omega⟩
  have hr : r < 2 ^ k := by rw [Nat.pow_succ] at h2; omega
  have hx : (2 ^ k + r) ^^^ 2 ^ k = r := by
    apply Nat.eq_of_testBit_eq
    intro i
    rw [Nat.testBit_xor, Nat.testBit_two_pow]
    rcases Nat.lt_trichotomy i k with h | h | h
    · rw [Nat.testBit_two_pow_add_gt h]
      simp [show ¬ k = i by omega]
    · subst h
      rw [Nat.testBit_two_pow_add_eq]
      simp
    · have a1 : 2 ^ (k + 1) ≤ 2 ^ i := Nat.pow_le_pow_right (by decide) h
      rw [Nat.testBit_lt_two_pow (show 2 ^ k + r < 2 ^ i by omega), Nat.testBit_lt_two_pow (show r < 2 ^ i by omega)]
      simp [show ¬ k = i by omega]
  have b1 := wb_lt2 (show k + 1 < 64 by omega)
  have b2 := wb_lt2 (show k < 64 by omega)
  apply wb_inj
  rw [Int64.toBitVec_xor, wb_tb, wb_tb, wb_tb]
  apply BitVec.eq_of_toNat_eq
  rw [BitVec.toNat_xor, BitVec.toNat_ofNat, BitVec.toNat_ofNat, BitVec.toNat_ofNat, Nat.mod_eq_of_lt (by omega : 2 ^ k + r < 2 ^ 64), Nat.mod_eq_of_lt b2, hx, Nat.add_sub_cancel_left, Nat.mod_eq_of_lt (by omega)]
/-! ===== lN: masks, 'or' of parts that don't overlap is a sum ===== -/
theorem u_tn {n : Nat} (h : n < 2 ^ 64) : (UInt64.ofNat n).toNat = n := Nat.mod_eq_of_lt h
theorem g_and {a b c : Nat} (ha : a < 2 ^ 64) (hb : b < 2 ^ 64) (hc : a &&& b = c) : lN a &&& lN b = lN c := by
  subst hc
  have h : UInt64.ofNat a &&& UInt64.ofNat b = UInt64.ofNat (a &&& b) := UInt64.toNat_inj.mp (by rw [UInt64.toNat_and, u_tn ha, u_tn hb, u_tn (Nat.and_lt_two_pow a hb)])
  have h2 := congrArg UInt64.toInt64 h
  exact h2
theorem g_and1 {a : Nat} (ha : a < 2 ^ 64) : lN a &&& 1 = lN (a % 2) := g_and (b := 1) ha (by decide) (Nat.and_two_pow_sub_one_eq_mod a 1)
theorem g_mask {a s p : Nat} (hp : 2 ^ s = p) (hs : s < 64) (ha : a < 2 ^ 64) : lN a &&& lN (p - 1) = lN (a % p) := by
  subst hp
  have := Nat.pow_lt_pow_right (show 1 < 2 by decide) hs
  exact g_and ha (by omega) (Nat.and_two_pow_sub_one_eq_mod a s)
theorem g_or {k p a b : Nat} (hp : 2 ^ k = p) (ha : a < p) (h : b * p + a < 2 ^ 64) : lN (b * p) ||| lN a = lN (b * p + a) := by
  subst hp
  have h1 : b * 2 ^ k ||| a = b * 2 ^ k + a := by rw [← Nat.shiftLeft_eq, Nat.shiftLeft_add_eq_or_of_lt ha]
  have h3 : UInt64.ofNat (b * 2 ^ k) ||| UInt64.ofNat a = UInt64.ofNat (b * 2 ^ k + a) := UInt64.toNat_inj.mp (by rw [UInt64.toNat_or, u_tn (by omega), u_tn (by omega), u_tn h, h1])
  have h2 := congrArg UInt64.toInt64 h3
  exact h2
theorem g_or' {k p a b : Nat} (hp : 2 ^ k = p) (ha : a < p) (h : a + b * p < 2 ^ 64) : lN a ||| lN (b * p) = lN (a + b * p) := by
  rw [Int64.or_comm, g_or hp ha (by omega), Nat.add_comm]
theorem g_ushr {a k p : Nat} {y : UInt64} (hy : y = UInt64.ofNat k) (hk : k < 64) (hp : 2 ^ k = p) (ha : a < 2 ^ 64) : ((lN a).toUInt64 >>> y).toInt64 = lN (a / p) := by
  subst hy hp
  have h : UInt64.ofNat a >>> UInt64.ofNat k = UInt64.ofNat (a / 2 ^ k) := UInt64.toNat_inj.mp (by rw [UInt64.toNat_shiftRight, u_tn ha, u_tn (by omega), u_tn (Nat.lt_of_le_of_lt (Nat.div_le_self _ _) ha), Nat.mod_eq_of_lt hk, Nat.shiftRight_eq_div_pow])
  have h2 := congrArg UInt64.toInt64 h
  exact h2
theorem g_shl {a k p : Nat} {y : Int64} (hy : y.toBitVec.smod 64 = BitVec.ofNat 64 k) (hk : k < 64) (hp : 2 ^ k = p) (ha : a < 2 ^ 64) : lN a <<< y = lN (a * p) := by
  subst hp
  apply Int64.toBitVec_inj.mp
  rw [Int64.toBitVec_shiftLeft, hy]
  apply BitVec.eq_of_toNat_eq
  have hb : (lN a).toBitVec.toNat = a := Nat.mod_eq_of_lt ha
  have hk' : (BitVec.ofNat 64 k).toNat = k := Nat.mod_eq_of_lt (by omega)
  have h : ((lN a).toBitVec <<< BitVec.ofNat 64 k).toNat = (a * 2 ^ k) % 2 ^ 64 := by simp only [BitVec.shiftLeft_eq', BitVec.toNat_shiftLeft, hb, hk', Nat.shiftLeft_eq]
  exact h
/-! ===== lN to 2^62 under >> and >>> ===== -/
theorem pf_lI {a : Nat} (h : a < 2 ^ 63) : (lN a).toInt = (a : Int) := lg_ofNat_toInt h
theorem pf_shr {a d : Nat} {D : Int64} (hD : (D.toBitVec.smod 64).toNat = d) (h : a < 2 ^ 62) : lN a >>> D = lN (a / 2 ^ d) := by
  have hd : a / 2 ^ d ≤ a := Nat.div_le_self _ _
  apply Int64.toInt_inj.mp
  have e : (lN a >>> D).toInt = (lN a).toInt >>> d := by
    rw [← hD]
    exact BitVec.toInt_sshiftRight ..
  rw [e, Int.shiftRight_eq_div_pow, pf_lI (by omega), pf_lI (by omega)]
  rfl
theorem pf_ushr {a d : Nat} {D : UInt64} (hD : D.toNat % 64 = d) (h : a < 2 ^ 62) : ((lN a).toUInt64 >>> D).toInt64 = lN (a / 2 ^ d) := by
  have hd : a / 2 ^ d ≤ a := Nat.div_le_self _ _
  have e : (lN a).toUInt64 >>> D = UInt64.ofNat (a / 2 ^ d) := UInt64.toNat_inj.mp (by
    rw [UInt64.toNat_shiftRight, hD, Nat.shiftRight_eq_div_pow, UInt64.toNat_ofNat']
    show (UInt64.ofNat a).toNat / 2 ^ d = _
    rw [UInt64.toNat_ofNat', Nat.mod_eq_of_lt (by omega), Nat.mod_eq_of_lt (by omega)])
  rw [e]
  rfl
theorem pf_andw (x : Int64) : ∃ m, m < 2 ^ 32 ∧ x &&& 4294967295 = lN m := ⟨x.toBitVec.toNat % 2 ^ 32, Nat.mod_lt _ (by decide), Int64.toBitVec_inj.mp (BitVec.eq_of_toNat_eq (by
  show (x.toBitVec &&& 4294967295#64).toNat = (BitVec.ofNat 64 (x.toBitVec.toNat % 2 ^ 32)).toNat
  rw [BitVec.toNat_and, show (4294967295#64).toNat = 2 ^ 32 - 1 from by decide, Nat.and_two_pow_sub_one_eq_mod, BitVec.toNat_ofNat]
  omega))⟩
/-! the ints and longs of integers: iZ z, lZ z; all arithmetic on them is the integers' own, ranges are asked for where they matter -/
def iZ (z : Int) : Int32 := Int32.ofInt z
def lZ (z : Int) : Int64 := Int64.ofInt z
abbrev zi (z : Int) : Prop := -2147483648 ≤ z ∧ z < 2147483648
abbrev zl (z : Int) : Prop := -9223372036854775808 ≤ z ∧ z < 9223372036854775808
theorem iZ_add (a b : Int) : iZ a + iZ b = iZ (a + b) := (Int32.ofInt_add a b).symm
theorem iZ_sub (a b : Int) : iZ a - iZ b = iZ (a - b) := (Int32.ofInt_sub a b).symm
theorem iZ_mul (a b : Int) : iZ a * iZ b = iZ (a * b) := (Int32.ofInt_mul a b).symm
theorem iZ_neg (a : Int) : - iZ a = iZ (-a) := (Int32.ofInt_neg a).symm
theorem iZ_nI (n : Nat) : nI n = iZ n := Int32.ofInt_eq_ofNat.symm
theorem iZ_of (x : Int32) : x = iZ x.toInt := (Int32.ofInt_toInt x).symm
theorem iZ_toInt {z : Int} (h : zi z) : (iZ z).toInt = z := Int32.toInt_ofInt_of_le (by have := h.1; omega) (by have := h.2; omega)
theorem zi_toInt (x : Int32) : zi x.toInt := ⟨by have := x.le_toInt; omega, by have := x.toInt_lt; omega⟩
theorem iZ_le {a b : Int} (ha : zi a) (hb : zi b) : iZ a ≤ iZ b ↔ a ≤ b := by rw [Int32.le_iff_toInt_le, iZ_toInt ha, iZ_toInt hb]
theorem iZ_lt {a b : Int} (ha : zi a) (hb : zi b) : iZ a < iZ b ↔ a < b := by rw [Int32.lt_iff_toInt_lt, iZ_toInt ha, iZ_toInt hb]
theorem iZ_eq {a b : Int} (ha : zi a) (hb : zi b) : iZ a = iZ b ↔ a = b := by rw [← Int32.toInt_inj, iZ_toInt ha, iZ_toInt hb]
theorem iZ_0 : (0 : Int32) = iZ 0 := rfl
theorem iZ_clamp {z : Int} (h : zi z) : (iZ z).toNatClampNeg = z.toNat := by
  show (iZ z).toInt.toNat = _
  rw [iZ_toInt h]
theorem iZ_in {z : Int} {n : Nat} (h : zi z) (h0 : 0 ≤ z) (h1 : z < n) : vp_in (iZ z) n := vp_in_iff.mpr (by rw [iZ_toInt h]; exact ⟨h0, h1⟩)
theorem lZ_add (a b : Int) : lZ a + lZ b = lZ (a + b) := (Int64.ofInt_add a b).symm
theorem lZ_sub (a b : Int) : lZ a - lZ b = lZ (a - b) := (Int64.ofInt_sub a b).symm
theorem lZ_mul (a b : Int) : lZ a * lZ b = lZ (a * b) := (Int64.ofInt_mul a b).symm
theorem lZ_neg (a : Int) : - lZ a = lZ (-a) := (Int64.ofInt_neg a).symm
theorem lZ_lN (n : Nat) : lN n = lZ n := Int64.ofInt_eq_ofNat.symm
theorem lZ_of (x : Int64) : x = lZ x.toInt := (Int64.ofInt_toInt x).symm
theorem lZ_toInt {z : Int} (h : zl z) : (lZ z).toInt = z := Int64.toInt_ofInt_of_le (by have := h.1; omega) (by have := h.2; omega)
theorem zl_toInt (x : Int64) : zl x.toInt := ⟨by have := x.le_toInt; omega, by have := x.toInt_lt; omega⟩
theorem lZ_le {a b : Int} (ha : zl a) (hb : zl b) : lZ a ≤ lZ b ↔ a ≤ b := by rw [Int64.le_iff_toInt_le, lZ_toInt ha, lZ_toInt hb]
theorem lZ_lt {a b : Int} (ha : zl a) (hb : zl b) : lZ a < lZ b ↔ a < b := by rw [Int64.lt_iff_toInt_lt, lZ_toInt ha, lZ_toInt hb]
theorem lZ_eq {a b : Int} (ha : zl a) (hb : zl b) : lZ a = lZ b ↔ a = b := by rw [← Int64.toInt_inj, lZ_toInt ha, lZ_toInt hb]
theorem lZ_0 : (0 : Int64) = lZ 0 := rfl
theorem iZ_l {z : Int} (h : zi z) : (iZ z).toInt64 = lZ z := by
  apply Int64.toInt_inj.mp
  rw [Int32.toInt_toInt64, iZ_toInt h, lZ_toInt ⟨by have := h.1; omega, by have := h.2; omega⟩]
theorem lZ_i (z : Int) : (lZ z).toInt32 = iZ z := Int64.toInt32_ofInt
theorem lZ_mod (z : Int) : lZ z = lN (z % 18446744073709551616).toNat := by
  apply Int64.toInt_inj.mp
  rw [lZ_lN, lZ, lZ, Int64.toInt_ofInt, Int64.toInt_ofInt]
  have h : ((z % 18446744073709551616).toNat : Int) = z % 18446744073709551616 := Int.toNat_of_nonneg (Int.emod_nonneg _ (by decide))
  rw [h]
  exact (Int.emod_bmod z Int64.size).symm
theorem lZ_at {x : Int64} {z : Int} (h : x.toInt = z) : x = lZ z := by rw [← h]; exact lZ_of x
theorem iZ_at {x : Int32} {z : Int} (h : x.toInt = z) : x = iZ z := by rw [← h]; exact iZ_of x
theorem lZ_u (z : Int) : (z % 18446744073709551616).toNat < 2 ^ 64 ∧ ((z % 18446744073709551616).toNat : Int) = z % 18446744073709551616 := by
  have h1 := Int.emod_lt_of_pos z (show (0 : Int) < 18446744073709551616 by decide)
  have h2 := Int.emod_nonneg z (show (18446744073709551616 : Int) ≠ 0 by decide)
  exact ⟨by omega, Int.toNat_of_nonneg h2⟩
theorem lZ_nat {z : Int} (h : 0 ≤ z) : lZ z = lN z.toNat := by rw [lZ_lN, Int.toNat_of_nonneg h]
/-- the mask of k bits takes the rest by 2 to the k -/
theorem lZ_mask (z : Int) {k : Nat} {P : Int} (hk : k < 64) (hP : ((2 ^ k : Nat) : Int) = P) {x : Int64} (hx : x = lN (2 ^ k - 1)) : lZ z &&& x = lZ (z % P) := by
  rw [hx, lZ_mod z, wb_mask (lZ_u z).1 hk, lZ_lN]
  congr 1
  rw [Int.natCast_emod, (lZ_u z).2, hP]
  refine Int.emod_emod_of_dvd z ?_
  rw [← hP]
  exact Int.natCast_dvd_natCast.mpr (Nat.pow_dvd_pow 2 (show k ≤ 64 by omega))
theorem lZ_shr {z : Int} (hz : zl z) {k : Nat} {P : Int} (hk : k < 64) (hP : ((2 ^ k : Nat) : Int) = P) : lZ z >>> ((iZ k).toInt64 &&& 63) = lZ (z / P) := by
  rw [← iZ_nI, wb_c k hk]
  refine lZ_at ?_
  show ((lZ z).toBitVec.sshiftRight ((lN k).toBitVec.smod 64).toNat).toInt = _
  rw [wb_tb, wb_sm k hk, BitVec.toNat_ofNat, Nat.mod_eq_of_lt (by omega), BitVec.toInt_sshiftRight, Int.shiftRight_eq_div_pow]
  show (lZ z).toInt / _ = _
  rw [lZ_toInt hz, ← hP]
theorem lZ_ushr (z : Int) {k : Nat} {P : Int} (hk : k < 64) (hP : ((2 ^ k : Nat) : Int) = P) : ((lZ z).toUInt64 >>> ((iZ k).toInt64.toUInt64 &&& Int64.toUInt64 63)).toInt64 = lZ (z % 18446744073709551616 / P) := by
  rw [← iZ_nI, lZ_mod z, wb_shr (lZ_u z).1 hk, lZ_lN, Int.natCast_ediv, (lZ_u z).2, hP]
theorem lZ_ushr0 {z : Int} (hz : zl z) (h0 : 0 ≤ z) {k : Nat} {P : Int} (hk : k < 64) (hP : ((2 ^ k : Nat) : Int) = P) : ((lZ z).toUInt64 >>> ((iZ k).toInt64.toUInt64 &&& Int64.toUInt64 63)).toInt64 = lZ (z / P) := by
  rw [lZ_ushr z hk hP, Int.emod_eq_of_lt h0 (by omega)]
theorem lZ_shl (z : Int) {k : Nat} {P : Int} (hk : k < 64) (hP : ((2 ^ k : Nat) : Int) = P) : lZ z <<< ((iZ k).toInt64 &&& 63) = lZ (z * P) := by
  rw [← iZ_nI, lZ_mod z, wb_shl _ hk, lZ_lN, Int.natCast_mul, hP, ← lZ_mul, ← lZ_mul, ← lZ_lN, ← lZ_mod]
theorem lZ_or {a b : Int} {k : Nat} {P : Int} (hP : ((2 ^ k : Nat) : Int) = P) (ha : 0 ≤ a) (ha2 : a < P) (hb : 0 ≤ b) (h : b * P + a < 18446744073709551616) : lZ (b * P) ||| lZ a = lZ (b * P + a) := by
  obtain ⟨a, rfl⟩ := Int.eq_ofNat_of_zero_le ha
  obtain ⟨b, rfl⟩ := Int.eq_ofNat_of_zero_le hb
  subst hP
  have e1 : ((b : Int) * ((2 ^ k : Nat) : Int)) = ((b * 2 ^ k : Nat) : Int) := (Int.natCast_mul _ _).symm
  rw [e1] at h ⊢
  have e2 : (((b * 2 ^ k : Nat) : Int) + (a : Int)) = ((b * 2 ^ k + a : Nat) : Int) := (Int.natCast_add _ _).symm
  rw [e2] at h ⊢
  rw [← lZ_lN, ← lZ_lN, ← lZ_lN]
  exact g_or rfl (by omega) (by omega)
theorem lZ_div {a b : Int} (ha : zl a) (hb : zl b) (h : 0 ≤ a) (hb0 : 0 < b) : lZ a / lZ b = lZ (a / b) := by
  obtain ⟨a, rfl⟩ := Int.eq_ofNat_of_zero_le h
  obtain ⟨b, rfl⟩ := Int.eq_ofNat_of_zero_le (Int.le_of_lt hb0)
  rw [← lZ_lN, ← lZ_lN, pk_lDiv (by omega) (by omega) (by omega), lZ_lN, Int.natCast_ediv]
theorem iZ_div {a b : Int} (ha : zi a) (hb : zi b) (h : 0 ≤ a) (hb0 : 0 < b) : iZ a / iZ b = iZ (a / b) := by
  obtain ⟨a, rfl⟩ := Int.eq_ofNat_of_zero_le h
  obtain ⟨b, rfl⟩ := Int.eq_ofNat_of_zero_le (Int.le_of_lt hb0)
  rw [← iZ_nI, ← iZ_nI, pk_div (by omega) (by omega) (by omega), iZ_nI, Int.natCast_ediv]
theorem iZ_rem {a b : Int} (ha : zi a) (hb : zi b) (h : 0 ≤ a) (hb0 : 0 < b) : iZ a - iZ a / iZ b * iZ b = iZ (a % b) := by
  obtain ⟨a, rfl⟩ := Int.eq_ofNat_of_zero_le h
  obtain ⟨b, rfl⟩ := Int.eq_ofNat_of_zero_le (Int.le_of_lt hb0)
  rw [← iZ_nI, ← iZ_nI, pk_rem (by omega) (by omega) (by omega), iZ_nI, Int.natCast_emod]
theorem lZ_rem {a b : Int} (ha : zl a) (hb : zl b) (h : 0 ≤ a) (hb0 : 0 < b) : lZ a - lZ a / lZ b * lZ b = lZ (a % b) := by
  obtain ⟨a, rfl⟩ := Int.eq_ofNat_of_zero_le h
  obtain ⟨b, rfl⟩ := Int.eq_ofNat_of_zero_le (Int.le_of_lt hb0)
  rw [← lZ_lN, ← lZ_lN, pk_lRem (by omega) (by omega) (by omega), lZ_lN, Int.natCast_emod]
