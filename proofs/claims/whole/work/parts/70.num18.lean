theorem zr_ishl {p : Program} {l : Launch} {e : Env} {R : Room} {s : State} {m : MethodId} {args : Array Value} {below : List Frame} {meth : Method} {c : Code} {H : Heap} {locs : List Loc} {cells slots : Nat} {Q : State → Prop} {cc : ByteArray} {pc : Nat} {ls : Array Slot} {rest : List Value} (hx : p.tables.exec = Jvm.exec) (hb : c.code = cc) {z k : Nat} (h : z * 2 ^ k < 4294967296) (hk : k < 32) (hd : decode cc pc = .ok (.ishl, 1)) (kk : W p l e R s m args below meth c H locs cells slots Q (F0 m (pc + 1) ls (.int (iZ ((z * 2 ^ k : Nat) : Int)) :: rest))) : W p l e R s m args below meth c H locs cells slots Q (F0 m pc ls (.int (iZ k) :: .int (iZ z) :: rest)) := lv_ishl hx hb hd (by rw [← iZ_nI, ← iZ_nI, pk_shlN _ k (s_l k hk) h, iZ_nI]; exact kk)
theorem zr_iorN {p : Program} {l : Launch} {e : Env} {R : Room} {s : State} {m : MethodId} {args : Array Value} {below : List Frame} {meth : Method} {c : Code} {H : Heap} {locs : List Loc} {cells slots : Nat} {Q : State → Prop} {cc : ByteArray} {pc : Nat} {ls : Array Slot} {rest : List Value} (hx : p.tables.exec = Jvm.exec) (hb : c.code = cc) {a b : Nat} (hd : decode cc pc = .ok (.ior, 1)) (kk : W p l e R s m args below meth c H locs cells slots Q (F0 m (pc + 1) ls (.int (iZ ((a ||| b : Nat) : Int)) :: rest))) : W p l e R s m args below meth c H locs cells slots Q (F0 m pc ls (.int (iZ ((b : Nat) : Int)) :: .int (iZ ((a : Nat) : Int)) :: rest)) := lv_ior hx hb hd (by rw [iZ_orN]; exact kk)
theorem rv_set {d : Nat → Nat} {i x n : Nat} (h : i < n) : rv (va_up d i x) n + d i * rP i = rv d n + x * rP i := by
  induction n with
  | zero => exact absurd h (Nat.not_lt_zero _)
  | succ n ih =>
    by_cases h9 : i = n
    · subst h9
      rw [rv_up_s, rv_s]; omega
    · rw [rv_s, rv_s, va_up_ne _ _ (by omega)]
      have := ih (by omega)
      omega
theorem or_bit {d j : Nat} (h : d.testBit j = false) : d ||| 2 ^ j = d + 2 ^ j := by
  have hp : 0 < 2 ^ j := Nat.pow_pos (by decide)
  obtain ⟨q, hq⟩ : ∃ q, q = d / 2 ^ (j + 1) := ⟨_, rfl⟩
  obtain ⟨r, hr⟩ : ∃ r, r = d % 2 ^ (j + 1) := ⟨_, rfl⟩
  have hd : d = 2 ^ (j + 1) * q + r := by rw [hq, hr]; exact (Nat.div_add_mod _ _).symm
  have hr2 : r < 2 ^ (j + 1) := by rw [hr]; exact Nat.mod_lt _ (Nat.pow_pos (by decide))
  have hrj : r.testBit j = false := by rw [hr, Nat.testBit_mod_two_pow, h, Bool.and_false]
  have hr3 : r < 2 ^ j := by
    rcases Nat.lt_or_ge r (2 ^ j) with h9 | h9
    · exact h9
    · exfalso
      have h8 := tb_dm r j
      rw [hrj] at h8
      have h7 : r / 2 ^ j = 1 := by
        rw [Nat.pow_succ] at hr2
        apply Nat.div_eq_of_lt_le <;> omega
      rw [h7] at h8
      exact absurd h8 (by decide)
  have e : d + 2 ^ j = 2 ^ (j + 1) * q + (2 ^ j + r) := by omega
  have hb : 2 ^ j + r < 2 ^ (j + 1) := by rw [Nat.pow_succ]; omega
  rw [e]
  apply Nat.eq_of_testBit_eq
  intro i
  rw [Nat.testBit_or, Nat.testBit_two_pow_mul_add _ hb, hd, Nat.testBit_two_pow_mul_add _ hr2, Nat.testBit_two_pow]
  by_cases h1 : i < j + 1
  · rw [if_pos h1, if_pos h1]
    by_cases h2 : i = j
    · rw [h2, decide_eq_true rfl, Nat.testBit_two_pow_add_eq, hrj]; rfl
    · rw [decide_eq_false (fun h9 => h2 h9.symm), Bool.or_false, Nat.testBit_two_pow_add_gt (by omega)]
  · rw [if_neg h1, if_neg h1, decide_eq_false (by omega), Bool.or_false]
theorem or_bitb {d j : Nat} (h : d.testBit j = false) (b : Bool) : d ||| (b.toNat * 2 ^ j) = d + b.toNat * 2 ^ j := by
  cases b
  · show d ||| 0 * 2 ^ j = d + 0 * 2 ^ j
    rw [Nat.zero_mul, Nat.or_zero]; rfl
  · show d ||| 1 * 2 ^ j = d + 1 * 2 ^ j
    rw [Nat.one_mul]; exact or_bit h
theorem and_bit {d j : Nat} (h : d.testBit j = false) (hd : d < 65536) (hj : j < 16) : (d + 2 ^ j) &&& (2 ^ j ^^^ 4294967295) = d := by
  rw [← or_bit h]
  apply Nat.eq_of_testBit_eq
  intro i
  rw [Nat.testBit_and, Nat.testBit_or, Nat.testBit_xor, Nat.testBit_two_pow, show (4294967295 : Nat) = 2 ^ 32 - 1 from rfl, Nat.testBit_two_pow_sub_one]
  by_cases h1 : i = j
  · rw [h1, decide_eq_true rfl, decide_eq_true (by omega), h]; rfl
  · rw [decide_eq_false (fun h9 => h1 h9.symm), Bool.or_false]
    rcases Nat.lt_or_ge i 32 with h2 | h2
    · rw [decide_eq_true h2]; cases d.testBit i <;> rfl
    · have h3 : d.testBit i = false := Nat.testBit_lt_two_pow (Nat.lt_of_lt_of_le hd (Nat.le_trans (show 65536 ≤ 2 ^ 32 by decide) (Nat.pow_le_pow_right (by decide) h2)))
      rw [h3]; rfl
theorem bit_lt {d j : Nat} (h : d.testBit j = false) (hd : d < 65536) (hj : j < 16) : d + 2 ^ j < 65536 := by
  rw [← or_bit h]
  exact Nat.or_lt_two_pow (n := 16) hd (Nat.pow_lt_pow_right (by decide) hj)
theorem bit_ltb {d j : Nat} (h : d.testBit j = false) (hd : d < 65536) (hj : j < 16) (b : Bool) : d + b.toNat * 2 ^ j < 65536 := by
  have := bit_lt h hd hj
  cases b
  · show d + 0 * 2 ^ j < 65536; omega
  · show d + 1 * 2 ^ j < 65536; omega
theorem rP_pow (a : Nat) : 2 ^ (a % 16) * rP (a / 16) = 2 ^ a := by
  rw [rP_two, ← Nat.pow_add]; congr 1; omega
/-- a bit more in the row -/
theorem rv_bit {d : Nat → Nat} {a x n : Nat} (h : a / 16 < n) : rv (va_up d (a / 16) (d (a / 16) + x * 2 ^ (a % 16))) n = rv d n + x * 2 ^ a := by
  have h1 := rv_set (d := d) (x := d (a / 16) + x * 2 ^ (a % 16)) h
  rw [Nat.add_mul, Nat.mul_assoc, rP_pow] at h1
  omega
/-- a limb shifted up -/
theorem shu_or {o r A : Nat} (ho : o < 65536) (hr : r < 16) (hA : A < 2 ^ r) : A ||| (o * 2 ^ r % 65536) = A + o * 2 ^ r % 65536 ∧ A + o * 2 ^ r % 65536 < 65536 ∧ o * 2 ^ r / 65536 < 2 ^ r := by
  have e : (65536 : Nat) = 2 ^ (16 - r) * 2 ^ r := by rw [← Nat.pow_add, show 16 - r + r = 16 by omega]
  have hp : 0 < 2 ^ r := Nat.pow_pos (by decide)
  have h1 : o * 2 ^ r % 65536 = 2 ^ r * (o % 2 ^ (16 - r)) := by
    rw [e, Nat.mul_mod_mul_right, Nat.mul_comm]
  have h2 : o % 2 ^ (16 - r) < 2 ^ (16 - r) := Nat.mod_lt _ (Nat.pow_pos (by decide))
  have h3 : 2 ^ r * (o % 2 ^ (16 - r) + 1) ≤ 2 ^ r * 2 ^ (16 - r) := Nat.mul_le_mul_left _ h2
  rw [Nat.mul_comm (2 ^ r) (2 ^ (16 - r)), ← e, Nat.mul_add, Nat.mul_one] at h3
  refine ⟨?_, ?_, ?_⟩
  · rw [h1, Nat.or_comm, ← Nat.two_pow_add_eq_or_of_lt hA, Nat.add_comm]
  · omega
  · rw [Nat.div_lt_iff_lt_mul (by decide), Nat.mul_comm]
    exact Nat.mul_lt_mul_of_pos_left ho hp
theorem shu_step {d : Nat → Nat} {i o r n : Nat} (hi : i + 1 < n) (hz : d (i + 1) = 0) : rv (va_up (va_up d i (d i + o * 2 ^ r % 65536)) (i + 1) (o * 2 ^ r / 65536)) n = rv d n + o * 2 ^ r * rP i := by
  have h1 := rv_set (d := va_up d i (d i + o * 2 ^ r % 65536)) (x := o * 2 ^ r / 65536) hi
  have h2 := rv_set (d := d) (x := d i + o * 2 ^ r % 65536) (show i < n by omega)
  rw [va_up_ne _ _ (by omega), hz, Nat.zero_mul, Nat.add_zero, rP_s] at h1
  have h3 := Nat.div_add_mod (o * 2 ^ r) 65536
  generalize o * 2 ^ r = y at *
  have h4 : y * rP i = (65536 * (y / 65536) + y % 65536) * rP i := by rw [h3]
  have h5 : y / 65536 * (65536 * rP i) = 65536 * (y / 65536) * rP i := by rw [← Nat.mul_assoc, Nat.mul_comm (y / 65536) 65536]
  rw [Nat.add_mul] at h4 h2
  omega
theorem shz_up (x : Int) (n : Nat) : (if decide (x < 0) = true then -((x.natAbs * 2 ^ n : Nat) : Int) else ((x.natAbs * 2 ^ n : Nat) : Int)) = shz x n := by
  have h : shz x n = x * ((2 ^ n : Nat) : Int) := by
    unfold shz
    by_cases h0 : n = 0
    · subst h0
      rw [if_neg (by omega)]
      show x / ((2 ^ (min (-((0 : Nat) : Int)).toNat 2048) : Nat) : Int) = x * ((2 ^ 0 : Nat) : Int)
      rw [show (-((0 : Nat) : Int)).toNat = 0 from rfl, show min 0 2048 = 0 from rfl, Nat.pow_zero]
      rw [Int.natCast_one, Int.ediv_one, Int.mul_one]
    · rw [if_pos (by omega), Int.toNat_natCast]
  rw [h, Int.natCast_mul]
  generalize ((2 ^ n : Nat) : Int) = P
  by_cases hx : x < 0
  · rw [if_pos (decide_eq_true hx), show ((x.natAbs : Nat) : Int) = -x by omega, Int.neg_mul, Int.neg_neg]
  · rw [if_neg (by rw [decide_eq_false hx]; decide), show ((x.natAbs : Nat) : Int) = x by omega]
theorem shz_over {x : Int} {n : Nat} (h0 : x ≠ 0) (hn : 2048 ≤ n) : ¬ zX (shz x n) := by
  rw [← shz_up]
  unfold zX
  intro h9
  have h1 : 2 ^ 2048 ≤ x.natAbs * 2 ^ n := by
    have h2 : 2 ^ 2048 ≤ 2 ^ n := Nat.pow_le_pow_right (by decide) hn
    have h3 := Nat.mul_le_mul_right (2 ^ n) (show 1 ≤ x.natAbs by omega)
    rw [Nat.one_mul] at h3
    exact Nat.le_trans h2 h3
  generalize x.natAbs * 2 ^ n = y at *
  split at h9
  · rw [Int.natAbs_neg, Int.natAbs_natCast] at h9; exact absurd h9 (Nat.not_lt.mpr h1)
  · rw [Int.natAbs_natCast] at h9; exact absurd h9 (Nat.not_lt.mpr h1)
theorem shz_dn {x : Int} {N : Nat} (hX : zX x) (hN : 1 ≤ N) {sm : Bool} (hs : sm = decide (x.natAbs % 2 ^ N ≠ 0)) : (if decide (x < 0) = true then -((x.natAbs / 2 ^ N + (decide (x < 0) && sm).toNat : Nat) : Int) else ((x.natAbs / 2 ^ N + (decide (x < 0) && sm).toNat : Nat) : Int)) = shz x (-(N : Int)) := by
  have hm : x.natAbs / 2 ^ N = x.natAbs / 2 ^ (min N 2048) ∧ x.natAbs % 2 ^ N = x.natAbs % 2 ^ (min N 2048) := by
    rcases Nat.lt_or_ge 2048 N with h | h
    · rw [Nat.min_eq_right (by omega)]
      have h1 : x.natAbs < 2 ^ 2048 := hX
      have h2 : x.natAbs < 2 ^ N := Nat.lt_of_lt_of_le h1 (Nat.pow_le_pow_right (by decide) (by omega))
      rw [Nat.div_eq_of_lt h1, Nat.div_eq_of_lt h2, Nat.mod_eq_of_lt h1, Nat.mod_eq_of_lt h2]; exact ⟨rfl, rfl⟩
    · rw [Nat.min_eq_left (by omega)]; exact ⟨rfl, rfl⟩
  have hz : shz x (-(N : Int)) = x / ((2 ^ (min N 2048) : Nat) : Int) := by
    unfold shz
    rw [if_neg (by omega), Int.neg_neg, Int.toNat_natCast]
  rw [hz, hs, hm.1, hm.2]
  have hP : 0 < 2 ^ (min N 2048) := Nat.pow_pos (by decide)
  generalize 2 ^ (min N 2048) = P at *
  have h1 := Nat.div_add_mod x.natAbs P
  have h2 := Nat.mod_lt x.natAbs hP
  by_cases hx : x < 0
  · rw [decide_eq_true hx, if_pos rfl, Bool.true_and]
    symm
    by_cases hr : x.natAbs % P = 0
    · rw [decide_eq_false (fun h9 => h9 hr)]
      refine (Int.ediv_emod_unique (a := x) (b := (P : Int)) (r := 0) (q := -((x.natAbs / P + 0 : Nat) : Int)) (by omega)).mpr ⟨?_, by omega, by omega⟩ |>.1
      rw [hr] at h1
      rw [Nat.add_zero, Int.mul_neg, ← Int.natCast_mul]
      generalize P * (x.natAbs / P) = y at *
      omega
    · rw [decide_eq_true hr]
      refine (Int.ediv_emod_unique (a := x) (b := (P : Int)) (r := ((P - x.natAbs % P : Nat) : Int)) (q := -((x.natAbs / P + 1 : Nat) : Int)) (by omega)).mpr ⟨?_, by omega, by omega⟩ |>.1
      rw [Int.mul_neg, ← Int.natCast_mul, Nat.mul_add, Nat.mul_one]
      generalize P * (x.natAbs / P) = y at *
      omega
  · rw [decide_eq_false hx, if_neg (by decide), Bool.false_and]
    rw [show x = ((x.natAbs : Nat) : Int) by omega]
    rw [Int.natAbs_natCast, ← Int.natCast_ediv]
    rfl
/-- how far a shift down has come -/
def sdV (X N k : Nat) : Nat := X % 2 ^ k / 2 ^ N
def sdS (X N k : Nat) : Bool := decide (X % 2 ^ (min k N) ≠ 0)
theorem sd_0 (X N : Nat) : sdV X N 0 = 0 ∧ sdS X N 0 = false := by
  unfold sdV sdS
  rw [Nat.pow_zero, Nat.mod_one, Nat.zero_div, show min 0 N = 0 by omega, Nat.pow_zero, Nat.mod_one]
  exact ⟨rfl, rfl⟩
theorem sd_lt {X N k : Nat} (h : N ≤ k) : sdV X N k < 2 ^ (k - N) := by
  unfold sdV
  rw [Nat.div_lt_iff_lt_mul (Nat.pow_pos (by decide)), ← Nat.pow_add, show k - N + N = k by omega]
  exact Nat.mod_lt _ (Nat.pow_pos (by decide))
theorem sd_V1 {X N k : Nat} (h : k < N) : sdV X N (k + 1) = sdV X N k := by
  have e : ∀ j, j ≤ N → X % 2 ^ j / 2 ^ N = 0 := fun j hj => Nat.div_eq_of_lt (Nat.lt_of_lt_of_le (Nat.mod_lt _ (Nat.pow_pos (by decide))) (Nat.pow_le_pow_right (by decide) hj))
  unfold sdV
  rw [e _ (by omega), e _ (by omega)]
theorem sd_V2 {X N k : Nat} (h : N ≤ k) : sdV X N (k + 1) = sdV X N k + (X.testBit k).toNat * 2 ^ (k - N) := by
  unfold sdV
  rw [Nat.mod_pow_succ, tb_dm]
  have e : 2 ^ k = 2 ^ N * 2 ^ (k - N) := by rw [← Nat.pow_add]; congr 1; omega
  rw [e, Nat.mul_assoc, Nat.add_mul_div_left _ _ (Nat.pow_pos (by decide)), Nat.mul_comm (2 ^ (k - N))]
theorem sd_S1 {X N k : Nat} (h : k < N) : sdS X N (k + 1) = (sdS X N k || X.testBit k) := by
  unfold sdS
  rw [show min (k + 1) N = k + 1 by omega, show min k N = k by omega, Nat.mod_pow_succ, tb_dm]
  have hp : 0 < 2 ^ k := Nat.pow_pos (by decide)
  generalize X % 2 ^ k = y
  cases X.testBit k
  · show decide (y + 2 ^ k * 0 ≠ 0) = _
    rw [Nat.mul_zero, Nat.add_zero, Bool.or_false]
  · show decide (y + 2 ^ k * 1 ≠ 0) = _
    rw [Bool.or_true, decide_eq_true (by omega)]
theorem sd_S2 {X N k : Nat} (h : N ≤ k) : sdS X N (k + 1) = sdS X N k := by
  unfold sdS
  rw [show min (k + 1) N = min k N by omega]
theorem sd_end {X N : Nat} (hX : X < 2 ^ 2048) : sdV X N 2048 = X / 2 ^ N ∧ sdS X N 2048 = decide (X % 2 ^ N ≠ 0) := by
  unfold sdV sdS
  rw [Nat.mod_eq_of_lt hX]
  refine ⟨rfl, ?_⟩
  rcases Nat.lt_or_ge 2048 N with h | h
  · rw [show min 2048 N = 2048 by omega, Nat.mod_eq_of_lt hX, Nat.mod_eq_of_lt (Nat.lt_of_lt_of_le hX (Nat.pow_le_pow_right (by decide) (by omega)))]
  · rw [show min 2048 N = N by omega]
/-- how far a root has come -/
def RT (X n R q : Nat) : Prop := (R ^ n ≤ X) ∧ (X < (R + 2 ^ q) ^ n) ∧ (2 ^ q ∣ R)
theorem RT.h1 {X n R q : Nat} (h : RT X n R q) : R ^ n ≤ X := h.1
theorem RT.h2 {X n R q : Nat} (h : RT X n R q) : X < (R + 2 ^ q) ^ n := h.2.1
theorem RT.h3 {X n R q : Nat} (h : RT X n R q) : 2 ^ q ∣ R := h.2.2
theorem RT_0 {X n sz b : Nat} (hn : 1 ≤ n) (hX : X < rP sz) (hb : b = 16 * sz / n) : RT X n 0 (b + 1) := by
  refine ⟨?_, ?_, Nat.dvd_zero _⟩
  · rw [Nat.zero_pow (by omega)]; exact Nat.zero_le _
  · rw [Nat.zero_add, ← Nat.pow_mul]
    rw [rP_two] at hX
    refine Nat.lt_of_lt_of_le hX (Nat.pow_le_pow_right (by decide) ?_)
    have h1 := Nat.div_add_mod (16 * sz) n
    have h2 := Nat.mod_lt (16 * sz) (show 0 < n by omega)
    rw [← hb] at h1
    rw [Nat.add_mul, Nat.one_mul, Nat.mul_comm b n]
    omega
theorem RT_bit {X n R q : Nat} (h : RT X n R (q + 1)) : R.testBit q = false := by
  obtain ⟨k, hk⟩ := h.h3
  rw [hk, Nat.testBit_two_pow_mul, decide_eq_false (by omega), Bool.false_and]
theorem RT_yes {X n R q : Nat} (h : RT X n R (q + 1)) (h9 : (R + 2 ^ q) ^ n ≤ X) : RT X n (R + 2 ^ q) q := by
  refine ⟨h9, ?_, ?_⟩
  · have := h.h2
    rw [Nat.pow_succ] at this
    rw [show R + 2 ^ q + 2 ^ q = R + 2 ^ q * 2 by omega]; exact this
  · exact Nat.dvd_add (Nat.dvd_trans (Nat.pow_dvd_pow 2 (by omega)) h.h3) (Nat.dvd_refl _)
theorem RT_no {X n R q : Nat} (h : RT X n R (q + 1)) (h9 : ¬ (R + 2 ^ q) ^ n ≤ X) : RT X n R q :=
  ⟨h.h1, Nat.lt_of_not_le h9, Nat.dvd_trans (Nat.pow_dvd_pow 2 (by omega)) h.h3⟩
theorem RT_le {X n R q : Nat} (hn : 1 ≤ n) (h : RT X n R q) : R ≤ X := by
  rcases Nat.eq_zero_or_pos R with h0 | h0
  · omega
  · exact Nat.le_trans (by have h9 := Nat.pow_le_pow_right h0 hn; rw [Nat.pow_one] at h9; exact h9) h.h1
theorem RT_end {X n R r : Nat} (hn : 1 ≤ n) (h : RT X n R 0) (h1 : r ^ n ≤ X) (h2 : X < (r + 1) ^ n) : r = R := by
  have g1 := h.h1
  have g2 := h.h2
  rw [Nat.pow_zero] at g2
  have a1 : ¬ R + 1 ≤ r := fun h9 => by have := Nat.pow_le_pow_left h9 n; omega
  have a2 : ¬ r + 1 ≤ R := fun h9 => by have := Nat.pow_le_pow_left h9 n; omega
  omega