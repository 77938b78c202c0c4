theorem tl_64 (x : Int) : (((tl x 3 : Nat) : Int) * 281474976710656 + (((tl x 2 : Nat) : Int) * 4294967296 + (((tl x 1 : Nat) : Int) * 65536 + ((tl x 0 : Nat) : Int)))) % 18446744073709551616 = x % 18446744073709551616 := by
  have e0 : rP 0 = 1 := by rw [rP_two]
  have e1 : rP 1 = 65536 := by rw [rP_two]
  have e2 : rP 2 = 4294967296 := by rw [rP_two]
  have e3 : rP 3 = 281474976710656 := by rw [rP_two]
  unfold tl
  rw [e0, e1, e2, e3]
  by_cases h : x < 0
  · rw [if_pos h, if_pos h, if_pos h, if_pos h]
    have hu : ((zu x : Nat) : Int) = -x - 1 := by rw [zu_neg h]; omega
    generalize zu x = U at *
    omega
  · rw [if_neg h, if_neg h, if_neg h, if_neg h]
    have hu : ((zu x : Nat) : Int) = x := by rw [zu_pos h]; omega
    generalize zu x = U at *
    omega
/-- how far told has come, from the top bit down to n -/
def TDS (x : Int) (n a b : Nat) (e : Int) : Prop := (a ≤ 2048) ∧ (b ≤ 2048) ∧ (-1 ≤ e ∧ e < 2048) ∧ (zu x / 2 ^ n = 0 → a = 0) ∧ (zu x / 2 ^ n ≠ 0 → bl (zu x) a) ∧ (b = pb (zu x / 2 ^ n) (2048 - n)) ∧ ((e = -1 ∧ ∀ i, n ≤ i → i < 2048 → tbz x i = false) ∨ (∃ t : Nat, e = t ∧ n ≤ t ∧ t < 2048 ∧ tbz x t = true ∧ ∀ i, n ≤ i → i < t → tbz x i = false))
theorem TDS.ha {x : Int} {n a b : Nat} {e : Int} (h : TDS x n a b e) : a ≤ 2048 := h.1
theorem TDS.hb {x : Int} {n a b : Nat} {e : Int} (h : TDS x n a b e) : b ≤ 2048 := h.2.1
theorem TDS.he {x : Int} {n a b : Nat} {e : Int} (h : TDS x n a b e) : -1 ≤ e ∧ e < 2048 := h.2.2.1
theorem TDS.h0 {x : Int} {n a b : Nat} {e : Int} (h : TDS x n a b e) : zu x / 2 ^ n = 0 → a = 0 := h.2.2.2.1
theorem TDS.h1 {x : Int} {n a b : Nat} {e : Int} (h : TDS x n a b e) : zu x / 2 ^ n ≠ 0 → bl (zu x) a := h.2.2.2.2.1
theorem TDS.h2 {x : Int} {n a b : Nat} {e : Int} (h : TDS x n a b e) : b = pb (zu x / 2 ^ n) (2048 - n) := h.2.2.2.2.2.1
theorem TDS.h3 {x : Int} {n a b : Nat} {e : Int} (h : TDS x n a b e) : (e = -1 ∧ ∀ i, n ≤ i → i < 2048 → tbz x i = false) ∨ (∃ t : Nat, e = t ∧ n ≤ t ∧ t < 2048 ∧ tbz x t = true ∧ ∀ i, n ≤ i → i < t → tbz x i = false) := h.2.2.2.2.2.2
theorem TDS_0 {x : Int} (hX : zX x) : TDS x 2048 0 0 (-1) := by
  have h := zX_u hX
  have e : zu x / 2 ^ 2048 = 0 := Nat.div_eq_of_lt h
  exact ⟨Nat.zero_le _, Nat.zero_le _, by omega, fun _ => rfl, fun h9 => absurd e h9, by rw [e]; rfl, Or.inl ⟨rfl, fun i h1 h2 => absurd h1 (by omega)⟩⟩
theorem tbz_far2 (x : Int) (n : Nat) : tbz x n = decide (x < 0) ↔ (zu x).testBit n = false := by
  unfold tbz
  cases decide (x < 0) <;> cases (zu x).testBit n <;> decide
theorem TDS_s {x : Int} {n a b a2 b2 : Nat} {e e2 : Int} (h : TDS x (n + 1) a b e) (hn : n < 2048) (k1 : tbz x n = decide (x < 0) → a2 = a ∧ b2 = b) (k2 : tbz x n ≠ decide (x < 0) → (a = 0 → a2 = n + 1) ∧ (a ≠ 0 → a2 = a) ∧ b2 = b + 1) (k3 : tbz x n = true → e2 = n) (k4 : tbz x n = false → e2 = e) : TDS x n a2 b2 e2 := by
  have hd := tb_dm (zu x) n
  have hs : zu x / 2 ^ (n + 1) = zu x / 2 ^ n / 2 := by rw [Nat.pow_succ, Nat.div_div_eq_div_mul]
  have hp : pb (zu x / 2 ^ n) (2048 - n) = zu x / 2 ^ n % 2 + pb (zu x / 2 ^ (n + 1)) (2048 - (n + 1)) := by
    rw [show 2048 - n = (2048 - (n + 1)) + 1 by omega, hs]; rfl
  have hb3 : b2 = pb (zu x / 2 ^ n) (2048 - n) := by
    rw [hp, ← h.h2]
    by_cases hk : tbz x n = decide (x < 0)
    · rw [(k1 hk).2, hd, (tbz_far2 x n).mp hk]; simp
    · have h9 : (zu x).testBit n = true := by
        cases h8 : (zu x).testBit n
        · exact absurd ((tbz_far2 x n).mpr h8) hk
        · rfl
      rw [(k2 hk).2.2, hd, h9]; simp; omega
  have hpl := pb_le (zu x / 2 ^ n) (2048 - n)
  have ha3 : a2 ≤ 2048 := by
    by_cases hk : tbz x n = decide (x < 0)
    · rw [(k1 hk).1]; exact h.ha
    · by_cases h0 : a = 0
      · rw [(k2 hk).1 h0]; omega
      · rw [(k2 hk).2.1 h0]; exact h.ha
  have he3 : -1 ≤ e2 ∧ e2 < 2048 := by
    cases hk : tbz x n
    · rw [k4 hk]; exact h.he
    · rw [k3 hk]; omega
  refine ⟨ha3, by omega, he3, ?_, ?_, hb3, ?_⟩
  · intro h9
    have h8 : zu x / 2 ^ (n + 1) = 0 := by rw [hs, h9]
    rw [h9] at hd
    have hk : tbz x n = decide (x < 0) := (tbz_far2 x n).mpr (by cases h7 : (zu x).testBit n; rfl; rw [h7] at hd; exact absurd hd (by decide))
    rw [(k1 hk).1]
    exact h.h0 h8
  · intro h9
    by_cases h8 : zu x / 2 ^ (n + 1) = 0
    · have ha0 := h.h0 h8
      rw [hs] at h8
      have h7 : zu x / 2 ^ n = 1 := by omega
      rw [h7] at hd
      have hk : tbz x n ≠ decide (x < 0) := fun h6 => by rw [(tbz_far2 x n).mp h6] at hd; exact absurd hd (by decide)
      rw [(k2 hk).1 ha0]
      have hpo : 0 < 2 ^ n := Nat.pow_pos (by decide)
      have h5 := Nat.div_add_mod (zu x) (2 ^ n)
      have h4 := Nat.mod_lt (zu x) hpo
      rw [h7] at h5
      refine ⟨?_, fun _ => ?_⟩
      · rw [Nat.pow_succ]; omega
      · show 2 ^ n ≤ zu x; omega
    · have hb9 := h.h1 h8
      have ha0 : a ≠ 0 := by
        rintro rfl
        have := hb9.1
        rw [show zu x = 0 by omega] at h8
        exact h8 (Nat.zero_div _)
      by_cases hk : tbz x n = decide (x < 0)
      · rw [(k1 hk).1]; exact hb9
      · rw [(k2 hk).2.1 ha0]; exact hb9
  · cases hk : tbz x n
    · rw [k4 hk]
      rcases h.h3 with ⟨g1, g2⟩ | ⟨t, g1, g2, g3, g4, g5⟩
      · exact Or.inl ⟨g1, fun i i1 i2 => by by_cases h9 : i = n; rw [h9]; exact hk; exact g2 i (by omega) i2⟩
      · exact Or.inr ⟨t, g1, by omega, g3, g4, fun i i1 i2 => by by_cases h9 : i = n; rw [h9]; exact hk; exact g5 i (by omega) i2⟩
    · exact Or.inr ⟨n, k3 hk, Nat.le_refl _, hn, hk, fun i i1 i2 => absurd i1 (by omega)⟩
theorem lo1_bit {W t : Nat} (h : lo1 W t) (i : Nat) (hi : i ≤ t) : W.testBit i = decide (i = t) := by
  obtain ⟨q, rfl⟩ := h
  rw [Nat.testBit_two_pow_mul]
  by_cases h9 : i = t
  · subst h9
    rw [decide_eq_true (Nat.le_refl _), Nat.sub_self, decide_eq_true rfl]
    simp
  · rw [decide_eq_false (show ¬ i ≥ t by omega), decide_eq_false h9]; rfl
theorem tbz_lo1 {x : Int} {t : Nat} (ht : lo1 x.natAbs t) (i : Nat) (hi : i ≤ t) : tbz x i = decide (i = t) := by
  by_cases hx : x < 0
  · rw [tbz_lo hx ht, if_pos hi, lo1_bit ht i hi]
  · rw [tbz_pos hx, zu_pos hx, lo1_bit ht i hi]
theorem TDS_end {x : Int} {a b : Nat} {e : Int} (hX : zX x) (h : TDS x 0 a b e) : bl (zu x) a ∧ b = pb (zu x) 2048 ∧ (x = 0 → e = -1) ∧ (x ≠ 0 → ∃ t : Nat, lo1 x.natAbs t ∧ e = t) := by
  have e1 : zu x / 2 ^ 0 = zu x := by rw [Nat.pow_zero, Nat.div_one]
  have h0 := h.h0
  have h1 := h.h1
  have h2 := h.h2
  rw [e1] at h0 h1 h2
  refine ⟨?_, h2, ?_, ?_⟩
  · by_cases h9 : zu x = 0
    · rw [h0 h9, h9]; exact bl_0
    · exact h1 h9
  · intro hx
    subst hx
    rcases h.h3 with ⟨g1, _⟩ | ⟨t, _, _, _, g4, _⟩
    · exact g1
    · rw [tbz_pos (by decide), zu_pos (by decide), show (0 : Int).natAbs = 0 from rfl, Nat.zero_testBit] at g4; exact absurd g4 (by decide)
  · intro hx
    obtain ⟨t, ht⟩ := lo1_ex (show x.natAbs ≠ 0 by omega)
    have htl := lo1_le (k := 2048) ht hX
    refine ⟨t, ht, ?_⟩
    rcases h.h3 with ⟨_, g2⟩ | ⟨u, g1, _, g3, g4, g5⟩
    · exact absurd (g2 t (Nat.zero_le _) htl) (by rw [tbz_lo1 ht t (Nat.le_refl _)]; simp)
    · rw [g1]
      rcases Nat.lt_trichotomy u t with h9 | h9 | h9
      · rw [tbz_lo1 ht u (by omega), decide_eq_false (by omega)] at g4; exact absurd g4 (by decide)
      · rw [h9]
      · have := g5 t (Nat.zero_le _) h9
        rw [tbz_lo1 ht t (Nat.le_refl _), decide_eq_true rfl] at this; exact absurd this (by decide)
set_option maxHeartbeats 4000000 in
set_option maxRecDepth 100000 in
theorem mM_told (l : Launch) (E : zE) (B : Nat) (rg : Nat → Int) (ct : Nat) (f : Nat → Nat) (st : Nat) (g : Nat → Nat) (t0 : Nat) (a : Int) (hz_a : zi a) (what : Int) (hz_what : zi what) (k : Nat) (σ1 : zS) (hok1 : okS σ1) (hsp : SP (rok a ∧ 0 ≤ what ∧ what ≤ 4) (False) (False) (fun τ => τ = (rg, ct, f, st, g)) (rg, ct, f, st, g) k σ1) :
    Met l yM_told (zws yM_told cM_told 12 (some .long)) { frames := 1, cells := 0, slots := 0, locals := 40 } (zPc E (zQM E B (rg, ct, f, st, g) t0) [.ref (B), .int (iZ (a)), .int (iZ (what))]) (va_Ql (fun (r : Int64) (u : Unit) => k = 0 → tld (rg a.toNat) what r) (fun u t => zQM E B σ1 (tc k) t.heap ∧ zK E t) (zA B 15)) 0 0 (zA B 15) := by
  refine zof_l (P' := fun (u : Unit) H => zQM E B σ1 (tc k) H) (by decide) (Nat.le_of_ble_eq_true rfl) fun p e R s m args below meth c Q ls hR hx hb hml ht hown hK hZ hl hend => ?_
  have hS : va_S (zA B 15) s.heap s.heap [] := va_S.rf
  have hown : s.vm.findClass "WholeDeskModel" = some m.cls := hown
  have hl : lv_has ls 12 [(0, .ref (B)), (1, .int (iZ (a))), (2, .int (iZ (what)))] := hl
  obtain ⟨hok, w0, ⟨th, fa, le, be, fb, sb9, pr⟩, hZ, ⟨hMR, hle, hdr, hpr, hpa⟩, hth⟩ := hZ
  dsimp only at *
  rw [hle, hpr] at hZ
  clear hth hle hpr le pr
  refine lv_aload_n hx hb dM_told_0 rfl (lv_at hl 0 rfl) ?_
  refine lv_iload_n hx hb dM_told_1 rfl (lv_at hl 1 rfl) ?_
  refine zcS_i (P' := fun (u : (Nat → Nat → Nat) × zC) H => zMD E B u.1 u.2 H) 1 (As := [.int (iZ (a))]) (rest := [.ref (B)]) ⟨hx, hb, hml, hown, ht⟩ (mM_no l E B w0 (th, fa, ct, be, fb, sb9, (2049 - st)) (a) hz_a) tw_762 tw_760 tw_761 tw_6 qM_no (by rw [hR]; decide) hZ hK hl.1 rfl rfl (Nat.le_of_ble_eq_true rfl) dM_told_2 ⟨Nat.zero_le _, Nat.zero_le _⟩ hS (fun r9 u H locs hp hZ _ hS => ?_)
  obtain ⟨hu9, ba, hr1, hba⟩ := hp
  subst hr1
  rw [hu9] at hZ
  dsimp only at hZ
  clear hu9
  refine zr_if_ne (tgt := 17) hx hb (by have := bZ_01 ba; omega) dM_told_5 (by decide) (fun c_1 => ?_) (fun c_1 => ?_)
  · have hng : ¬ rok a := hba.mp (bZ_nf.mp (by assumption))
    refine lv_iconst (v := iZ (1)) hx hb dM_told_17 (by decide) ?_
    refine lv_goto (tgt := 22) hx hb dM_told_18 (by decide) ?_
    refine W.eq (g2 := F0 m 22 ls ([.int (iZ ((1 : Nat) : Int)), .ref B])) rfl ?_
    refine zm_put_thrown (x := 1) hx hb ht hown hK hZ hS tw_677 dM_told_22 (fun H locs hZ hS => ?_)
    have hZ : zMD E B w0 (1, fa, ct, be, fb, sb9, (2049 - st)) H := hZ
    refine lv_aload_n hx hb dM_told_25 rfl (lv_at hl 0 rfl) ?_
    refine zm_thrown hx hb ht hown hK hZ tw_677 dM_told_26 ?_
    refine zc_i (y := iZ (((1 : Nat) : Int))) rfl ?_
    refine zr_if_le (tgt := 34) hx hb (by decide) dM_told_29 (by decide) (fun c_2 => ?_) (fun c_2 => ?_)
    · exact absurd c_2 (by decide)
    · refine lv_lconst (v := lZ (0)) hx hb dM_told_32 (by decide) ?_
      exact hend 33 _ () _ _ _ dM_told_33 (fun h9 => by obtain ⟨hk, _⟩ := SP_1 hsp (fun h9 => hng (by first | exact h9.1 | exact h9.2)); omega) (by obtain ⟨hk, hs⟩ := SP_1 hsp (fun h9 => hng (by first | exact h9 | exact h9.1 | exact h9.2.1 | exact h9.2.2.1 | exact h9.2.2.2.1 | exact h9.2.2.2 | exact h9.2.2 | exact h9.2)); subst hk; subst hs; exact ⟨hok1, w0, (1, fa, ct, be, fb, sb9, (2049 - st)), hZ, ⟨hMR, rfl, hdr, rfl, hpa⟩, rfl⟩) hS
  · have hk_na : rok a := Classical.byContradiction (fun h9 => absurd (hba.mpr h9) (by rw [show ba = false from bZ_f.mp (by assumption)]; decide))
    obtain ⟨na, rfl⟩ : ∃ n9 : Nat, a = (n9 : Int) := ⟨a.toNat, by have := hk_na.1; omega⟩
    have h10_na : na < 10 := by have := hk_na.2; omega
    refine lv_iload_n hx hb dM_told_8 rfl (lv_at hl 2 rfl) ?_
    refine zr_if_lt (tgt := 17) hx hb (hz_what) dM_told_9 (by decide) (fun c_3 => ?_) (fun c_3 => ?_)
    · have hng : ¬ (0 ≤ what ∧ what ≤ 4) := by omega
      refine lv_iconst (v := iZ (1)) hx hb dM_told_17 (by decide) ?_
      refine lv_goto (tgt := 22) hx hb dM_told_18 (by decide) ?_
      refine W.eq (g2 := F0 m 22 ls ([.int (iZ ((1 : Nat) : Int)), .ref B])) rfl ?_
      refine zm_put_thrown (x := 1) hx hb ht hown hK hZ hS tw_677 dM_told_22 (fun H locs hZ hS => ?_)
      have hZ : zMD E B w0 (1, fa, ct, be, fb, sb9, (2049 - st)) H := hZ
      refine lv_aload_n hx hb dM_told_25 rfl (lv_at hl 0 rfl) ?_
      refine zm_thrown hx hb ht hown hK hZ tw_677 dM_told_26 ?_
      refine zc_i (y := iZ (((1 : Nat) : Int))) rfl ?_
      refine zr_if_le (tgt := 34) hx hb (by decide) dM_told_29 (by decide) (fun c_4 => ?_) (fun c_4 => ?_)
      · exact absurd c_4 (by decide)
      · refine lv_lconst (v := lZ (0)) hx hb dM_told_32 (by decide) ?_
        exact hend 33 _ () _ _ _ dM_told_33 (fun h9 => by obtain ⟨hk, _⟩ := SP_1 hsp (fun h9 => hng (by first | exact h9.1 | exact h9.2)); omega) (by obtain ⟨hk, hs⟩ := SP_1 hsp (fun h9 => hng (by first | exact h9 | exact h9.1 | exact h9.2.1 | exact h9.2.2.1 | exact h9.2.2.2.1 | exact h9.2.2.2 | exact h9.2.2 | exact h9.2)); subst hk; subst hs; exact ⟨hok1, w0, (1, fa, ct, be, fb, sb9, (2049 - st)), hZ, ⟨hMR, rfl, hdr, rfl, hpa⟩, rfl⟩) hS
    · refine lv_iload_n hx hb dM_told_12 rfl (lv_at hl 2 rfl) ?_
      refine lv_iconst (v := iZ (4)) hx hb dM_told_13 (by decide) ?_
      refine zr_icmp_le (tgt := 21) hx hb hz_what (by unfold zi; omega) dM_told_14 (by decide) (fun c_5 => ?_) (fun c_5 => ?_)
      · have h0w : 0 ≤ what ∧ what ≤ 4 := by omega
        have hXa := hok.1 na h10_na
        refine lv_iconst (v := iZ (0)) hx hb dM_told_21 (by decide) ?_
        refine W.eq (g2 := F0 m 22 ls ([.int (iZ ((0 : Nat) : Int)), .ref B])) rfl ?_
        refine zm_put_thrown (x := 0) hx hb ht hown hK hZ hS tw_677 dM_told_22 (fun H locs hZ hS => ?_)
        have hZ : zMD E B w0 (0, fa, ct, be, fb, sb9, (2049 - st)) H := hZ
        refine lv_aload_n hx hb dM_told_25 rfl (lv_at hl 0 rfl) ?_
        refine zm_thrown hx hb ht hown hK hZ tw_677 dM_told_26 ?_
        refine zc_i (y := iZ (((0 : Nat) : Int))) rfl ?_
        refine zr_if_le (tgt := 34) hx hb (by decide) dM_told_29 (by decide) (fun c_6 => ?_) (fun c_6 => ?_)
        · refine lv_iload_n hx hb dM_told_34 rfl (lv_at hl 2 rfl) ?_
          refine zr_if_ne (tgt := 79) hx hb (hz_what) dM_told_35 (by decide) (fun c_7 => ?_) (fun c_7 => ?_)
          · refine lv_iload_n hx hb dM_told_79 rfl (lv_at hl 2 rfl) ?_
            refine lv_iconst (v := iZ (1)) hx hb dM_told_80 (by decide) ?_
            refine zr_icmp_ne (tgt := 113) hx hb hz_what (by unfold zi; omega) dM_told_81 (by decide) (fun c_8 => ?_) (fun c_8 => ?_)
            · refine lv_aload_n hx hb dM_told_113 rfl (lv_at hl 0 rfl) ?_
              refine zm_minus hx hb ht hown hK hZ tw_682 dM_told_114 ?_
              refine lv_iload_n hx hb dM_told_117 rfl (lv_at hl 1 rfl) ?_
              refine zm_ldz (i := na) hx hb hK hZ (by omega) dM_told_118 ?_
              rw [show ((w0 3 na : Nat) : Int) = bZ (decide (rg na < 0)) from by rw [show w0 3 na = bN (decide (rg na < 0)) from (hMR na h10_na).2, bN_Z]]
              refine zr_if_eq (tgt := 126) hx hb (by have := bZ_01 (decide (rg na < 0)); omega) dM_told_119 (by decide) (fun c_9 => ?_) (fun c_9 => ?_)
              · refine lv_iconst (v := iZ (0)) hx hb dM_told_126 (by decide) ?_
                refine zc_i (y := iZ (bZ (decide (rg na < 0)))) (congrArg iZ (by rw [show decide (rg na < 0) = false from bZ_f.mp (by assumption)]; rfl)) ?_
                refine lv_istore_n (lv' := [(3, .int (iZ (bZ (decide (rg na < 0))))), (0, .ref (B)), (1, .int (iZ (↑na))), (2, .int (iZ (what)))]) hx hb dM_told_127 rfl hl (by decide) rfl (fun ls hl => ?_)
                refine lv_lconst (v := lZ (0)) hx hb dM_told_128 (by decide) ?_
                refine zc_l (y := lZ ((0 : Nat) : Int)) rfl ?_
                refine lv_lstore (lv' := [(4, .long (lZ (((0 : Nat) : Int)))), (3, .int (iZ (bZ (decide (rg na < 0))))), (0, .ref (B)), (1, .int (iZ (↑na))), (2, .int (iZ (what)))]) hx hb dM_told_129 hl (by decide) rfl (fun ls hl => ?_)
                refine lv_lconst (v := lZ (0)) hx hb dM_told_131 (by decide) ?_
                refine zc_l (y := lZ ((0 : Nat) : Int)) rfl ?_
                refine lv_lstore (lv' := [(6, .long (lZ (((0 : Nat) : Int)))), (4, .long (lZ (((0 : Nat) : Int)))), (3, .int (iZ (bZ (decide (rg na < 0))))), (0, .ref (B)), (1, .int (iZ (↑na))), (2, .int (iZ (what)))]) hx hb dM_told_132 hl (by decide) rfl (fun ls hl => ?_)
                refine lv_ldc2 (v := lZ (-1)) hx hb hown (ht _ tw_895) dM_told_134 ?_
                refine lv_lstore (lv' := [(8, .long (lZ (-1))), (6, .long (lZ (((0 : Nat) : Int)))), (4, .long (lZ (((0 : Nat) : Int)))), (3, .int (iZ (bZ (decide (rg na < 0))))), (0, .ref (B)), (1, .int (iZ (↑na))), (2, .int (iZ (what)))]) hx hb dM_told_137 hl (by decide) rfl (fun ls hl => ?_)
                refine lv_sipush (v := iZ (2047)) hx hb dM_told_139 (by decide) ?_
                refine lv_istore (lv' := [(10, .int (iZ (2047))), (8, .long (lZ (-1))), (6, .long (lZ (((0 : Nat) : Int)))), (4, .long (lZ (((0 : Nat) : Int)))), (3, .int (iZ (bZ (decide (rg na < 0))))), (0, .ref (B)), (1, .int (iZ (↑na))), (2, .int (iZ (what)))]) hx hb dM_told_142 hl (by decide) rfl (fun ls hl => ?_)
                have L144 : ∀ (fu : Nat) (n : Nat) (a : Nat) (b : Nat) (ee : Int) (w : Nat → Nat → Nat) (H : Heap) (locs : List Loc) (ls : Array Slot), n < fu → (n ≤ 2048) → (TDS (rg na) n a b ee) → (MR w rg) → (∀ i, i < ct → w 1 i = f i) → (∀ i, i < 2049 - st → w 14 i = g (st + i)) → zMD E B w (0, fa, ct, be, fb, sb9, (2049 - st)) H → va_S (zA B 15) s.heap H locs → lv_has ls 12 [(0, .ref (B)), (1, .int (iZ (↑na))), (2, .int (iZ (what))), (3, .int (iZ (bZ (decide (rg na < 0))))), (4, .long (lZ (↑a))), (6, .long (lZ (↑b))), (8, .long (lZ (ee))), (10, .int (iZ (↑n - 1)))] → W p l e R s m args below meth c H locs 0 0 Q (F0 m 144 ls []) := by
                  intro fu
                  induction fu with
                  | zero => intro n a b ee w H locs ls hm; exact absurd hm (Nat.not_lt_zero _)
                  | succ fu ihL144 =>
                    intro n a b ee w H locs ls hm hn hTS hMR hdr hpa hZ hS hl
                    have hTa := hTS.ha
                    have hTb := hTS.hb
                    have hTe := hTS.he
                    refine lv_iload hx hb dM_told_144 (lv_at hl 7 rfl) ?_
                    refine zr_if_lt (tgt := 233) hx hb (by unfold zi; omega) dM_told_146 (by decide) (fun c_10 => ?_) (fun c_10 => ?_)
                    · have hn0 : n = 0 := by omega
                      rw [hn0] at hTS
                      obtain ⟨hE1, hE2, hE3, hE4⟩ := TDS_end hXa hTS
                      refine lv_iload_n hx hb dM_told_233 rfl (lv_at hl 2 rfl) ?_
                      refine lv_iconst (v := iZ (2)) hx hb dM_told_234 (by decide) ?_
                      refine zr_icmp_ne (tgt := 243) hx hb hz_what (by unfold zi; omega) dM_told_235 (by decide) (fun c_11 => ?_) (fun c_11 => ?_)
                      · refine lv_iload_n hx hb dM_told_243 rfl (lv_at hl 2 rfl) ?_
                        refine lv_iconst (v := iZ (3)) hx hb dM_told_244 (by decide) ?_
                        refine zr_icmp_ne (tgt := 253) hx hb hz_what (by unfold zi; omega) dM_told_245 (by decide) (fun c_12 => ?_) (fun c_12 => ?_)
                        · refine lv_lload hx hb dM_told_253 (lv_at hl 6 rfl) ?_
                          exact hend 255 _ () _ _ _ dM_told_255 (fun _ => tld_of 4 (by omega) ⟨fun h => absurd h (by decide), fun h => absurd h (by decide), fun h => absurd h (by decide), fun h => absurd h (by decide), fun _ => ⟨fun h => congrArg lZ (hE3 h), fun h => (hE4 h).imp fun t ht => ⟨ht.1, congrArg lZ ht.2⟩⟩⟩) (by rcases SP_g hsp ⟨hk_na, h0w⟩ with ⟨_, h, _⟩ | ⟨_, h, _⟩ | ⟨hk, hs⟩; exact h.elim; exact h.elim; subst hk; subst hs; exact ⟨hok1, w, (0, fa, ct, be, fb, sb9, (2049 - st)), hZ, ⟨hMR, rfl, hdr, rfl, hpa⟩, rfl⟩) hS
                        · refine lv_lload hx hb dM_told_248 (lv_at hl 5 rfl) ?_
                          refine lv_goto (tgt := 255) hx hb dM_told_250 (by decide) ?_
                          exact hend 255 _ () _ _ _ dM_told_255 (fun _ => tld_of 3 (by omega) ⟨fun h => absurd h (by decide), fun h => absurd h (by decide), fun h => absurd h (by decide), fun _ => congrArg (fun q : Nat => lZ q) hE2, fun h => absurd h (by decide)⟩) (by rcases SP_g hsp ⟨hk_na, h0w⟩ with ⟨_, h, _⟩ | ⟨_, h, _⟩ | ⟨hk, hs⟩; exact h.elim; exact h.elim; subst hk; subst hs; exact ⟨hok1, w, (0, fa, ct, be, fb, sb9, (2049 - st)), hZ, ⟨hMR, rfl, hdr, rfl, hpa⟩, rfl⟩) hS
                      · refine lv_lload hx hb dM_told_238 (lv_at hl 4 rfl) ?_
                        refine lv_goto (tgt := 255) hx hb dM_told_240 (by decide) ?_
                        exact hend 255 _ () _ _ _ dM_told_255 (fun _ => tld_of 2 (by omega) ⟨fun h => absurd h (by decide), fun h => absurd h (by decide), fun _ => ⟨a, hE1, rfl⟩, fun h => absurd h (by decide), fun h => absurd h (by decide)⟩) (by rcases SP_g hsp ⟨hk_na, h0w⟩ with ⟨_, h, _⟩ | ⟨_, h, _⟩ | ⟨hk, hs⟩; exact h.elim; exact h.elim; subst hk; subst hs; exact ⟨hok1, w, (0, fa, ct, be, fb, sb9, (2049 - st)), hZ, ⟨hMR, rfl, hdr, rfl, hpa⟩, rfl⟩) hS
                    · obtain ⟨q, rfl⟩ : ∃ q, n = q + 1 := ⟨n - 1, by omega⟩
                      rw [show (((q + 1 : Nat) : Int) - 1) = ((q : Nat) : Int) from by omega] at hl
                      refine lv_aload_n hx hb dM_told_149 rfl (lv_at hl 0 rfl) ?_
                      refine lv_iload_n hx hb dM_told_150 rfl (lv_at hl 1 rfl) ?_
                      refine lv_iload hx hb dM_told_151 (lv_at hl 7 rfl) ?_
                      refine lv_bipush (v := iZ (16)) hx hb dM_told_153 (by decide) ?_
                      refine zr_idiv hx hb (by unfold zi; omega) (by unfold zi; omega) (by omega) (by omega) dM_told_155 ?_
                      refine zc_i (y := iZ ((q / 16 : Nat) : Int)) (congrArg iZ (by omega)) ?_
                      refine zcV_i (P' := fun (u : (Nat → Nat → Nat) × zC) H => zMD E B u.1 u.2 H) 2 (As := [.int (iZ (↑na)), .int (iZ (((q / 16 : Nat) : Int)))]) (rest := []) rfl ⟨hx, hb, hml, hown, ht⟩ (mM_limb l E B w (0, fa, ct, be, fb, sb9, (2049 - st)) rg ct f st g hMR hdr hpa na h10_na (hok.1 na h10_na) (q / 16) (by omega)) tw_876 tw_873 tw_875 tp_23 tw_6 qM_limb (by rw [hR]; decide) (zm_recv hK hZ) hZ hK hl.1 rfl rfl (Nat.le_of_ble_eq_true rfl) dM_told_156 ⟨Nat.zero_le _, Nat.zero_le _⟩ hS (fun r9 u H locs hp hZ _ hS => ?_)
                      obtain ⟨_, hu9, hr1⟩ := hp
                      subst hr1
                      rw [hu9] at hZ
                      dsimp only at hZ
                      clear hu9
                      refine lv_iload hx hb dM_told_159 (lv_at hl 7 rfl) ?_
                      refine lv_bipush (v := iZ (16)) hx hb dM_told_161 (by decide) ?_
                      refine zr_irem hx hb (by unfold zi; omega) (by unfold zi; omega) (by omega) (by omega) dM_told_163 ?_
                      refine zc_i (y := iZ (((q) % 16 : Nat) : Int)) (congrArg iZ (by omega)) ?_
                      have htl := tl_lt (rg na) (q / 16)
                      refine zr_ishr hx hb (by omega) (by omega) dM_told_164 ?_
                      refine lv_iconst (v := iZ (1)) hx hb dM_told_165 (by decide) ?_
                      have hle9 := Nat.div_le_self (tl (rg na) (q / 16)) (2 ^ ((q) % 16))
                      refine zr_iand hx hb 1 (by omega) rfl dM_told_166 ?_
                      rw [show (2 : Nat) ^ 1 = 2 from rfl]
                      refine zc_i (y := iZ (bZ (tbz (rg na) q))) (congrArg iZ (by rw [tl_bit]; exact bN_tb _)) ?_
                      refine lv_istore (lv' := [(11, .int (iZ (bZ (tbz (rg na) q)))), (0, .ref (B)), (1, .int (iZ (↑na))), (2, .int (iZ (what))), (3, .int (iZ (bZ (decide (rg na < 0))))), (4, .long (lZ (↑a))), (6, .long (lZ (↑b))), (8, .long (lZ (ee))), (10, .int (iZ (((q : Nat) : Int))))]) hx hb dM_told_167 hl (by decide) rfl (fun ls hl => ?_)
                      refine lv_iload hx hb dM_told_169 (lv_at hl 0 rfl) ?_
                      refine lv_iload_n hx hb dM_told_171 rfl (lv_at hl 4 rfl) ?_
                      refine zr_icmp_eq (tgt := 190) hx hb (by have := bZ_01 (tbz (rg na) q); unfold zi; omega) (by have := bZ_01 (decide (rg na < 0)); unfold zi; omega) dM_told_172 (by decide) (fun c_13 => ?_) (fun c_13 => ?_)
                      · have heq : tbz (rg na) q = decide (rg na < 0) := bZ_eq.mp (by assumption)
                        refine lv_lload hx hb dM_told_190 (lv_at hl 5 rfl) ?_
                        refine lv_lstore (lv' := [(4, .long (lZ (↑a))), (11, .int (iZ (bZ (tbz (rg na) q)))), (0, .ref (B)), (1, .int (iZ (↑na))), (2, .int (iZ (what))), (3, .int (iZ (bZ (decide (rg na < 0))))), (6, .long (lZ (↑b))), (8, .long (lZ (ee))), (10, .int (iZ (((q : Nat) : Int))))]) hx hb dM_told_192 hl (by decide) rfl (fun ls hl => ?_)
                        refine lv_iload hx hb dM_told_194 (lv_at hl 1 rfl) ?_
                        refine lv_iload_n hx hb dM_told_196 rfl (lv_at hl 5 rfl) ?_
                        refine zr_icmp_eq (tgt := 207) hx hb (by have := bZ_01 (tbz (rg na) q); unfold zi; omega) (by have := bZ_01 (decide (rg na < 0)); unfold zi; omega) dM_told_197 (by decide) (fun c_14 => ?_) (fun c_14 => ?_)
                        · refine lv_lload hx hb dM_told_207 (lv_at hl 6 rfl) ?_
                          refine lv_lstore (lv' := [(6, .long (lZ (↑b))), (4, .long (lZ (↑a))), (11, .int (iZ (bZ (tbz (rg na) q)))), (0, .ref (B)), (1, .int (iZ (↑na))), (2, .int (iZ (what))), (3, .int (iZ (bZ (decide (rg na < 0))))), (8, .long (lZ (ee))), (10, .int (iZ (((q : Nat) : Int))))]) hx hb dM_told_209 hl (by decide) rfl (fun ls hl => ?_)
                          refine lv_iload hx hb dM_told_211 (lv_at hl 2 rfl) ?_
                          refine lv_iconst (v := iZ (1)) hx hb dM_told_213 (by decide) ?_
                          refine zr_icmp_ne (tgt := 223) hx hb (by have := bZ_01 (tbz (rg na) q); unfold zi; omega) (by unfold zi; omega) dM_told_214 (by decide) (fun c_15 => ?_) (fun c_15 => ?_)
                          · have hb1 : tbz (rg na) q = false := bZ_f.mp (by have := bZ_01 (tbz (rg na) q); omega)
                            refine lv_lload hx hb dM_told_223 (lv_at hl 7 rfl) ?_
                            refine lv_lstore (lv' := [(8, .long (lZ (ee))), (6, .long (lZ (↑b))), (4, .long (lZ (↑a))), (11, .int (iZ (bZ (tbz (rg na) q)))), (0, .ref (B)), (1, .int (iZ (↑na))), (2, .int (iZ (what))), (3, .int (iZ (bZ (decide (rg na < 0))))), (10, .int (iZ (((q : Nat) : Int))))]) hx hb dM_told_225 hl (by decide) rfl (fun ls hl => ?_)
                            refine lv_iinc (v := iZ (((q : Nat) : Int) - 1)) (lv' := [(10, .int (iZ (((q : Nat) : Int) - 1))), (8, .long (lZ (ee))), (6, .long (lZ (↑b))), (4, .long (lZ (↑a))), (11, .int (iZ (bZ (tbz (rg na) q)))), (0, .ref (B)), (1, .int (iZ (↑na))), (2, .int (iZ (what))), (3, .int (iZ (bZ (decide (rg na < 0)))))]) hx hb dM_told_227 hl (k := 8) rfl (iZ_dec _ _) (by decide) rfl (fun ls hl => ?_)
                            refine lv_goto (tgt := 144) hx hb dM_told_230 (by decide) ?_
                            rw [show (↑a : Int) = ((a : Nat) : Int) from by omega] at hl
                            rw [show (↑b : Int) = ((b : Nat) : Int) from by omega] at hl
                            exact ihL144 q a b ee w _ _ _ (by omega) (by omega) (TDS_s hTS (by omega) (fun _ => ⟨rfl, rfl⟩) (fun h9 => absurd heq h9) (fun h9 => absurd h9 (by rw [hb1]; decide)) (fun _ => rfl)) hMR hdr hpa  hZ hS (lv_sub hl [5, 6, 7, 8, 3, 2, 1, 0] rfl)
                          · have hb1 : tbz (rg na) q = true := bZ_nf.mp (by omega)
                            refine lv_iload hx hb dM_told_217 (lv_at hl 8 rfl) ?_
                            refine zr_i2l hx hb (by unfold zi; omega) dM_told_219 ?_
                            refine lv_goto (tgt := 225) hx hb dM_told_220 (by decide) ?_
                            refine lv_lstore (lv' := [(8, .long (lZ (((q : Nat) : Int)))), (6, .long (lZ (↑b))), (4, .long (lZ (↑a))), (11, .int (iZ (bZ (tbz (rg na) q)))), (0, .ref (B)), (1, .int (iZ (↑na))), (2, .int (iZ (what))), (3, .int (iZ (bZ (decide (rg na < 0))))), (10, .int (iZ (((q : Nat) : Int))))]) hx hb dM_told_225 hl (by decide) rfl (fun ls hl => ?_)
                            refine lv_iinc (v := iZ (((q : Nat) : Int) - 1)) (lv' := [(10, .int (iZ (((q : Nat) : Int) - 1))), (8, .long (lZ (((q : Nat) : Int)))), (6, .long (lZ (↑b))), (4, .long (lZ (↑a))), (11, .int (iZ (bZ (tbz (rg na) q)))), (0, .ref (B)), (1, .int (iZ (↑na))), (2, .int (iZ (what))), (3, .int (iZ (bZ (decide (rg na < 0)))))]) hx hb dM_told_227 hl (k := 8) rfl (iZ_dec _ _) (by decide) rfl (fun ls hl => ?_)
                            refine lv_goto (tgt := 144) hx hb dM_told_230 (by decide) ?_
                            rw [show (↑a : Int) = ((a : Nat) : Int) from by omega] at hl
                            rw [show (↑b : Int) = ((b : Nat) : Int) from by omega] at hl
                            exact ihL144 q a b ((q : Nat) : Int) w _ _ _ (by omega) (by omega) (TDS_s hTS (by omega) (fun _ => ⟨rfl, rfl⟩) (fun h9 => absurd heq h9) (fun _ => rfl) (fun h9 => absurd h9 (by rw [hb1]; decide))) hMR hdr hpa  hZ hS (lv_sub hl [5, 6, 7, 8, 3, 2, 1, 0] rfl)
                        · exact absurd (bZ_eq.mpr heq) (by assumption)
                      · have hdf : tbz (rg na) q ≠ decide (rg na < 0) := fun h9 => absurd (bZ_eq.mpr h9) (by assumption)
                        refine lv_lload hx hb dM_told_175 (lv_at hl 5 rfl) ?_
                        refine lv_lconst (v := lZ (0)) hx hb dM_told_177 (by decide) ?_
                        refine zr_lcmp_ne (tgt := 190) hx hb (by unfold zl; omega) (by unfold zl; omega) dM_told_178 dM_told_179 (by decide) (fun c_16 => ?_) (fun c_16 => ?_)
                        · have ha0 : a ≠ 0 := by omega
                          refine lv_lload hx hb dM_told_190 (lv_at hl 5 rfl) ?_
                          refine lv_lstore (lv' := [(4, .long (lZ (↑a))), (11, .int (iZ (bZ (tbz (rg na) q)))), (0, .ref (B)), (1, .int (iZ (↑na))), (2, .int (iZ (what))), (3, .int (iZ (bZ (decide (rg na < 0))))), (6, .long (lZ (↑b))), (8, .long (lZ (ee))), (10, .int (iZ (((q : Nat) : Int))))]) hx hb dM_told_192 hl (by decide) rfl (fun ls hl => ?_)
                          refine lv_iload hx hb dM_told_194 (lv_at hl 1 rfl) ?_
                          refine lv_iload_n hx hb dM_told_196 rfl (lv_at hl 5 rfl) ?_
                          refine zr_icmp_eq (tgt := 207) hx hb (by have := bZ_01 (tbz (rg na) q); unfold zi; omega) (by have := bZ_01 (decide (rg na < 0)); unfold zi; omega) dM_told_197 (by decide) (fun c_17 => ?_) (fun c_17 => ?_)
                          · exact absurd (bZ_eq.mp (by assumption)) hdf
                          · refine lv_lload hx hb dM_told_200 (lv_at hl 6 rfl) ?_
                            refine lv_lconst (v := lZ (1)) hx hb dM_told_202 (by decide) ?_
                            refine zr_ladd hx hb dM_told_203 ?_
                            refine lv_goto (tgt := 209) hx hb dM_told_204 (by decide) ?_
                            refine lv_lstore (lv' := [(6, .long (lZ (↑b + 1))), (4, .long (lZ (↑a))), (11, .int (iZ (bZ (tbz (rg na) q)))), (0, .ref (B)), (1, .int (iZ (↑na))), (2, .int (iZ (what))), (3, .int (iZ (bZ (decide (rg na < 0))))), (8, .long (lZ (ee))), (10, .int (iZ (((q : Nat) : Int))))]) hx hb dM_told_209 hl (by decide) rfl (fun ls hl => ?_)
                            refine lv_iload hx hb dM_told_211 (lv_at hl 2 rfl) ?_
                            refine lv_iconst (v := iZ (1)) hx hb dM_told_213 (by decide) ?_
                            refine zr_icmp_ne (tgt := 223) hx hb (by have := bZ_01 (tbz (rg na) q); unfold zi; omega) (by unfold zi; omega) dM_told_214 (by decide) (fun c_18 => ?_) (fun c_18 => ?_)
                            · have hb1 : tbz (rg na) q = false := bZ_f.mp (by have := bZ_01 (tbz (rg na) q); omega)
                              refine lv_lload hx hb dM_told_223 (lv_at hl 7 rfl) ?_
                              refine lv_lstore (lv' := [(8, .long (lZ (ee))), (6, .long (lZ (↑b + 1))), (4, .long (lZ (↑a))), (11, .int (iZ (bZ (tbz (rg na) q)))), (0, .ref (B)), (1, .int (iZ (↑na))), (2, .int (iZ (what))), (3, .int (iZ (bZ (decide (rg na < 0))))), (10, .int (iZ (((q : Nat) : Int))))]) hx hb dM_told_225 hl (by decide) rfl (fun ls hl => ?_)
                              refine lv_iinc (v := iZ (((q : Nat) : Int) - 1)) (lv' := [(10, .int (iZ (((q : Nat) : Int) - 1))), (8, .long (lZ (ee))), (6, .long (lZ (↑b + 1))), (4, .long (lZ (↑a))), (11, .int (iZ (bZ (tbz (rg na) q)))), (0, .ref (B)), (1, .int (iZ (↑na))), (2, .int (iZ (what))), (3, .int (iZ (bZ (decide (rg na < 0)))))]) hx hb dM_told_227 hl (k := 8) rfl (iZ_dec _ _) (by decide) rfl (fun ls hl => ?_)
                              refine lv_goto (tgt := 144) hx hb dM_told_230 (by decide) ?_
                              rw [show (↑a : Int) = ((a : Nat) : Int) from by omega] at hl
                              rw [show (↑b + 1 : Int) = ((b + 1 : Nat) : Int) from by omega] at hl
                              exact ihL144 q a (b + 1) ee w _ _ _ (by omega) (by omega) (TDS_s hTS (by omega) (fun h9 => absurd h9 hdf) (fun _ => ⟨fun h8 => absurd h8 ha0, fun _ => rfl, rfl⟩) (fun h9 => absurd h9 (by rw [hb1]; decide)) (fun _ => rfl)) hMR hdr hpa  hZ hS (lv_sub hl [5, 6, 7, 8, 3, 2, 1, 0] rfl)
                            · have hb1 : tbz (rg na) q = true := bZ_nf.mp (by omega)
                              refine lv_iload hx hb dM_told_217 (lv_at hl 8 rfl) ?_
                              refine zr_i2l hx hb (by unfold zi; omega) dM_told_219 ?_
                              refine lv_goto (tgt := 225) hx hb dM_told_220 (by decide) ?_
                              refine lv_lstore (lv' := [(8, .long (lZ (((q : Nat) : Int)))), (6, .long (lZ (↑b + 1))), (4, .long (lZ (↑a))), (11, .int (iZ (bZ (tbz (rg na) q)))), (0, .ref (B)), (1, .int (iZ (↑na))), (2, .int (iZ (what))), (3, .int (iZ (bZ (decide (rg na < 0))))), (10, .int (iZ (((q : Nat) : Int))))]) hx hb dM_told_225 hl (by decide) rfl (fun ls hl => ?_)
                              refine lv_iinc (v := iZ (((q : Nat) : Int) - 1)) (lv' := [(10, .int (iZ (((q : Nat) : Int) - 1))), (8, .long (lZ (((q : Nat) : Int)))), (6, .long (lZ (↑b + 1))), (4, .long (lZ (↑a))), (11, .int (iZ (bZ (tbz (rg na) q)))), (0, .ref (B)), (1, .int (iZ (↑na))), (2, .int (iZ (what))), (3, .int (iZ (bZ (decide (rg na < 0)))))]) hx hb dM_told_227 hl (k := 8) rfl (iZ_dec _ _) (by decide) rfl (fun ls hl => ?_)
                              refine lv_goto (tgt := 144) hx hb dM_told_230 (by decide) ?_
                              rw [show (↑a : Int) = ((a : Nat) : Int) from by omega] at hl
                              rw [show (↑b + 1 : Int) = ((b + 1 : Nat) : Int) from by omega] at hl
                              exact ihL144 q a (b + 1) ((q : Nat) : Int) w _ _ _ (by omega) (by omega) (TDS_s hTS (by omega) (fun h9 => absurd h9 hdf) (fun _ => ⟨fun h8 => absurd h8 ha0, fun _ => rfl, rfl⟩) (fun _ => rfl) (fun h9 => absurd h9 (by rw [hb1]; decide))) hMR hdr hpa  hZ hS (lv_sub hl [5, 6, 7, 8, 3, 2, 1, 0] rfl)
                        · have ha0 : a = 0 := by omega
                          refine lv_iload hx hb dM_told_182 (lv_at hl 8 rfl) ?_
                          refine lv_iconst (v := iZ (1)) hx hb dM_told_184 (by decide) ?_
                          refine zr_iadd hx hb dM_told_185 ?_
                          refine zr_i2l hx hb (by unfold zi; omega) dM_told_186 ?_
                          refine lv_goto (tgt := 192) hx hb dM_told_187 (by decide) ?_
                          refine lv_lstore (lv' := [(4, .long (lZ (((q : Nat) : Int) + 1))), (11, .int (iZ (bZ (tbz (rg na) q)))), (0, .ref (B)), (1, .int (iZ (↑na))), (2, .int (iZ (what))), (3, .int (iZ (bZ (decide (rg na < 0))))), (6, .long (lZ (↑b))), (8, .long (lZ (ee))), (10, .int (iZ (((q : Nat) : Int))))]) hx hb dM_told_192 hl (by decide) rfl (fun ls hl => ?_)
                          refine lv_iload hx hb dM_told_194 (lv_at hl 1 rfl) ?_
                          refine lv_iload_n hx hb dM_told_196 rfl (lv_at hl 5 rfl) ?_
                          refine zr_icmp_eq (tgt := 207) hx hb (by have := bZ_01 (tbz (rg na) q); unfold zi; omega) (by have := bZ_01 (decide (rg na < 0)); unfold zi; omega) dM_told_197 (by decide) (fun c_19 => ?_) (fun c_19 => ?_)
                          · exact absurd (bZ_eq.mp (by assumption)) hdf
                          · refine lv_lload hx hb dM_told_200 (lv_at hl 6 rfl) ?_
                            refine lv_lconst (v := lZ (1)) hx hb dM_told_202 (by decide) ?_
                            refine zr_ladd hx hb dM_told_203 ?_
                            refine lv_goto (tgt := 209) hx hb dM_told_204 (by decide) ?_
                            refine lv_lstore (lv' := [(6, .long (lZ (↑b + 1))), (4, .long (lZ (((q : Nat) : Int) + 1))), (11, .int (iZ (bZ (tbz (rg na) q)))), (0, .ref (B)), (1, .int (iZ (↑na))), (2, .int (iZ (what))), (3, .int (iZ (bZ (decide (rg na < 0))))), (8, .long (lZ (ee))), (10, .int (iZ (((q : Nat) : Int))))]) hx hb dM_told_209 hl (by decide) rfl (fun ls hl => ?_)
                            refine lv_iload hx hb dM_told_211 (lv_at hl 2 rfl) ?_
                            refine lv_iconst (v := iZ (1)) hx hb dM_told_213 (by decide) ?_
                            refine zr_icmp_ne (tgt := 223) hx hb (by have := bZ_01 (tbz (rg na) q); unfold zi; omega) (by unfold zi; omega) dM_told_214 (by decide) (fun c_20 => ?_) (fun c_20 => ?_)
                            · have hb1 : tbz (rg na) q = false := bZ_f.mp (by have := bZ_01 (tbz (rg na) q); omega)
                              refine lv_lload hx hb dM_told_223 (lv_at hl 7 rfl) ?_
                              refine lv_lstore (lv' := [(8, .long (lZ (ee))), (6, .long (lZ (↑b + 1))), (4, .long (lZ (((q : Nat) : Int) + 1))), (11, .int (iZ (bZ (tbz (rg na) q)))), (0, .ref (B)), (1, .int (iZ (↑na))), (2, .int (iZ (what))), (3, .int (iZ (bZ (decide (rg na < 0))))), (10, .int (iZ (((q : Nat) : Int))))]) hx hb dM_told_225 hl (by decide) rfl (fun ls hl => ?_)
                              refine lv_iinc (v := iZ (((q : Nat) : Int) - 1)) (lv' := [(10, .int (iZ (((q : Nat) : Int) - 1))), (8, .long (lZ (ee))), (6, .long (lZ (↑b + 1))), (4, .long (lZ (((q : Nat) : Int) + 1))), (11, .int (iZ (bZ (tbz (rg na) q)))), (0, .ref (B)), (1, .int (iZ (↑na))), (2, .int (iZ (what))), (3, .int (iZ (bZ (decide (rg na < 0)))))]) hx hb dM_told_227 hl (k := 8) rfl (iZ_dec _ _) (by decide) rfl (fun ls hl => ?_)
                              refine lv_goto (tgt := 144) hx hb dM_told_230 (by decide) ?_
                              rw [show (((q : Nat) : Int) + 1 : Int) = ((q + 1 : Nat) : Int) from by omega] at hl
                              rw [show (↑b + 1 : Int) = ((b + 1 : Nat) : Int) from by omega] at hl
                              exact ihL144 q (q + 1) (b + 1) ee w _ _ _ (by omega) (by omega) (TDS_s hTS (by omega) (fun h9 => absurd h9 hdf) (fun _ => ⟨fun _ => rfl, fun h8 => absurd ha0 h8, rfl⟩) (fun h9 => absurd h9 (by rw [hb1]; decide)) (fun _ => rfl)) hMR hdr hpa  hZ hS (lv_sub hl [5, 6, 7, 8, 3, 2, 1, 0] rfl)
                            · have hb1 : tbz (rg na) q = true := bZ_nf.mp (by omega)
                              refine lv_iload hx hb dM_told_217 (lv_at hl 8 rfl) ?_
                              refine zr_i2l hx hb (by unfold zi; omega) dM_told_219 ?_
                              refine lv_goto (tgt := 225) hx hb dM_told_220 (by decide) ?_
                              refine lv_lstore (lv' := [(8, .long (lZ (((q : Nat) : Int)))), (6, .long (lZ (↑b + 1))), (4, .long (lZ (((q : Nat) : Int) + 1))), (11, .int (iZ (bZ (tbz (rg na) q)))), (0, .ref (B)), (1, .int (iZ (↑na))), (2, .int (iZ (what))), (3, .int (iZ (bZ (decide (rg na < 0))))), (10, .int (iZ (((q : Nat) : Int))))]) hx hb dM_told_225 hl (by decide) rfl (fun ls hl => ?_)
                              refine lv_iinc (v := iZ (((q : Nat) : Int) - 1)) (lv' := [(10, .int (iZ (((q : Nat) : Int) - 1))), (8, .long (lZ (((q : Nat) : Int)))), (6, .long (lZ (↑b + 1))), (4, .long (lZ (((q : Nat) : Int) + 1))), (11, .int (iZ (bZ (tbz (rg na) q)))), (0, .ref (B)), (1, .int (iZ (↑na))), (2, .int (iZ (what))), (3, .int (iZ (bZ (decide (rg na < 0)))))]) hx hb dM_told_227 hl (k := 8) rfl (iZ_dec _ _) (by decide) rfl (fun ls hl => ?_)
                              refine lv_goto (tgt := 144) hx hb dM_told_230 (by decide) ?_
                              rw [show (((q : Nat) : Int) + 1 : Int) = ((q + 1 : Nat) : Int) from by omega] at hl
                              rw [show (↑b + 1 : Int) = ((b + 1 : Nat) : Int) from by omega] at hl
                              exact ihL144 q (q + 1) (b + 1) ((q : Nat) : Int) w _ _ _ (by omega) (by omega) (TDS_s hTS (by omega) (fun h9 => absurd h9 hdf) (fun _ => ⟨fun _ => rfl, fun h8 => absurd ha0 h8, rfl⟩) (fun _ => rfl) (fun h9 => absurd h9 (by rw [hb1]; decide))) hMR hdr hpa  hZ hS (lv_sub hl [5, 6, 7, 8, 3, 2, 1, 0] rfl)
                rw [show (2047 : Int) = ((2048 : Nat) : Int) - 1 from rfl] at hl
                exact L144 _ 2048 0 0 (-1) w0 _ _ _ (Nat.lt_succ_self _) (by decide) (TDS_0 hXa) hMR hdr hpa  hZ hS (lv_sub hl [5, 6, 7, 4, 3, 2, 1, 0] rfl)
              · refine lv_iconst (v := iZ (1)) hx hb dM_told_122 (by decide) ?_
                refine lv_goto (tgt := 127) hx hb dM_told_123 (by decide) ?_
                refine zc_i (y := iZ (bZ (decide (rg na < 0)))) (congrArg iZ (by rw [show decide (rg na < 0) = true from bZ_nf.mp (by assumption)]; rfl)) ?_
                refine lv_istore_n (lv' := [(3, .int (iZ (bZ (decide (rg na < 0))))), (0, .ref (B)), (1, .int (iZ (↑na))), (2, .int (iZ (what)))]) hx hb dM_told_127 rfl hl (by decide) rfl (fun ls hl => ?_)
                refine lv_lconst (v := lZ (0)) hx hb dM_told_128 (by decide) ?_
                refine zc_l (y := lZ ((0 : Nat) : Int)) rfl ?_
                refine lv_lstore (lv' := [(4, .long (lZ (((0 : Nat) : Int)))), (3, .int (iZ (bZ (decide (rg na < 0))))), (0, .ref (B)), (1, .int (iZ (↑na))), (2, .int (iZ (what)))]) hx hb dM_told_129 hl (by decide) rfl (fun ls hl => ?_)
                refine lv_lconst (v := lZ (0)) hx hb dM_told_131 (by decide) ?_
                refine zc_l (y := lZ ((0 : Nat) : Int)) rfl ?_
                refine lv_lstore (lv' := [(6, .long (lZ (((0 : Nat) : Int)))), (4, .long (lZ (((0 : Nat) : Int)))), (3, .int (iZ (bZ (decide (rg na < 0))))), (0, .ref (B)), (1, .int (iZ (↑na))), (2, .int (iZ (what)))]) hx hb dM_told_132 hl (by decide) rfl (fun ls hl => ?_)
                refine lv_ldc2 (v := lZ (-1)) hx hb hown (ht _ tw_895) dM_told_134 ?_
                refine lv_lstore (lv' := [(8, .long (lZ (-1))), (6, .long (lZ (((0 : Nat) : Int)))), (4, .long (lZ (((0 : Nat) : Int)))), (3, .int (iZ (bZ (decide (rg na < 0))))), (0, .ref (B)), (1, .int (iZ (↑na))), (2, .int (iZ (what)))]) hx hb dM_told_137 hl (by decide) rfl (fun ls hl => ?_)
                refine lv_sipush (v := iZ (2047)) hx hb dM_told_139 (by decide) ?_
                refine lv_istore (lv' := [(10, .int (iZ (2047))), (8, .long (lZ (-1))), (6, .long (lZ (((0 : Nat) : Int)))), (4, .long (lZ (((0 : Nat) : Int)))), (3, .int (iZ (bZ (decide (rg na < 0))))), (0, .ref (B)), (1, .int (iZ (↑na))), (2, .int (iZ (what)))]) hx hb dM_told_142 hl (by decide) rfl (fun ls hl => ?_)
                have L144 : ∀ (fu : Nat) (n : Nat) (a : Nat) (b : Nat) (ee : Int) (w : Nat → Nat → Nat) (H : Heap) (locs : List Loc) (ls : Array Slot), n < fu → (n ≤ 2048) → (TDS (rg na) n a b ee) → (MR w rg) → (∀ i, i < ct → w 1 i = f i) → (∀ i, i < 2049 - st → w 14 i = g (st + i)) → zMD E B w (0, fa, ct, be, fb, sb9, (2049 - st)) H → va_S (zA B 15) s.heap H locs → lv_has ls 12 [(0, .ref (B)), (1, .int (iZ (↑na))), (2, .int (iZ (what))), (3, .int (iZ (bZ (decide (rg na < 0))))), (4, .long (lZ (↑a))), (6, .long (lZ (↑b))), (8, .long (lZ (ee))), (10, .int (iZ (↑n - 1)))] → W p l e R s m args below meth c H locs 0 0 Q (F0 m 144 ls []) := by
                  intro fu
                  induction fu with
                  | zero => intro n a b ee w H locs ls hm; exact absurd hm (Nat.not_lt_zero _)
                  | succ fu ihL144 =>
                    intro n a b ee w H locs ls hm hn hTS hMR hdr hpa hZ hS hl
                    have hTa := hTS.ha
                    have hTb := hTS.hb
                    have hTe := hTS.he
                    refine lv_iload hx hb dM_told_144 (lv_at hl 7 rfl) ?_
                    refine zr_if_lt (tgt := 233) hx hb (by unfold zi; omega) dM_told_146 (by decide) (fun c_21 => ?_) (fun c_21 => ?_)
                    · have hn0 : n = 0 := by omega
                      rw [hn0] at hTS
                      obtain ⟨hE1, hE2, hE3, hE4⟩ := TDS_end hXa hTS
                      refine lv_iload_n hx hb dM_told_233 rfl (lv_at hl 2 rfl) ?_
                      refine lv_iconst (v := iZ (2)) hx hb dM_told_234 (by decide) ?_
                      refine zr_icmp_ne (tgt := 243) hx hb hz_what (by unfold zi; omega) dM_told_235 (by decide) (fun c_22 => ?_) (fun c_22 => ?_)
                      · refine lv_iload_n hx hb dM_told_243 rfl (lv_at hl 2 rfl) ?_
                        refine lv_iconst (v := iZ (3)) hx hb dM_told_244 (by decide) ?_
                        refine zr_icmp_ne (tgt := 253) hx hb hz_what (by unfold zi; omega) dM_told_245 (by decide) (fun c_23 => ?_) (fun c_23 => ?_)
                        · refine lv_lload hx hb dM_told_253 (lv_at hl 6 rfl) ?_
                          exact hend 255 _ () _ _ _ dM_told_255 (fun _ => tld_of 4 (by omega) ⟨fun h => absurd h (by decide), fun h => absurd h (by decide), fun h => absurd h (by decide), fun h => absurd h (by decide), fun _ => ⟨fun h => congrArg lZ (hE3 h), fun h => (hE4 h).imp fun t ht => ⟨ht.1, congrArg lZ ht.2⟩⟩⟩) (by rcases SP_g hsp ⟨hk_na, h0w⟩ with ⟨_, h, _⟩ | ⟨_, h, _⟩ | ⟨hk, hs⟩; exact h.elim; exact h.elim; subst hk; subst hs; exact ⟨hok1, w, (0, fa, ct, be, fb, sb9, (2049 - st)), hZ, ⟨hMR, rfl, hdr, rfl, hpa⟩, rfl⟩) hS
                        · refine lv_lload hx hb dM_told_248 (lv_at hl 5 rfl) ?_
                          refine lv_goto (tgt := 255) hx hb dM_told_250 (by decide) ?_
                          exact hend 255 _ () _ _ _ dM_told_255 (fun _ => tld_of 3 (by omega) ⟨fun h => absurd h (by decide), fun h => absurd h (by decide), fun h => absurd h (by decide), fun _ => congrArg (fun q : Nat => lZ q) hE2, fun h => absurd h (by decide)⟩) (by rcases SP_g hsp ⟨hk_na, h0w⟩ with ⟨_, h, _⟩ | ⟨_, h, _⟩ | ⟨hk, hs⟩; exact h.elim; exact h.elim; subst hk; subst hs; exact ⟨hok1, w, (0, fa, ct, be, fb, sb9, (2049 - st)), hZ, ⟨hMR, rfl, hdr, rfl, hpa⟩, rfl⟩) hS
                      · refine lv_lload hx hb dM_told_238 (lv_at hl 4 rfl) ?_
                        refine lv_goto (tgt := 255) hx hb dM_told_240 (by decide) ?_
                        exact hend 255 _ () _ _ _ dM_told_255 (fun _ => tld_of 2 (by omega) ⟨fun h => absurd h (by decide), fun h => absurd h (by decide), fun _ => ⟨a, hE1, rfl⟩, fun h => absurd h (by decide), fun h => absurd h (by decide)⟩) (by rcases SP_g hsp ⟨hk_na, h0w⟩ with ⟨_, h, _⟩ | ⟨_, h, _⟩ | ⟨hk, hs⟩; exact h.elim; exact h.elim; subst hk; subst hs; exact ⟨hok1, w, (0, fa, ct, be, fb, sb9, (2049 - st)), hZ, ⟨hMR, rfl, hdr, rfl, hpa⟩, rfl⟩) hS
                    · obtain ⟨q, rfl⟩ : ∃ q, n = q + 1 := ⟨n - 1, by omega⟩
                      rw [show (((q + 1 : Nat) : Int) - 1) = ((q : Nat) : Int) from by omega] at hl
                      refine lv_aload_n hx hb dM_told_149 rfl (lv_at hl 0 rfl) ?_
                      refine lv_iload_n hx hb dM_told_150 rfl (lv_at hl 1 rfl) ?_
                      refine lv_iload hx hb dM_told_151 (lv_at hl 7 rfl) ?_
                      refine lv_bipush (v := iZ (16)) hx hb dM_told_153 (by decide) ?_
                      refine zr_idiv hx hb (by unfold zi; omega) (by unfold zi; omega) (by omega) (by omega) dM_told_155 ?_
                      refine zc_i (y := iZ ((q / 16 : Nat) : Int)) (congrArg iZ (by omega)) ?_
                      refine zcV_i (P' := fun (u : (Nat → Nat → Nat) × zC) H => zMD E B u.1 u.2 H) 2 (As := [.int (iZ (↑na)), .int (iZ (((q / 16 : Nat) : Int)))]) (rest := []) rfl ⟨hx, hb, hml, hown, ht⟩ (mM_limb l E B w (0, fa, ct, be, fb, sb9, (2049 - st)) rg ct f st g hMR hdr hpa na h10_na (hok.1 na h10_na) (q / 16) (by omega)) tw_876 tw_873 tw_875 tp_23 tw_6 qM_limb (by rw [hR]; decide) (zm_recv hK hZ) hZ hK hl.1 rfl rfl (Nat.le_of_ble_eq_true rfl) dM_told_156 ⟨Nat.zero_le _, Nat.zero_le _⟩ hS (fun r9 u H locs hp hZ _ hS => ?_)
                      obtain ⟨_, hu9, hr1⟩ := hp
                      subst hr1
                      rw [hu9] at hZ
                      dsimp only at hZ
                      clear hu9
                      refine lv_iload hx hb dM_told_159 (lv_at hl 7 rfl) ?_
                      refine lv_bipush (v := iZ (16)) hx hb dM_told_161 (by decide) ?_
                      refine zr_irem hx hb (by unfold zi; omega) (by unfold zi; omega) (by omega) (by omega) dM_told_163 ?_
                      refine zc_i (y := iZ (((q) % 16 : Nat) : Int)) (congrArg iZ (by omega)) ?_
                      have htl := tl_lt (rg na) (q / 16)
                      refine zr_ishr hx hb (by omega) (by omega) dM_told_164 ?_
                      refine lv_iconst (v := iZ (1)) hx hb dM_told_165 (by decide) ?_
                      have hle9 := Nat.div_le_self (tl (rg na) (q / 16)) (2 ^ ((q) % 16))
                      refine zr_iand hx hb 1 (by omega) rfl dM_told_166 ?_
                      rw [show (2 : Nat) ^ 1 = 2 from rfl]
                      refine zc_i (y := iZ (bZ (tbz (rg na) q))) (congrArg iZ (by rw [tl_bit]; exact bN_tb _)) ?_
                      refine lv_istore (lv' := [(11, .int (iZ (bZ (tbz (rg na) q)))), (0, .ref (B)), (1, .int (iZ (↑na))), (2, .int (iZ (what))), (3, .int (iZ (bZ (decide (rg na < 0))))), (4, .long (lZ (↑a))), (6, .long (lZ (↑b))), (8, .long (lZ (ee))), (10, .int (iZ (((q : Nat) : Int))))]) hx hb dM_told_167 hl (by decide) rfl (fun ls hl => ?_)
                      refine lv_iload hx hb dM_told_169 (lv_at hl 0 rfl) ?_
                      refine lv_iload_n hx hb dM_told_171 rfl (lv_at hl 4 rfl) ?_
                      refine zr_icmp_eq (tgt := 190) hx hb (by have := bZ_01 (tbz (rg na) q); unfold zi; omega) (by have := bZ_01 (decide (rg na < 0)); unfold zi; omega) dM_told_172 (by decide) (fun c_24 => ?_) (fun c_24 => ?_)
                      · have heq : tbz (rg na) q = decide (rg na < 0) := bZ_eq.mp (by assumption)
                        refine lv_lload hx hb dM_told_190 (lv_at hl 5 rfl) ?_
                        refine lv_lstore (lv' := [(4, .long (lZ (↑a))), (11, .int (iZ (bZ (tbz (rg na) q)))), (0, .ref (B)), (1, .int (iZ (↑na))), (2, .int (iZ (what))), (3, .int (iZ (bZ (decide (rg na < 0))))), (6, .long (lZ (↑b))), (8, .long (lZ (ee))), (10, .int (iZ (((q : Nat) : Int))))]) hx hb dM_told_192 hl (by decide) rfl (fun ls hl => ?_)
                        refine lv_iload hx hb dM_told_194 (lv_at hl 1 rfl) ?_
                        refine lv_iload_n hx hb dM_told_196 rfl (lv_at hl 5 rfl) ?_
                        refine zr_icmp_eq (tgt := 207) hx hb (by have := bZ_01 (tbz (rg na) q); unfold zi; omega) (by have := bZ_01 (decide (rg na < 0)); unfold zi; omega) dM_told_197 (by decide) (fun c_25 => ?_) (fun c_25 => ?_)
                        · refine lv_lload hx hb dM_told_207 (lv_at hl 6 rfl) ?_
                          refine lv_lstore (lv' := [(6, .long (lZ (↑b))), (4, .long (lZ (↑a))), (11, .int (iZ (bZ (tbz (rg na) q)))), (0, .ref (B)), (1, .int (iZ (↑na))), (2, .int (iZ (what))), (3, .int (iZ (bZ (decide (rg na < 0))))), (8, .long (lZ (ee))), (10, .int (iZ (((q : Nat) : Int))))]) hx hb dM_told_209 hl (by decide) rfl (fun ls hl => ?_)
                          refine lv_iload hx hb dM_told_211 (lv_at hl 2 rfl) ?_
                          refine lv_iconst (v := iZ (1)) hx hb dM_told_213 (by decide) ?_
                          refine zr_icmp_ne (tgt := 223) hx hb (by have := bZ_01 (tbz (rg na) q); unfold zi; omega) (by unfold zi; omega) dM_told_214 (by decide) (fun c_26 => ?_) (fun c_26 => ?_)
                          · have hb1 : tbz (rg na) q = false := bZ_f.mp (by have := bZ_01 (tbz (rg na) q); omega)
                            refine lv_lload hx hb dM_told_223 (lv_at hl 7 rfl) ?_
                            refine lv_lstore (lv' := [(8, .long (lZ (ee))), (6, .long (lZ (↑b))), (4, .long (lZ (↑a))), (11, .int (iZ (bZ (tbz (rg na) q)))), (0, .ref (B)), (1, .int (iZ (↑na))), (2, .int (iZ (what))), (3, .int (iZ (bZ (decide (rg na < 0))))), (10, .int (iZ (((q : Nat) : Int))))]) hx hb dM_told_225 hl (by decide) rfl (fun ls hl => ?_)
                            refine lv_iinc (v := iZ (((q : Nat) : Int) - 1)) (lv' := [(10, .int (iZ (((q : Nat) : Int) - 1))), (8, .long (lZ (ee))), (6, .long (lZ (↑b))), (4, .long (lZ (↑a))), (11, .int (iZ (bZ (tbz (rg na) q)))), (0, .ref (B)), (1, .int (iZ (↑na))), (2, .int (iZ (what))), (3, .int (iZ (bZ (decide (rg na < 0)))))]) hx hb dM_told_227 hl (k := 8) rfl (iZ_dec _ _) (by decide) rfl (fun ls hl => ?_)
                            refine lv_goto (tgt := 144) hx hb dM_told_230 (by decide) ?_
                            rw [show (↑a : Int) = ((a : Nat) : Int) from by omega] at hl
                            rw [show (↑b : Int) = ((b : Nat) : Int) from by omega] at hl
                            exact ihL144 q a b ee w _ _ _ (by omega) (by omega) (TDS_s hTS (by omega) (fun _ => ⟨rfl, rfl⟩) (fun h9 => absurd heq h9) (fun h9 => absurd h9 (by rw [hb1]; decide)) (fun _ => rfl)) hMR hdr hpa  hZ hS (lv_sub hl [5, 6, 7, 8, 3, 2, 1, 0] rfl)
                          · have hb1 : tbz (rg na) q = true := bZ_nf.mp (by omega)
                            refine lv_iload hx hb dM_told_217 (lv_at hl 8 rfl) ?_
                            refine zr_i2l hx hb (by unfold zi; omega) dM_told_219 ?_
                            refine lv_goto (tgt := 225) hx hb dM_told_220 (by decide) ?_
                            refine lv_lstore (lv' := [(8, .long (lZ (((q : Nat) : Int)))), (6, .long (lZ (↑b))), (4, .long (lZ (↑a))), (11, .int (iZ (bZ (tbz (rg na) q)))), (0, .ref (B)), (1, .int (iZ (↑na))), (2, .int (iZ (what))), (3, .int (iZ (bZ (decide (rg na < 0))))), (10, .int (iZ (((q : Nat) : Int))))]) hx hb dM_told_225 hl (by decide) rfl (fun ls hl => ?_)
                            refine lv_iinc (v := iZ (((q : Nat) : Int) - 1)) (lv' := [(10, .int (iZ (((q : Nat) : Int) - 1))), (8, .long (lZ (((q : Nat) : Int)))), (6, .long (lZ (↑b))), (4, .long (lZ (↑a))), (11, .int (iZ (bZ (tbz (rg na) q)))), (0, .ref (B)), (1, .int (iZ (↑na))), (2, .int (iZ (what))), (3, .int (iZ (bZ (decide (rg na < 0)))))]) hx hb dM_told_227 hl (k := 8) rfl (iZ_dec _ _) (by decide) rfl (fun ls hl => ?_)
                            refine lv_goto (tgt := 144) hx hb dM_told_230 (by decide) ?_
                            rw [show (↑a : Int) = ((a : Nat) : Int) from by omega] at hl
                            rw [show (↑b : Int) = ((b : Nat) : Int) from by omega] at hl
                            exact ihL144 q a b ((q : Nat) : Int) w _ _ _ (by omega) (by omega) (TDS_s hTS (by omega) (fun _ => ⟨rfl, rfl⟩) (fun h9 => absurd heq h9) (fun _ => rfl) (fun h9 => absurd h9 (by rw [hb1]; decide))) hMR hdr hpa  hZ hS (lv_sub hl [5, 6, 7, 8, 3, 2, 1, 0] rfl)
                        · exact absurd (bZ_eq.mpr heq) (by assumption)
                      · have hdf : tbz (rg na) q ≠ decide (rg na < 0) := fun h9 => absurd (bZ_eq.mpr h9) (by assumption)
                        refine lv_lload hx hb dM_told_175 (lv_at hl 5 rfl) ?_
                        refine lv_lconst (v := lZ (0)) hx hb dM_told_177 (by decide) ?_
                        refine zr_lcmp_ne (tgt := 190) hx hb (by unfold zl; omega) (by unfold zl; omega) dM_told_178 dM_told_179 (by decide) (fun c_27 => ?_) (fun c_27 => ?_)
                        · have ha0 : a ≠ 0 := by omega
                          refine lv_lload hx hb dM_told_190 (lv_at hl 5 rfl) ?_
                          refine lv_lstore (lv' := [(4, .long (lZ (↑a))), (11, .int (iZ (bZ (tbz (rg na) q)))), (0, .ref (B)), (1, .int (iZ (↑na))), (2, .int (iZ (what))), (3, .int (iZ (bZ (decide (rg na < 0))))), (6, .long (lZ (↑b))), (8, .long (lZ (ee))), (10, .int (iZ (((q : Nat) : Int))))]) hx hb dM_told_192 hl (by decide) rfl (fun ls hl => ?_)
                          refine lv_iload hx hb dM_told_194 (lv_at hl 1 rfl) ?_
                          refine lv_iload_n hx hb dM_told_196 rfl (lv_at hl 5 rfl) ?_
                          refine zr_icmp_eq (tgt := 207) hx hb (by have := bZ_01 (tbz (rg na) q); unfold zi; omega) (by have := bZ_01 (decide (rg na < 0)); unfold zi; omega) dM_told_197 (by decide) (fun c_28 => ?_) (fun c_28 => ?_)
                          · exact absurd (bZ_eq.mp (by assumption)) hdf
                          · refine lv_lload hx hb dM_told_200 (lv_at hl 6 rfl) ?_
                            refine lv_lconst (v := lZ (1)) hx hb dM_told_202 (by decide) ?_
                            refine zr_ladd hx hb dM_told_203 ?_
                            refine lv_goto (tgt := 209) hx hb dM_told_204 (by decide) ?_
                            refine lv_lstore (lv' := [(6, .long (lZ (↑b + 1))), (4, .long (lZ (↑a))), (11, .int (iZ (bZ (tbz (rg na) q)))), (0, .ref (B)), (1, .int (iZ (↑na))), (2, .int (iZ (what))), (3, .int (iZ (bZ (decide (rg na < 0))))), (8, .long (lZ (ee))), (10, .int (iZ (((q : Nat) : Int))))]) hx hb dM_told_209 hl (by decide) rfl (fun ls hl => ?_)
                            refine lv_iload hx hb dM_told_211 (lv_at hl 2 rfl) ?_
                            refine lv_iconst (v := iZ (1)) hx hb dM_told_213 (by decide) ?_
                            refine zr_icmp_ne (tgt := 223) hx hb (by have := bZ_01 (tbz (rg na) q); unfold zi; omega) (by unfold zi; omega) dM_told_214 (by decide) (fun c_29 => ?_) (fun c_29 => ?_)
                            · have hb1 : tbz (rg na) q = false := bZ_f.mp (by have := bZ_01 (tbz (rg na) q); omega)
                              refine lv_lload hx hb dM_told_223 (lv_at hl 7 rfl) ?_
                              refine lv_lstore (lv' := [(8, .long (lZ (ee))), (6, .long (lZ (↑b + 1))), (4, .long (lZ (↑a))), (11, .int (iZ (bZ (tbz (rg na) q)))), (0, .ref (B)), (1, .int (iZ (↑na))), (2, .int (iZ (what))), (3, .int (iZ (bZ (decide (rg na < 0))))), (10, .int (iZ (((q : Nat) : Int))))]) hx hb dM_told_225 hl (by decide) rfl (fun ls hl => ?_)
                              refine lv_iinc (v := iZ (((q : Nat) : Int) - 1)) (lv' := [(10, .int (iZ (((q : Nat) : Int) - 1))), (8, .long (lZ (ee))), (6, .long (lZ (↑b + 1))), (4, .long (lZ (↑a))), (11, .int (iZ (bZ (tbz (rg na) q)))), (0, .ref (B)), (1, .int (iZ (↑na))), (2, .int (iZ (what))), (3, .int (iZ (bZ (decide (rg na < 0)))))]) hx hb dM_told_227 hl (k := 8) rfl (iZ_dec _ _) (by decide) rfl (fun ls hl => ?_)
                              refine lv_goto (tgt := 144) hx hb dM_told_230 (by decide) ?_
                              rw [show (↑a : Int) = ((a : Nat) : Int) from by omega] at hl
                              rw [show (↑b + 1 : Int) = ((b + 1 : Nat) : Int) from by omega] at hl
                              exact ihL144 q a (b + 1) ee w _ _ _ (by omega) (by omega) (TDS_s hTS (by omega) (fun h9 => absurd h9 hdf) (fun _ => ⟨fun h8 => absurd h8 ha0, fun _ => rfl, rfl⟩) (fun h9 => absurd h9 (by rw [hb1]; decide)) (fun _ => rfl)) hMR hdr hpa  hZ hS (lv_sub hl [5, 6, 7, 8, 3, 2, 1, 0] rfl)
                            · have hb1 : tbz (rg na) q = true := bZ_nf.mp (by omega)
                              refine lv_iload hx hb dM_told_217 (lv_at hl 8 rfl) ?_
                              refine zr_i2l hx hb (by unfold zi; omega) dM_told_219 ?_
                              refine lv_goto (tgt := 225) hx hb dM_told_220 (by decide) ?_
                              refine lv_lstore (lv' := [(8, .long (lZ (((q : Nat) : Int)))), (6, .long (lZ (↑b + 1))), (4, .long (lZ (↑a))), (11, .int (iZ (bZ (tbz (rg na) q)))), (0, .ref (B)), (1, .int (iZ (↑na))), (2, .int (iZ (what))), (3, .int (iZ (bZ (decide (rg na < 0))))), (10, .int (iZ (((q : Nat) : Int))))]) hx hb dM_told_225 hl (by decide) rfl (fun ls hl => ?_)
                              refine lv_iinc (v := iZ (((q : Nat) : Int) - 1)) (lv' := [(10, .int (iZ (((q : Nat) : Int) - 1))), (8, .long (lZ (((q : Nat) : Int)))), (6, .long (lZ (↑b + 1))), (4, .long (lZ (↑a))), (11, .int (iZ (bZ (tbz (rg na) q)))), (0, .ref (B)), (1, .int (iZ (↑na))), (2, .int (iZ (what))), (3, .int (iZ (bZ (decide (rg na < 0)))))]) hx hb dM_told_227 hl (k := 8) rfl (iZ_dec _ _) (by decide) rfl (fun ls hl => ?_)
                              refine lv_goto (tgt := 144) hx hb dM_told_230 (by decide) ?_
                              rw [show (↑a : Int) = ((a : Nat) : Int) from by omega] at hl
                              rw [show (↑b + 1 : Int) = ((b + 1 : Nat) : Int) from by omega] at hl
                              exact ihL144 q a (b + 1) ((q : Nat) : Int) w _ _ _ (by omega) (by omega) (TDS_s hTS (by omega) (fun h9 => absurd h9 hdf) (fun _ => ⟨fun h8 => absurd h8 ha0, fun _ => rfl, rfl⟩) (fun _ => rfl) (fun h9 => absurd h9 (by rw [hb1]; decide))) hMR hdr hpa  hZ hS (lv_sub hl [5, 6, 7, 8, 3, 2, 1, 0] rfl)
                        · have ha0 : a = 0 := by omega
                          refine lv_iload hx hb dM_told_182 (lv_at hl 8 rfl) ?_
                          refine lv_iconst (v := iZ (1)) hx hb dM_told_184 (by decide) ?_
                          refine zr_iadd hx hb dM_told_185 ?_
                          refine zr_i2l hx hb (by unfold zi; omega) dM_told_186 ?_
                          refine lv_goto (tgt := 192) hx hb dM_told_187 (by decide) ?_
                          refine lv_lstore (lv' := [(4, .long (lZ (((q : Nat) : Int) + 1))), (11, .int (iZ (bZ (tbz (rg na) q)))), (0, .ref (B)), (1, .int (iZ (↑na))), (2, .int (iZ (what))), (3, .int (iZ (bZ (decide (rg na < 0))))), (6, .long (lZ (↑b))), (8, .long (lZ (ee))), (10, .int (iZ (((q : Nat) : Int))))]) hx hb dM_told_192 hl (by decide) rfl (fun ls hl => ?_)
                          refine lv_iload hx hb dM_told_194 (lv_at hl 1 rfl) ?_
                          refine lv_iload_n hx hb dM_told_196 rfl (lv_at hl 5 rfl) ?_
                          refine zr_icmp_eq (tgt := 207) hx hb (by have := bZ_01 (tbz (rg na) q); unfold zi; omega) (by have := bZ_01 (decide (rg na < 0)); unfold zi; omega) dM_told_197 (by decide) (fun c_30 => ?_) (fun c_30 => ?_)
                          · exact absurd (bZ_eq.mp (by assumption)) hdf
                          · refine lv_lload hx hb dM_told_200 (lv_at hl 6 rfl) ?_
                            refine lv_lconst (v := lZ (1)) hx hb dM_told_202 (by decide) ?_
                            refine zr_ladd hx hb dM_told_203 ?_
                            refine lv_goto (tgt := 209) hx hb dM_told_204 (by decide) ?_
                            refine lv_lstore (lv' := [(6, .long (lZ (↑b + 1))), (4, .long (lZ (((q : Nat) : Int) + 1))), (11, .int (iZ (bZ (tbz (rg na) q)))), (0, .ref (B)), (1, .int (iZ (↑na))), (2, .int (iZ (what))), (3, .int (iZ (bZ (decide (rg na < 0))))), (8, .long (lZ (ee))), (10, .int (iZ (((q : Nat) : Int))))]) hx hb dM_told_209 hl (by decide) rfl (fun ls hl => ?_)
                            refine lv_iload hx hb dM_told_211 (lv_at hl 2 rfl) ?_
                            refine lv_iconst (v := iZ (1)) hx hb dM_told_213 (by decide) ?_
                            refine zr_icmp_ne (tgt := 223) hx hb (by have := bZ_01 (tbz (rg na) q); unfold zi; omega) (by unfold zi; omega) dM_told_214 (by decide) (fun c_31 => ?_) (fun c_31 => ?_)
                            · have hb1 : tbz (rg na) q = false := bZ_f.mp (by have := bZ_01 (tbz (rg na) q); omega)
                              refine lv_lload hx hb dM_told_223 (lv_at hl 7 rfl) ?_
                              refine lv_lstore (lv' := [(8, .long (lZ (ee))), (6, .long (lZ (↑b + 1))), (4, .long (lZ (((q : Nat) : Int) + 1))), (11, .int (iZ (bZ (tbz (rg na) q)))), (0, .ref (B)), (1, .int (iZ (↑na))), (2, .int (iZ (what))), (3, .int (iZ (bZ (decide (rg na < 0))))), (10, .int (iZ (((q : Nat) : Int))))]) hx hb dM_told_225 hl (by decide) rfl (fun ls hl => ?_)
                              refine lv_iinc (v := iZ (((q : Nat) : Int) - 1)) (lv' := [(10, .int (iZ (((q : Nat) : Int) - 1))), (8, .long (lZ (ee))), (6, .long (lZ (↑b + 1))), (4, .long (lZ (((q : Nat) : Int) + 1))), (11, .int (iZ (bZ (tbz (rg na) q)))), (0, .ref (B)), (1, .int (iZ (↑na))), (2, .int (iZ (what))), (3, .int (iZ (bZ (decide (rg na < 0)))))]) hx hb dM_told_227 hl (k := 8) rfl (iZ_dec _ _) (by decide) rfl (fun ls hl => ?_)
                              refine lv_goto (tgt := 144) hx hb dM_told_230 (by decide) ?_
                              rw [show (((q : Nat) : Int) + 1 : Int) = ((q + 1 : Nat) : Int) from by omega] at hl
                              rw [show (↑b + 1 : Int) = ((b + 1 : Nat) : Int) from by omega] at hl
                              exact ihL144 q (q + 1) (b + 1) ee w _ _ _ (by omega) (by omega) (TDS_s hTS (by omega) (fun h9 => absurd h9 hdf) (fun _ => ⟨fun _ => rfl, fun h8 => absurd ha0 h8, rfl⟩) (fun h9 => absurd h9 (by rw [hb1]; decide)) (fun _ => rfl)) hMR hdr hpa  hZ hS (lv_sub hl [5, 6, 7, 8, 3, 2, 1, 0] rfl)
                            · have hb1 : tbz (rg na) q = true := bZ_nf.mp (by omega)
                              refine lv_iload hx hb dM_told_217 (lv_at hl 8 rfl) ?_
                              refine zr_i2l hx hb (by unfold zi; omega) dM_told_219 ?_
                              refine lv_goto (tgt := 225) hx hb dM_told_220 (by decide) ?_
                              refine lv_lstore (lv' := [(8, .long (lZ (((q : Nat) : Int)))), (6, .long (lZ (↑b + 1))), (4, .long (lZ (((q : Nat) : Int) + 1))), (11, .int (iZ (bZ (tbz (rg na) q)))), (0, .ref (B)), (1, .int (iZ (↑na))), (2, .int (iZ (what))), (3, .int (iZ (bZ (decide (rg na < 0))))), (10, .int (iZ (((q : Nat) : Int))))]) hx hb dM_told_225 hl (by decide) rfl (fun ls hl => ?_)
                              refine lv_iinc (v := iZ (((q : Nat) : Int) - 1)) (lv' := [(10, .int (iZ (((q : Nat) : Int) - 1))), (8, .long (lZ (((q : Nat) : Int)))), (6, .long (lZ (↑b + 1))), (4, .long (lZ (((q : Nat) : Int) + 1))), (11, .int (iZ (bZ (tbz (rg na) q)))), (0, .ref (B)), (1, .int (iZ (↑na))), (2, .int (iZ (what))), (3, .int (iZ (bZ (decide (rg na < 0)))))]) hx hb dM_told_227 hl (k := 8) rfl (iZ_dec _ _) (by decide) rfl (fun ls hl => ?_)
                              refine lv_goto (tgt := 144) hx hb dM_told_230 (by decide) ?_
                              rw [show (((q : Nat) : Int) + 1 : Int) = ((q + 1 : Nat) : Int) from by omega] at hl
                              rw [show (↑b + 1 : Int) = ((b + 1 : Nat) : Int) from by omega] at hl
                              exact ihL144 q (q + 1) (b + 1) ((q : Nat) : Int) w _ _ _ (by omega) (by omega) (TDS_s hTS (by omega) (fun h9 => absurd h9 hdf) (fun _ => ⟨fun _ => rfl, fun h8 => absurd ha0 h8, rfl⟩) (fun _ => rfl) (fun h9 => absurd h9 (by rw [hb1]; decide))) hMR hdr hpa  hZ hS (lv_sub hl [5, 6, 7, 8, 3, 2, 1, 0] rfl)
                rw [show (2047 : Int) = ((2048 : Nat) : Int) - 1 from rfl] at hl
                exact L144 _ 2048 0 0 (-1) w0 _ _ _ (Nat.lt_succ_self _) (by decide) (TDS_0 hXa) hMR hdr hpa  hZ hS (lv_sub hl [5, 6, 7, 4, 3, 2, 1, 0] rfl)
            · refine lv_aload_n hx hb dM_told_84 rfl (lv_at hl 0 rfl) ?_
              refine lv_iload_n hx hb dM_told_85 rfl (lv_at hl 1 rfl) ?_
              refine zcV_i (P' := fun (u : (Nat → Nat → Nat) × zC) H => zMD E B u.1 u.2 H) 1 (As := [.int (iZ (↑na))]) (rest := []) rfl ⟨hx, hb, hml, hown, ht⟩ (mM_isZero l E B w0 (0, fa, ct, be, fb, sb9, (2049 - st)) na h10_na) tw_820 tw_817 tw_819 tp_16 tw_6 qM_isZero (by rw [hR]; decide) (zm_recv hK hZ) hZ hK hl.1 rfl rfl (Nat.le_of_ble_eq_true rfl) dM_told_86 ⟨Nat.zero_le _, Nat.zero_le _⟩ hS (fun r9 u H locs hp hZ _ hS => ?_)
              obtain ⟨hu9, bz, hr1, hbz⟩ := hp
              subst hr1
              rw [hu9] at hZ
              dsimp only at hZ
              clear hu9
              rw [take_0 (hMR na h10_na).1] at hbz
              refine zr_if_eq (tgt := 96) hx hb (by have := bZ_01 bz; omega) dM_told_89 (by decide) (fun c_32 => ?_) (fun c_32 => ?_)
              · refine lv_aload_n hx hb dM_told_96 rfl (lv_at hl 0 rfl) ?_
                refine zm_minus hx hb ht hown hK hZ tw_682 dM_told_97 ?_
                refine lv_iload_n hx hb dM_told_100 rfl (lv_at hl 1 rfl) ?_
                refine zm_ldz (i := na) hx hb hK hZ (by omega) dM_told_101 ?_
                rw [show ((w0 3 na : Nat) : Int) = bZ (decide (rg na < 0)) from by rw [show w0 3 na = bN (decide (rg na < 0)) from (hMR na h10_na).2, bN_Z]]
                refine zr_if_eq (tgt := 111) hx hb (by have := bZ_01 (decide (rg na < 0)); omega) dM_told_102 (by decide) (fun c_33 => ?_) (fun c_33 => ?_)
                · have hsg : 0 < rg na := by have h8 : ¬ rg na < 0 := of_decide_eq_false (bZ_f.mp (by assumption)); have h7 : ¬ rg na = 0 := (fun h9 => absurd (hbz.mpr h9) (by rw [show bz = false from bZ_f.mp (by assumption)]; decide)); omega
                  refine lv_lconst (v := lZ (1)) hx hb dM_told_111 (by decide) ?_
                  refine zc_l (y := lZ (rg na).sign) (congrArg lZ (Int.sign_eq_one_of_pos hsg).symm) ?_
                  exact hend 112 _ () _ _ _ dM_told_112 (fun _ => tld_of 1 (by omega) ⟨fun h => absurd h (by decide), fun _ => rfl, fun h => absurd h (by decide), fun h => absurd h (by decide), fun h => absurd h (by decide)⟩) (by rcases SP_g hsp ⟨hk_na, h0w⟩ with ⟨_, h, _⟩ | ⟨_, h, _⟩ | ⟨hk, hs⟩; exact h.elim; exact h.elim; subst hk; subst hs; exact ⟨hok1, w0, (0, fa, ct, be, fb, sb9, (2049 - st)), hZ, ⟨hMR, rfl, hdr, rfl, hpa⟩, rfl⟩) hS
                · have hsg : rg na < 0 := of_decide_eq_true (bZ_nf.mp (by assumption))
                  refine lv_ldc2 (v := lZ (-1)) hx hb hown (ht _ tw_895) dM_told_105 ?_
                  refine lv_goto (tgt := 112) hx hb dM_told_108 (by decide) ?_
                  refine zc_l (y := lZ (rg na).sign) (congrArg lZ (Int.sign_eq_neg_one_of_neg hsg).symm) ?_
                  exact hend 112 _ () _ _ _ dM_told_112 (fun _ => tld_of 1 (by omega) ⟨fun h => absurd h (by decide), fun _ => rfl, fun h => absurd h (by decide), fun h => absurd h (by decide), fun h => absurd h (by decide)⟩) (by rcases SP_g hsp ⟨hk_na, h0w⟩ with ⟨_, h, _⟩ | ⟨_, h, _⟩ | ⟨hk, hs⟩; exact h.elim; exact h.elim; subst hk; subst hs; exact ⟨hok1, w0, (0, fa, ct, be, fb, sb9, (2049 - st)), hZ, ⟨hMR, rfl, hdr, rfl, hpa⟩, rfl⟩) hS
              · have hsg : rg na = 0 := hbz.mp (bZ_nf.mp (by assumption))
                refine lv_lconst (v := lZ (0)) hx hb dM_told_92 (by decide) ?_
                refine lv_goto (tgt := 112) hx hb dM_told_93 (by decide) ?_
                refine zc_l (y := lZ (rg na).sign) (congrArg lZ (Int.sign_eq_zero_iff_zero.mpr hsg).symm) ?_
                exact hend 112 _ () _ _ _ dM_told_112 (fun _ => tld_of 1 (by omega) ⟨fun h => absurd h (by decide), fun _ => rfl, fun h => absurd h (by decide), fun h => absurd h (by decide), fun h => absurd h (by decide)⟩) (by rcases SP_g hsp ⟨hk_na, h0w⟩ with ⟨_, h, _⟩ | ⟨_, h, _⟩ | ⟨hk, hs⟩; exact h.elim; exact h.elim; subst hk; subst hs; exact ⟨hok1, w0, (0, fa, ct, be, fb, sb9, (2049 - st)), hZ, ⟨hMR, rfl, hdr, rfl, hpa⟩, rfl⟩) hS
          · refine lv_aload_n hx hb dM_told_38 rfl (lv_at hl 0 rfl) ?_
            refine lv_iload_n hx hb dM_told_39 rfl (lv_at hl 1 rfl) ?_
            refine lv_iconst (v := iZ (0)) hx hb dM_told_40 (by decide) ?_
            refine zcV_i (P' := fun (u : (Nat → Nat → Nat) × zC) H => zMD E B u.1 u.2 H) 2 (As := [.int (iZ (↑na)), .int (iZ (0))]) (rest := []) rfl ⟨hx, hb, hml, hown, ht⟩ (mM_limb l E B w0 (0, fa, ct, be, fb, sb9, (2049 - st)) rg ct f st g hMR hdr hpa na h10_na (hok.1 na h10_na) 0 (by omega)) tw_876 tw_873 tw_875 tp_23 tw_6 qM_limb (by rw [hR]; decide) (zm_recv hK hZ) hZ hK hl.1 rfl rfl (Nat.le_of_ble_eq_true rfl) dM_told_41 ⟨Nat.zero_le _, Nat.zero_le _⟩ hS (fun r9 u H locs hp hZ _ hS => ?_)
            obtain ⟨_, hu9, hr1⟩ := hp
            subst hr1
            rw [hu9] at hZ
            dsimp only at hZ
            clear hu9
            have htl0 := tl_lt (rg na) 0
            refine zr_i2l hx hb (by unfold zi; omega) dM_told_44 ?_
            refine lv_aload_n hx hb dM_told_45 rfl (lv_at hl 0 rfl) ?_
            refine lv_iload_n hx hb dM_told_46 rfl (lv_at hl 1 rfl) ?_
            refine lv_iconst (v := iZ (1)) hx hb dM_told_47 (by decide) ?_
            refine zcV_i (P' := fun (u : (Nat → Nat → Nat) × zC) H => zMD E B u.1 u.2 H) 2 (As := [.int (iZ (↑na)), .int (iZ (1))]) (rest := [.long (lZ (↑(tl (rg na) 0)))]) rfl ⟨hx, hb, hml, hown, ht⟩ (mM_limb l E B w0 (0, fa, ct, be, fb, sb9, (2049 - st)) rg ct f st g hMR hdr hpa na h10_na (hok.1 na h10_na) 1 (by omega)) tw_876 tw_873 tw_875 tp_23 tw_6 qM_limb (by rw [hR]; decide) (zm_recv hK hZ) hZ hK hl.1 rfl rfl (Nat.le_of_ble_eq_true rfl) dM_told_48 ⟨Nat.zero_le _, Nat.zero_le _⟩ hS (fun r9 u H locs hp hZ _ hS => ?_)
            obtain ⟨_, hu9, hr1⟩ := hp
            subst hr1
            rw [hu9] at hZ
            dsimp only at hZ
            clear hu9
            have htl1 := tl_lt (rg na) 1
            refine zr_i2l hx hb (by unfold zi; omega) dM_told_51 ?_
            refine lv_bipush (v := iZ (16)) hx hb dM_told_52 (by decide) ?_
            refine zr_lshl (n := 16) (P := 65536) hx hb (Nat.le_of_ble_eq_true rfl) (p2_16) dM_told_54 ?_
            refine zr_lorC (n := 16) (P := 65536) hx hb p2_16 (by omega) (by omega) (by omega) (by omega) dM_told_55 ?_
            refine lv_aload_n hx hb dM_told_56 rfl (lv_at hl 0 rfl) ?_
            refine lv_iload_n hx hb dM_told_57 rfl (lv_at hl 1 rfl) ?_
            refine lv_iconst (v := iZ (2)) hx hb dM_told_58 (by decide) ?_
            refine zcV_i (P' := fun (u : (Nat → Nat → Nat) × zC) H => zMD E B u.1 u.2 H) 2 (As := [.int (iZ (↑na)), .int (iZ (2))]) (rest := [.long (lZ ((↑(tl (rg na) 1)) * 65536 + (↑(tl (rg na) 0))))]) rfl ⟨hx, hb, hml, hown, ht⟩ (mM_limb l E B w0 (0, fa, ct, be, fb, sb9, (2049 - st)) rg ct f st g hMR hdr hpa na h10_na (hok.1 na h10_na) 2 (by omega)) tw_876 tw_873 tw_875 tp_23 tw_6 qM_limb (by rw [hR]; decide) (zm_recv hK hZ) hZ hK hl.1 rfl rfl (Nat.le_of_ble_eq_true rfl) dM_told_59 ⟨Nat.zero_le _, Nat.zero_le _⟩ hS (fun r9 u H locs hp hZ _ hS => ?_)
            obtain ⟨_, hu9, hr1⟩ := hp
            subst hr1
            rw [hu9] at hZ
            dsimp only at hZ
            clear hu9
            have htl2 := tl_lt (rg na) 2
            refine zr_i2l hx hb (by unfold zi; omega) dM_told_62 ?_
            refine lv_bipush (v := iZ (32)) hx hb dM_told_63 (by decide) ?_
            refine zr_lshl (n := 32) (P := 4294967296) hx hb (Nat.le_of_ble_eq_true rfl) (p2_32) dM_told_65 ?_
            refine zr_lorC (n := 32) (P := 4294967296) hx hb p2_32 (by omega) (by omega) (by omega) (by omega) dM_told_66 ?_
            refine lv_aload_n hx hb dM_told_67 rfl (lv_at hl 0 rfl) ?_
            refine lv_iload_n hx hb dM_told_68 rfl (lv_at hl 1 rfl) ?_
            refine lv_iconst (v := iZ (3)) hx hb dM_told_69 (by decide) ?_
            refine zcV_i (P' := fun (u : (Nat → Nat → Nat) × zC) H => zMD E B u.1 u.2 H) 2 (As := [.int (iZ (↑na)), .int (iZ (3))]) (rest := [.long (lZ ((↑(tl (rg na) 2)) * 4294967296 + ((↑(tl (rg na) 1)) * 65536 + (↑(tl (rg na) 0)))))]) rfl ⟨hx, hb, hml, hown, ht⟩ (mM_limb l E B w0 (0, fa, ct, be, fb, sb9, (2049 - st)) rg ct f st g hMR hdr hpa na h10_na (hok.1 na h10_na) 3 (by omega)) tw_876 tw_873 tw_875 tp_23 tw_6 qM_limb (by rw [hR]; decide) (zm_recv hK hZ) hZ hK hl.1 rfl rfl (Nat.le_of_ble_eq_true rfl) dM_told_70 ⟨Nat.zero_le _, Nat.zero_le _⟩ hS (fun r9 u H locs hp hZ _ hS => ?_)
            obtain ⟨_, hu9, hr1⟩ := hp
            subst hr1
            rw [hu9] at hZ
            dsimp only at hZ
            clear hu9
            have htl3 := tl_lt (rg na) 3
            refine zr_i2l hx hb (by unfold zi; omega) dM_told_73 ?_
            refine lv_bipush (v := iZ (48)) hx hb dM_told_74 (by decide) ?_
            refine zr_lshl (n := 48) (P := 281474976710656) hx hb (Nat.le_of_ble_eq_true rfl) (p2_48) dM_told_76 ?_
            refine zr_lorC (n := 48) (P := 281474976710656) hx hb p2_48 (by omega) (by omega) (by omega) (by omega) dM_told_77 ?_
            exact hend 78 _ () _ _ _ dM_told_78 (fun _ => tld_of 0 (by omega) ⟨fun _ => lZ_congr (tl_64 _), fun h => absurd h (by decide), fun h => absurd h (by decide), fun h => absurd h (by decide), fun h => absurd h (by decide)⟩) (by rcases SP_g hsp ⟨hk_na, h0w⟩ with ⟨_, h, _⟩ | ⟨_, h, _⟩ | ⟨hk, hs⟩; exact h.elim; exact h.elim; subst hk; subst hs; exact ⟨hok1, w0, (0, fa, ct, be, fb, sb9, (2049 - st)), hZ, ⟨hMR, rfl, hdr, rfl, hpa⟩, rfl⟩) hS
        · exact absurd c_6 (by decide)
      · have hng : ¬ (0 ≤ what ∧ what ≤ 4) := by omega
        refine lv_iconst (v := iZ (1)) hx hb dM_told_17 (by decide) ?_
        refine lv_goto (tgt := 22) hx hb dM_told_18 (by decide) ?_
        refine W.eq (g2 := F0 m 22 ls ([.int (iZ ((1 : Nat) : Int)), .ref B])) rfl ?_
        refine zm_put_thrown (x := 1) hx hb ht hown hK hZ hS tw_677 dM_told_22 (fun H locs hZ hS => ?_)
        have hZ : zMD E B w0 (1, fa, ct, be, fb, sb9, (2049 - st)) H := hZ
        refine lv_aload_n hx hb dM_told_25 rfl (lv_at hl 0 rfl) ?_
        refine zm_thrown hx hb ht hown hK hZ tw_677 dM_told_26 ?_
        refine zc_i (y := iZ (((1 : Nat) : Int))) rfl ?_
        refine zr_if_le (tgt := 34) hx hb (by decide) dM_told_29 (by decide) (fun c_34 => ?_) (fun c_34 => ?_)
        · exact absurd c_34 (by decide)
        · refine lv_lconst (v := lZ (0)) hx hb dM_told_32 (by decide) ?_
          exact hend 33 _ () _ _ _ dM_told_33 (fun h9 => by obtain ⟨hk, _⟩ := SP_1 hsp (fun h9 => hng (by first | exact h9.1 | exact h9.2)); omega) (by obtain ⟨hk, hs⟩ := SP_1 hsp (fun h9 => hng (by first | exact h9 | exact h9.1 | exact h9.2.1 | exact h9.2.2.1 | exact h9.2.2.2.1 | exact h9.2.2.2 | exact h9.2.2 | exact h9.2)); subst hk; subst hs; exact ⟨hok1, w0, (1, fa, ct, be, fb, sb9, (2049 - st)), hZ, ⟨hMR, rfl, hdr, rfl, hpa⟩, rfl⟩) hS
