/-- the reference lies at B in the state σ, and its last call told t -/
def RQ (E : zE) (B : Nat) (σ : zS) (w : Nat → Nat → Nat) (c : zC) : Prop := MR w σ.1 ∧ c.2.2.1 = σ.2.1 ∧ (∀ i, i < σ.2.1 → w 1 i = σ.2.2.1 i) ∧ c.2.2.2.2.2.2 = 2049 - σ.2.2.2.1 ∧ (∀ i, i < 2049 - σ.2.2.2.1 → w 14 i = σ.2.2.2.2 (σ.2.2.2.1 + i))
def zQM (E : zE) (B : Nat) (σ : zS) (t : Nat) (H : Heap) : Prop := okS σ ∧ ∃ w c, zMD E B w c H ∧ RQ E B σ w c ∧ c.1 = t
theorem SP_1 {good f2 f3 : Prop} {res : zS → Prop} {σ σ1 : zS} {k : Nat} (h : SP good f2 f3 res σ k σ1) (hg : ¬ good) : k = 1 ∧ σ1 = σ := by
  rcases h with h | h | h | h
  · exact ⟨h.1, h.2.2⟩
  · exact absurd h.2.1 hg
  · exact absurd h.2.1 hg
  · exact absurd h.2.1 hg
theorem SP_g {good f2 f3 : Prop} {res : zS → Prop} {σ σ1 : zS} {k : Nat} (h : SP good f2 f3 res σ k σ1) (hg : good) : (k = 2 ∧ f2 ∧ σ1 = σ) ∨ (k = 3 ∧ f3 ∧ σ1 = σ) ∨ (k = 0 ∧ res σ1) := by
  rcases h with h | h | h | h
  · exact absurd hg h.2.1
  · exact Or.inl ⟨h.1, h.2.2⟩
  · exact Or.inr (Or.inl ⟨h.1, h.2.2⟩)
  · exact Or.inr (Or.inr ⟨h.1, h.2.2⟩)
/-- what the reference tells for a code of the desk -/
def tc (k : Nat) : Nat := if k = 3 then 2 else k
theorem rP_128 : rP 128 = 2 ^ 2048 := by rw [rP_two]
theorem take_val {d e : Nat → Nat} {r X : Nat} (h : ∀ i, i < 264 → d i = if i < 128 then e (128 * r + i) else 0) (hX : rv (fun j => e (128 * r + j)) 128 = X) : rv d 264 = X := by
  rw [rv_drop (m := 128) (by decide) (fun i h1 h2 => by rw [h i h2, if_neg (by omega)]), ← hX]
  exact rv_congr fun i hi => by rw [h i (by omega), if_pos hi]
theorem take_0 {e : Nat → Nat} {r : Nat} {x : Int} (hX : rv (fun j => e (128 * r + j)) 128 = x.natAbs) : (∀ i, i < 128 → e (128 * r + i) = 0) ↔ x = 0 := by
  constructor
  · intro h
    rw [rv_drop (m := 0) (Nat.zero_le _) (fun i _ hi => h i hi)] at hX
    have h9 : 0 = x.natAbs := hX
    omega
  · intro h i hi
    rw [h] at hX
    have h9 : ∀ n, rv (fun j => e (128 * r + j)) n = 0 → ∀ i, i < n → e (128 * r + i) = 0 := by
      intro n
      induction n with
      | zero => intro _ i hi; exact absurd hi (Nat.not_lt_zero _)
      | succ n ih =>
        intro h8 i hi
        rw [rv_s] at h8
        have h7 : e (128 * r + n) * rP n = 0 := by omega
        have h6 : e (128 * r + n) = 0 := by
          rcases Nat.mul_eq_zero.mp h7 with h5 | h5
          · exact h5
          · exact absurd h5 (Nat.pos_iff_ne_zero.mp (rP_pos n))
        rcases Nat.lt_or_ge i n with h5 | h5
        · exact ih (by omega) i h5
        · rw [show i = n by omega]; exact h6
    exact h9 128 hX i hi
theorem size_le {d : Nat → Nat} {n L : Nat} (hd : ∀ i, d i < 65536) (h1 : n ≤ L) (h2 : ∀ i, n ≤ i → i < L → d i = 0) (h3 : n ≠ 0 → d (n - 1) ≠ 0) (q : Nat) : n ≤ q ↔ rv d L < rP q := by
  have e : rv d L = rv d n := rv_drop h1 h2
  rw [e]
  constructor
  · intro h; exact Nat.lt_of_lt_of_le (rv_lt hd n) (rP_mono h)
  · intro h
    rcases Nat.lt_or_ge q n with h9 | h9
    · exfalso
      have h8 := rv_ge (h3 (by omega))
      rw [show n - 1 + 1 = n by omega] at h8
      have h7 := rP_mono (show q ≤ n - 1 by omega)
      omega
    · exact h9
set_option maxHeartbeats 4000000 in
set_option maxRecDepth 100000 in
theorem mM_thrown (l : Launch) (E : zE) (B : Nat) (w0 : Nat → Nat → Nat) (q0 : zC)  :
    Met l yM_thrown (zws yM_thrown cM_thrown 1 (some .int)) { frames := 0, cells := 0, slots := 0, locals := 0 } (zPc E (zMD E B w0 q0) [.ref (B)]) (va_Qi (fun (r : Int32) (u : (Nat → Nat → Nat) × zC) => u = (w0, q0) ∧ r = iZ ↑q0.1) (fun u t => zMD E B u.1 u.2 t.heap ∧ zK E t) (zA B 15)) 0 0 (zA B 15) := by
  obtain ⟨th, fa, le, be, fb, sb9, pr⟩ := q0
  dsimp only
  refine zof_i (P' := fun (u : (Nat → Nat → Nat) × zC) H => zMD E B u.1 u.2 H) (by decide) (Nat.le_of_ble_eq_true rfl) fun p e R s m args below meth c Q ls hR hx hb hml ht hown hK hZ hl hend => ?_
  have hS : va_S (zA B 15) s.heap s.heap [] := va_S.rf
  have hown : s.vm.findClass "WholeDeskModel" = some m.cls := hown
  have hl : lv_has ls 1 [(0, .ref (B))] := hl
  refine lv_aload_n hx hb dM_thrown_0 rfl (lv_at hl 0 rfl) ?_
  refine zm_thrown hx hb ht hown hK hZ tw_677 dM_thrown_1 ?_
  refine zc_i (y := iZ (↑th)) rfl ?_
  exact hend 4 _ (w0, (th, fa, le, be, fb, sb9, pr)) _ _ _ dM_thrown_4 (⟨rfl, rfl⟩) hZ hS

set_option maxHeartbeats 4000000 in
set_option maxRecDepth 100000 in
theorem mM_digit (l : Launch) (E : zE) (B : Nat) (w0 : Nat → Nat → Nat) (q0 : zC) (x : Nat) (hx256 : x < 65536) :
    Met l yM_digit (zws yM_digit cM_digit 1 (some .int)) { frames := 0, cells := 0, slots := 0, locals := 0 } (zPc E (zMD E B w0 q0) [.int (iZ (↑x))]) (va_Qi (fun (r : Int32) (u : (Nat → Nat → Nat) × zC) => u = (w0, q0) ∧ r = iZ ↑(dg x)) (fun u t => zMD E B u.1 u.2 t.heap ∧ zK E t) (zA B 15)) 0 0 (zA B 15) := by
  refine zof_i (P' := fun (u : (Nat → Nat → Nat) × zC) H => zMD E B u.1 u.2 H) (by decide) (Nat.le_of_ble_eq_true rfl) fun p e R s m args below meth c Q ls hR hx hb hml ht hown hK hZ hl hend => ?_
  have hS : va_S (zA B 15) s.heap s.heap [] := va_S.rf
  have hown : s.vm.findClass "WholeDeskModel" = some m.cls := hown
  have hl : lv_has ls 1 [(0, .int (iZ (↑x)))] := hl
  refine lv_iload_n hx hb dM_digit_0 rfl (lv_at hl 0 rfl) ?_
  refine lv_bipush (v := iZ (48)) hx hb dM_digit_1 (by decide) ?_
  refine zr_icmp_lt (tgt := 19) hx hb (by unfold zi; omega) (by unfold zi; omega) dM_digit_3 (by decide) (fun c_1 => ?_) (fun c_1 => ?_)
  · refine lv_iload_n hx hb dM_digit_19 rfl (lv_at hl 0 rfl) ?_
    refine lv_bipush (v := iZ (97)) hx hb dM_digit_20 (by decide) ?_
    refine zr_icmp_lt (tgt := 41) hx hb (by unfold zi; omega) (by unfold zi; omega) dM_digit_22 (by decide) (fun c_2 => ?_) (fun c_2 => ?_)
    · refine lv_iload_n hx hb dM_digit_41 rfl (lv_at hl 0 rfl) ?_
      refine lv_bipush (v := iZ (65)) hx hb dM_digit_42 (by decide) ?_
      refine zr_icmp_lt (tgt := 63) hx hb (by unfold zi; omega) (by unfold zi; omega) dM_digit_44 (by decide) (fun c_3 => ?_) (fun c_3 => ?_)
      · refine lv_bipush (v := iZ (99)) hx hb dM_digit_63 (by decide) ?_
        refine zc_i (y := iZ ↑(dg x)) (congrArg iZ (by unfold dg; (repeat (first | rw [if_pos (by omega)] | rw [if_neg (by omega)])) <;> omega)) ?_
        exact hend 65 _ (w0, q0) _ _ _ dM_digit_65 (⟨rfl, rfl⟩) hZ hS
      · refine lv_iload_n hx hb dM_digit_47 rfl (lv_at hl 0 rfl) ?_
        refine lv_bipush (v := iZ (90)) hx hb dM_digit_48 (by decide) ?_
        refine zr_icmp_gt (tgt := 63) hx hb (by unfold zi; omega) (by unfold zi; omega) dM_digit_50 (by decide) (fun c_4 => ?_) (fun c_4 => ?_)
        · refine lv_bipush (v := iZ (99)) hx hb dM_digit_63 (by decide) ?_
          refine zc_i (y := iZ ↑(dg x)) (congrArg iZ (by unfold dg; (repeat (first | rw [if_pos (by omega)] | rw [if_neg (by omega)])) <;> omega)) ?_
          exact hend 65 _ (w0, q0) _ _ _ dM_digit_65 (⟨rfl, rfl⟩) hZ hS
        · refine lv_iload_n hx hb dM_digit_53 rfl (lv_at hl 0 rfl) ?_
          refine lv_bipush (v := iZ (65)) hx hb dM_digit_54 (by decide) ?_
          refine zr_isub hx hb dM_digit_56 ?_
          refine lv_bipush (v := iZ (10)) hx hb dM_digit_57 (by decide) ?_
          refine zr_iadd hx hb dM_digit_59 ?_
          refine lv_goto (tgt := 65) hx hb dM_digit_60 (by decide) ?_
          refine zc_i (y := iZ ↑(dg x)) (congrArg iZ (by unfold dg; (repeat (first | rw [if_pos (by omega)] | rw [if_neg (by omega)])) <;> omega)) ?_
          exact hend 65 _ (w0, q0) _ _ _ dM_digit_65 (⟨rfl, rfl⟩) hZ hS
    · refine lv_iload_n hx hb dM_digit_25 rfl (lv_at hl 0 rfl) ?_
      refine lv_bipush (v := iZ (122)) hx hb dM_digit_26 (by decide) ?_
      refine zr_icmp_gt (tgt := 41) hx hb (by unfold zi; omega) (by unfold zi; omega) dM_digit_28 (by decide) (fun c_5 => ?_) (fun c_5 => ?_)
      · refine lv_iload_n hx hb dM_digit_41 rfl (lv_at hl 0 rfl) ?_
        refine lv_bipush (v := iZ (65)) hx hb dM_digit_42 (by decide) ?_
        refine zr_icmp_lt (tgt := 63) hx hb (by unfold zi; omega) (by unfold zi; omega) dM_digit_44 (by decide) (fun c_6 => ?_) (fun c_6 => ?_)
        · refine lv_bipush (v := iZ (99)) hx hb dM_digit_63 (by decide) ?_
          refine zc_i (y := iZ ↑(dg x)) (congrArg iZ (by unfold dg; (repeat (first | rw [if_pos (by omega)] | rw [if_neg (by omega)])) <;> omega)) ?_
          exact hend 65 _ (w0, q0) _ _ _ dM_digit_65 (⟨rfl, rfl⟩) hZ hS
        · refine lv_iload_n hx hb dM_digit_47 rfl (lv_at hl 0 rfl) ?_
          refine lv_bipush (v := iZ (90)) hx hb dM_digit_48 (by decide) ?_
          refine zr_icmp_gt (tgt := 63) hx hb (by unfold zi; omega) (by unfold zi; omega) dM_digit_50 (by decide) (fun c_7 => ?_) (fun c_7 => ?_)
          · refine lv_bipush (v := iZ (99)) hx hb dM_digit_63 (by decide) ?_
            refine zc_i (y := iZ ↑(dg x)) (congrArg iZ (by unfold dg; (repeat (first | rw [if_pos (by omega)] | rw [if_neg (by omega)])) <;> omega)) ?_
            exact hend 65 _ (w0, q0) _ _ _ dM_digit_65 (⟨rfl, rfl⟩) hZ hS
          · refine lv_iload_n hx hb dM_digit_53 rfl (lv_at hl 0 rfl) ?_
            refine lv_bipush (v := iZ (65)) hx hb dM_digit_54 (by decide) ?_
            refine zr_isub hx hb dM_digit_56 ?_
            refine lv_bipush (v := iZ (10)) hx hb dM_digit_57 (by decide) ?_
            refine zr_iadd hx hb dM_digit_59 ?_
            refine lv_goto (tgt := 65) hx hb dM_digit_60 (by decide) ?_
            refine zc_i (y := iZ ↑(dg x)) (congrArg iZ (by unfold dg; (repeat (first | rw [if_pos (by omega)] | rw [if_neg (by omega)])) <;> omega)) ?_
            exact hend 65 _ (w0, q0) _ _ _ dM_digit_65 (⟨rfl, rfl⟩) hZ hS
      · refine lv_iload_n hx hb dM_digit_31 rfl (lv_at hl 0 rfl) ?_
        refine lv_bipush (v := iZ (97)) hx hb dM_digit_32 (by decide) ?_
        refine zr_isub hx hb dM_digit_34 ?_
        refine lv_bipush (v := iZ (10)) hx hb dM_digit_35 (by decide) ?_
        refine zr_iadd hx hb dM_digit_37 ?_
        refine lv_goto (tgt := 65) hx hb dM_digit_38 (by decide) ?_
        refine zc_i (y := iZ ↑(dg x)) (congrArg iZ (by unfold dg; (repeat (first | rw [if_pos (by omega)] | rw [if_neg (by omega)])) <;> omega)) ?_
        exact hend 65 _ (w0, q0) _ _ _ dM_digit_65 (⟨rfl, rfl⟩) hZ hS
  · refine lv_iload_n hx hb dM_digit_6 rfl (lv_at hl 0 rfl) ?_
    refine lv_bipush (v := iZ (57)) hx hb dM_digit_7 (by decide) ?_
    refine zr_icmp_gt (tgt := 19) hx hb (by unfold zi; omega) (by unfold zi; omega) dM_digit_9 (by decide) (fun c_8 => ?_) (fun c_8 => ?_)
    · refine lv_iload_n hx hb dM_digit_19 rfl (lv_at hl 0 rfl) ?_
      refine lv_bipush (v := iZ (97)) hx hb dM_digit_20 (by decide) ?_
      refine zr_icmp_lt (tgt := 41) hx hb (by unfold zi; omega) (by unfold zi; omega) dM_digit_22 (by decide) (fun c_9 => ?_) (fun c_9 => ?_)
      · refine lv_iload_n hx hb dM_digit_41 rfl (lv_at hl 0 rfl) ?_
        refine lv_bipush (v := iZ (65)) hx hb dM_digit_42 (by decide) ?_
        refine zr_icmp_lt (tgt := 63) hx hb (by unfold zi; omega) (by unfold zi; omega) dM_digit_44 (by decide) (fun c_10 => ?_) (fun c_10 => ?_)
        · refine lv_bipush (v := iZ (99)) hx hb dM_digit_63 (by decide) ?_
          refine zc_i (y := iZ ↑(dg x)) (congrArg iZ (by unfold dg; (repeat (first | rw [if_pos (by omega)] | rw [if_neg (by omega)])) <;> omega)) ?_
          exact hend 65 _ (w0, q0) _ _ _ dM_digit_65 (⟨rfl, rfl⟩) hZ hS
        · refine lv_iload_n hx hb dM_digit_47 rfl (lv_at hl 0 rfl) ?_
          refine lv_bipush (v := iZ (90)) hx hb dM_digit_48 (by decide) ?_
          refine zr_icmp_gt (tgt := 63) hx hb (by unfold zi; omega) (by unfold zi; omega) dM_digit_50 (by decide) (fun c_11 => ?_) (fun c_11 => ?_)
          · refine lv_bipush (v := iZ (99)) hx hb dM_digit_63 (by decide) ?_
            refine zc_i (y := iZ ↑(dg x)) (congrArg iZ (by unfold dg; (repeat (first | rw [if_pos (by omega)] | rw [if_neg (by omega)])) <;> omega)) ?_
            exact hend 65 _ (w0, q0) _ _ _ dM_digit_65 (⟨rfl, rfl⟩) hZ hS
          · refine lv_iload_n hx hb dM_digit_53 rfl (lv_at hl 0 rfl) ?_
            refine lv_bipush (v := iZ (65)) hx hb dM_digit_54 (by decide) ?_
            refine zr_isub hx hb dM_digit_56 ?_
            refine lv_bipush (v := iZ (10)) hx hb dM_digit_57 (by decide) ?_
            refine zr_iadd hx hb dM_digit_59 ?_
            refine lv_goto (tgt := 65) hx hb dM_digit_60 (by decide) ?_
            refine zc_i (y := iZ ↑(dg x)) (congrArg iZ (by unfold dg; (repeat (first | rw [if_pos (by omega)] | rw [if_neg (by omega)])) <;> omega)) ?_
            exact hend 65 _ (w0, q0) _ _ _ dM_digit_65 (⟨rfl, rfl⟩) hZ hS
      · refine lv_iload_n hx hb dM_digit_25 rfl (lv_at hl 0 rfl) ?_
        refine lv_bipush (v := iZ (122)) hx hb dM_digit_26 (by decide) ?_
        refine zr_icmp_gt (tgt := 41) hx hb (by unfold zi; omega) (by unfold zi; omega) dM_digit_28 (by decide) (fun c_12 => ?_) (fun c_12 => ?_)
        · refine lv_iload_n hx hb dM_digit_41 rfl (lv_at hl 0 rfl) ?_
          refine lv_bipush (v := iZ (65)) hx hb dM_digit_42 (by decide) ?_
          refine zr_icmp_lt (tgt := 63) hx hb (by unfold zi; omega) (by unfold zi; omega) dM_digit_44 (by decide) (fun c_13 => ?_) (fun c_13 => ?_)
          · refine lv_bipush (v := iZ (99)) hx hb dM_digit_63 (by decide) ?_
            refine zc_i (y := iZ ↑(dg x)) (congrArg iZ (by unfold dg; (repeat (first | rw [if_pos (by omega)] | rw [if_neg (by omega)])) <;> omega)) ?_
            exact hend 65 _ (w0, q0) _ _ _ dM_digit_65 (⟨rfl, rfl⟩) hZ hS
          · refine lv_iload_n hx hb dM_digit_47 rfl (lv_at hl 0 rfl) ?_
            refine lv_bipush (v := iZ (90)) hx hb dM_digit_48 (by decide) ?_
            refine zr_icmp_gt (tgt := 63) hx hb (by unfold zi; omega) (by unfold zi; omega) dM_digit_50 (by decide) (fun c_14 => ?_) (fun c_14 => ?_)
            · refine lv_bipush (v := iZ (99)) hx hb dM_digit_63 (by decide) ?_
              refine zc_i (y := iZ ↑(dg x)) (congrArg iZ (by unfold dg; (repeat (first | rw [if_pos (by omega)] | rw [if_neg (by omega)])) <;> omega)) ?_
              exact hend 65 _ (w0, q0) _ _ _ dM_digit_65 (⟨rfl, rfl⟩) hZ hS
            · refine lv_iload_n hx hb dM_digit_53 rfl (lv_at hl 0 rfl) ?_
              refine lv_bipush (v := iZ (65)) hx hb dM_digit_54 (by decide) ?_
              refine zr_isub hx hb dM_digit_56 ?_
              refine lv_bipush (v := iZ (10)) hx hb dM_digit_57 (by decide) ?_
              refine zr_iadd hx hb dM_digit_59 ?_
              refine lv_goto (tgt := 65) hx hb dM_digit_60 (by decide) ?_
              refine zc_i (y := iZ ↑(dg x)) (congrArg iZ (by unfold dg; (repeat (first | rw [if_pos (by omega)] | rw [if_neg (by omega)])) <;> omega)) ?_
              exact hend 65 _ (w0, q0) _ _ _ dM_digit_65 (⟨rfl, rfl⟩) hZ hS
        · refine lv_iload_n hx hb dM_digit_31 rfl (lv_at hl 0 rfl) ?_
          refine lv_bipush (v := iZ (97)) hx hb dM_digit_32 (by decide) ?_
          refine zr_isub hx hb dM_digit_34 ?_
          refine lv_bipush (v := iZ (10)) hx hb dM_digit_35 (by decide) ?_
          refine zr_iadd hx hb dM_digit_37 ?_
          refine lv_goto (tgt := 65) hx hb dM_digit_38 (by decide) ?_
          refine zc_i (y := iZ ↑(dg x)) (congrArg iZ (by unfold dg; (repeat (first | rw [if_pos (by omega)] | rw [if_neg (by omega)])) <;> omega)) ?_
          exact hend 65 _ (w0, q0) _ _ _ dM_digit_65 (⟨rfl, rfl⟩) hZ hS
    · refine lv_iload_n hx hb dM_digit_12 rfl (lv_at hl 0 rfl) ?_
      refine lv_bipush (v := iZ (48)) hx hb dM_digit_13 (by decide) ?_
      refine zr_isub hx hb dM_digit_15 ?_
      refine lv_goto (tgt := 65) hx hb dM_digit_16 (by decide) ?_
      refine zc_i (y := iZ ↑(dg x)) (congrArg iZ (by unfold dg; (repeat (first | rw [if_pos (by omega)] | rw [if_neg (by omega)])) <;> omega)) ?_
      exact hend 65 _ (w0, q0) _ _ _ dM_digit_65 (⟨rfl, rfl⟩) hZ hS

set_option maxHeartbeats 4000000 in
set_option maxRecDepth 100000 in
theorem mM_setOne (l : Launch) (E : zE) (B : Nat) (w0 : Nat → Nat → Nat) (q0 : zC) (ka : Nat) (hk_ka : 4 ≤ ka ∧ ka ≤ 13) (hln_ka : mln ka = 264) :
    Met l yM_setOne (zws yM_setOne cM_setOne 2 none) { frames := 1, cells := 0, slots := 0, locals := 24 } (zPc E (zMD E B w0 q0) [.ref (B), .ref (B + ka)]) (va_Qv (fun u : (Nat → Nat → Nat) × zC => (∀ j, j ≠ ka → u.1 j = w0 j) ∧ u.2 = q0 ∧ rv (u.1 ka) 264 = 1) (fun u t => zMD E B u.1 u.2 t.heap ∧ zK E t) (zA B 15)) 0 0 (zA B 15) := by
  refine zof_v (P' := fun (u : (Nat → Nat → Nat) × zC) H => zMD E B u.1 u.2 H) (by decide) (Nat.le_of_ble_eq_true rfl) fun p e R s m args below meth c Q ls hR hx hb hml ht hown hK hZ hl hend => ?_
  have hS : va_S (zA B 15) s.heap s.heap [] := va_S.rf
  have hown : s.vm.findClass "WholeDeskModel" = some m.cls := hown
  have hl : lv_has ls 2 [(0, .ref (B)), (1, .ref (B + ka))] := hl
  have fr : ∀ jx, jx ≠ ka → w0 jx = w0 jx := fun jx _ => rfl
  refine lv_aload_n hx hb dM_setOne_0 rfl (lv_at hl 1 rfl) ?_
  refine zcS_v (P' := fun (u : (Nat → Nat → Nat) × zC) H => zMD E B u.1 u.2 H) 1 (As := [.ref (B + ka)]) (rest := []) ⟨hx, hb, hml, hown, ht⟩ (mM_clear l E B w0 q0 ka hk_ka 264 hln_ka (by omega)) tw_768 tw_766 tw_767 tw_6 qM_clear (by rw [hR]; decide) hZ hK hl.1 rfl rfl (Nat.le_of_ble_eq_true rfl) dM_setOne_1 ⟨Nat.zero_le _, Nat.zero_le _⟩ hS (fun u H locs hp hZ _ hS => ?_)
  obtain ⟨w, q9⟩ := u
  obtain ⟨ho, hq9, hclka⟩ := hp
  dsimp only at ho hq9 hZ hclka
  rw [hq9] at hZ
  have fr : ∀ jx, jx ≠ ka → w jx = w0 jx := fun jx h0 => (ho jx h0).trans (fr jx h0)
  refine lv_aload_n hx hb dM_setOne_4 rfl (lv_at hl 1 rfl) ?_
  refine lv_iconst (v := iZ (0)) hx hb dM_setOne_5 (by decide) ?_
  refine lv_iconst (v := iZ (1)) hx hb dM_setOne_6 (by decide) ?_
  refine W.eq (g2 := F0 m 7 ls (.int (iZ ((1 : Nat) : Int)) :: .int (iZ (0)) :: .ref (B + ka) :: [])) rfl ?_
  refine W.eq (g2 := F0 m 7 ls (.int (iZ ((1 : Nat) : Int)) :: .int (iZ ((0 : Nat) : Int)) :: .ref (B + ka) :: [])) rfl ?_
  refine zm_st (k := ka) (i := 0) (x := 1) hx hb hK hZ hS (by omega) (by omega) (by omega) dM_setOne_7 (fun H locs hZ hS => ?_)
  have fr : ∀ jx, jx ≠ ka → (mup w ka 0 1) jx = w0 jx := fun jx h0 => (mup_ne _ _ _ h0).trans (fr jx h0)
  have hv1 : rv (mup w ka 0 1 ka) 264 = 1 := by rw [mup_at, rv_drop (m := 0 + 1) (by decide) (fun i h1 h2 => by rw [va_up_ne _ _ (by omega)]; exact hclka i h2), rv_up_s, rv_0, rP_0]
  exact hend 8 (mup w ka 0 1, q0) _ _ _ dM_setOne_8 (⟨fr, rfl, hv1⟩) hZ hS

def lfb (b : Bool) (x : Nat) : Int := if b = true then -((x : Nat) : Int) else ((x : Nat) : Int)
theorem sum_val {ba bb be : Bool} {A Bv X V : Nat} (hX : X = V) (h : (ba = bb ∧ be = ba ∧ V = A + Bv) ∨ (ba ≠ bb ∧ Bv ≤ A ∧ be = ba ∧ V = A - Bv) ∨ (ba ≠ bb ∧ A < Bv ∧ be = bb ∧ V = Bv - A)) : lfb be X = lfb ba A + lfb bb Bv := by
  subst hX
  unfold lfb
  rcases h with ⟨h1, h2, h3⟩ | ⟨h1, h2, h3, h4⟩ | ⟨h1, h2, h3, h4⟩
  · subst h1 h2 h3
    split <;> omega
  · subst h3 h4
    cases be <;> cases bb
    · exact absurd rfl h1
    · rw [if_neg (by decide), if_neg (by decide), if_pos rfl]; omega
    · rw [if_pos rfl, if_pos rfl, if_neg (by decide)]; omega
    · exact absurd rfl h1
  · subst h3 h4
    cases ba <;> cases be
    · exact absurd rfl h1
    · rw [if_pos rfl, if_neg (by decide), if_pos rfl]; omega
    · rw [if_neg (by decide), if_pos rfl, if_neg (by decide)]; omega
    · exact absurd rfl h1
set_option maxHeartbeats 4000000 in
set_option maxRecDepth 100000 in
theorem mM_sum (l : Launch) (E : zE) (B : Nat) (w0 : Nat → Nat → Nat) (q0 : zC) (ka : Nat) (hk_ka : 4 ≤ ka ∧ ka ≤ 13) (kb : Nat) (hk_kb : 4 ≤ kb ∧ kb ≤ 13) (hln_ka : mln ka = 264) (hln_kb : mln kb = 264) (ha4 : ka ≠ 4) (hb4 : kb ≠ 4) (ba bb : Bool) (hAB : rv (w0 ka) 264 + rv (w0 kb) 264 < rP 264) :
    Met l yM_sum (zws yM_sum cM_sum 5 none) { frames := 1, cells := 0, slots := 0, locals := 40 } (zPc E (zMD E B w0 q0) [.ref (B), .ref (B + ka), .int (iZ (bZ ba)), .ref (B + kb), .int (iZ (bZ bb))]) (va_Qv (fun u : (Nat → Nat → Nat) × zC => (∀ j, j ≠ 4 → u.1 j = w0 j) ∧ ∃ be : Bool, u.2 = (q0.1, q0.2.1, q0.2.2.1, be, q0.2.2.2.2) ∧ lfb be (rv (u.1 4) 264) = lfb ba (rv (w0 ka) 264) + lfb bb (rv (w0 kb) 264)) (fun u t => zMD E B u.1 u.2 t.heap ∧ zK E t) (zA B 15)) 0 0 (zA B 15) := by
  obtain ⟨th, fa, le, be, fb, sb9, pr⟩ := q0
  dsimp only
  refine zof_v (P' := fun (u : (Nat → Nat → Nat) × zC) H => zMD E B u.1 u.2 H) (by decide) (Nat.le_of_ble_eq_true rfl) fun p e R s m args below meth c Q ls hR hx hb hml ht hown hK hZ hl hend => ?_
  have hS : va_S (zA B 15) s.heap s.heap [] := va_S.rf
  have hown : s.vm.findClass "WholeDeskModel" = some m.cls := hown
  have hl : lv_has ls 5 [(0, .ref (B)), (1, .ref (B + ka)), (2, .int (iZ (bZ ba))), (3, .ref (B + kb)), (4, .int (iZ (bZ bb)))] := hl
  obtain ⟨Av, hAv⟩ : ∃ q, q = rv (w0 ka) 264 := ⟨_, rfl⟩
  obtain ⟨Bv, hBv⟩ : ∃ q, q = rv (w0 kb) 264 := ⟨_, rfl⟩
  rw [← hAv, ← hBv] at hAB hend
  have fr : ∀ jx, jx ≠ 4 → w0 jx = w0 jx := fun jx _ => rfl
  refine lv_iload_n hx hb dM_sum_0 rfl (lv_at hl 2 rfl) ?_
  refine lv_iload hx hb dM_sum_1 (lv_at hl 4 rfl) ?_
  refine zr_icmp_ne (tgt := 36) hx hb (by have := bZ_01 ba; omega) (by have := bZ_01 bb; omega) dM_sum_3 (by decide) (fun c_1 => ?_) (fun c_1 => ?_)
  · have hbb : ba ≠ bb := fun h9 => absurd (bZ_eq.mpr h9) (by omega)
    refine lv_aload_n hx hb dM_sum_36 rfl (lv_at hl 1 rfl) ?_
    refine lv_aload_n hx hb dM_sum_37 rfl (lv_at hl 3 rfl) ?_
    refine zcS_i (P' := fun (u : (Nat → Nat → Nat) × zC) H => zMD E B u.1 u.2 H) 2 (As := [.ref (B + ka), .ref (B + kb)]) (rest := []) ⟨hx, hb, hml, hown, ht⟩ (mM_compareRows l E B w0 (th, fa, le, be, fb, sb9, pr) ka hk_ka kb hk_kb hln_ka hln_kb) tw_804 tw_802 tw_803 tw_6 qM_compareRows (by rw [hR]; decide) hZ hK hl.1 rfl rfl (Nat.le_of_ble_eq_true rfl) dM_sum_38 ⟨Nat.zero_le _, Nat.zero_le _⟩ hS (fun r9 u H locs hp hZ _ hS => ?_)
    obtain ⟨hu9, hr1⟩ := hp
    subst hr1
    rw [hu9] at hZ
    dsimp only at hZ
    rw [← hAv, ← hBv]
    refine zr_if_lt (tgt := 74) hx hb (cmp_zi _ _) dM_sum_41 (by decide) (fun c_2 => ?_) (fun c_2 => ?_)
    · have hge : Av < Bv := by have h9 := cmp_lt9 (by omega : cmpZ ((Av : Nat) : Int) ((Bv : Nat) : Int) < 0); omega
      refine lv_aload_n hx hb dM_sum_74 rfl (lv_at hl 3 rfl) ?_
      refine lv_aload_n hx hb dM_sum_75 rfl (lv_at hl 0 rfl) ?_
      refine zm_row hx hb ht hown hK hZ tw_683 dM_sum_76 ?_
      refine zcS_v (P' := fun (u : (Nat → Nat → Nat) × zC) H => zMD E B u.1 u.2 H) 2 (As := [.ref (B + kb), .ref (B + 4)]) (rest := []) ⟨hx, hb, hml, hown, ht⟩ (mM_copy l E B w0 (th, fa, le, be, fb, sb9, pr) kb hk_kb 4 (by decide) 264 hln_kb (by omega) 264 rfl (by omega) hb4) tw_798 tw_796 tw_797 tw_6 qM_copy (by rw [hR]; decide) hZ hK hl.1 rfl rfl (Nat.le_of_ble_eq_true rfl) dM_sum_79 ⟨Nat.zero_le _, Nat.zero_le _⟩ hS (fun u H locs hp hZ _ hS => ?_)
      obtain ⟨w, q9⟩ := u
      obtain ⟨ho, hq9, hcp⟩ := hp
      dsimp only at ho hq9 hZ hcp
      rw [hq9] at hZ
      have hv4 : rv (w 4) 264 = Bv := by rw [hBv]; exact rv_congr (fun i hi => (hcp i hi).trans (if_pos hi))
      have fr : ∀ jx, jx ≠ 4 → w jx = w0 jx := fun jx h0 => (ho jx h0).trans (fr jx h0)
      refine lv_aload_n hx hb dM_sum_82 rfl (lv_at hl 0 rfl) ?_
      refine zm_row hx hb ht hown hK hZ tw_683 dM_sum_83 ?_
      refine lv_aload_n hx hb dM_sum_86 rfl (lv_at hl 1 rfl) ?_
      refine lv_aload_n hx hb dM_sum_87 rfl (lv_at hl 1 rfl) ?_
      refine zcS_i (P' := fun (u : (Nat → Nat → Nat) × zC) H => zMD E B u.1 u.2 H) 1 (As := [.ref (B + ka)]) (rest := [.ref (B + ka), .ref (B + 4)]) ⟨hx, hb, hml, hown, ht⟩ (mM_size l E B w (th, fa, le, be, fb, sb9, pr) ka hk_ka 264 hln_ka (by omega)) tw_774 tw_772 tw_773 tw_6 qM_size (by rw [hR]; decide) hZ hK hl.1 rfl rfl (Nat.le_of_ble_eq_true rfl) dM_sum_88 ⟨Nat.zero_le _, Nat.zero_le _⟩ hS (fun r9 u H locs hp hZ _ hS => ?_)
      obtain ⟨hu9, n, hr1, hn1, hn2, hn3⟩ := hp
      subst hr1
      subst hu9
      dsimp only at hZ
      refine lv_lconst (v := lZ (1)) hx hb dM_sum_91 (by decide) ?_
      refine lv_iconst (v := iZ (1)) hx hb dM_sum_92 (by decide) ?_
      refine W.eq (g2 := F0 m 93 ls (.int (iZ (bZ true)) :: .long (lZ ((1 : Nat) : Int)) :: .int (iZ ((n : Nat) : Int)) :: .ref (B + ka) :: .ref (B + 4) :: [])) rfl ?_
      refine zcS_v (P' := fun (u : (Nat → Nat → Nat) × zC) H => zMD E B u.1 u.2 H) 5 (As := [.ref (B + 4), .ref (B + ka), .int (iZ ((n : Nat) : Int)), .long (lZ ((1 : Nat) : Int)), .int (iZ (bZ true))]) (rest := []) ⟨hx, hb, hml, hown, ht⟩ (mM_join l E B w (th, fa, le, be, fb, sb9, pr) 4 (by decide) ka hk_ka rfl hln_ka ha4 n (by omega) 1 (by decide) true (hn2) (by rw [if_pos rfl, hv4, fr ka ha4, ← hAv]; omega) (by rw [if_pos rfl, hv4, fr ka ha4, ← hAv]; have h9 := rv_lt (hZ.2 4) 264; rw [hv4] at h9; omega)) tw_801 tw_799 tw_800 tw_6 qM_join (by rw [hR]; decide) hZ hK hl.1 rfl rfl (Nat.le_of_ble_eq_true rfl) dM_sum_93 ⟨Nat.zero_le _, Nat.zero_le _⟩ hS (fun u H locs hp hZ _ hS => ?_)
      obtain ⟨w, q9⟩ := u
      obtain ⟨ho, hq9, hjn⟩ := hp
      dsimp only at ho hq9 hZ hjn
      rw [hq9] at hZ
      rw [if_pos rfl] at hjn
      rw [hv4, fr ka ha4, ← hAv] at hjn
      have hj4 : rv (w 4) 264 = Bv - Av := by omega
      have fr : ∀ jx, jx ≠ 4 → w jx = w0 jx := fun jx h0 => (ho jx h0).trans (fr jx h0)
      refine lv_aload_n hx hb dM_sum_96 rfl (lv_at hl 0 rfl) ?_
      refine lv_iload hx hb dM_sum_97 (lv_at hl 4 rfl) ?_
      refine zm_put_below (x := bb) hx hb ht hown hK hZ hS tw_684 dM_sum_99 (fun H locs hZ hS => ?_)
      have hZ : zMD E B w (th, fa, le, bb, fb, sb9, pr) H := hZ
      exact hend 102 (w, (th, fa, le, bb, fb, sb9, pr)) _ _ _ dM_sum_102 (⟨fr, bb, rfl, sum_val hj4 (Or.inr (Or.inr ⟨hbb, hge, rfl, rfl⟩))⟩) hZ hS
    · have hge : Bv ≤ Av := by have h9 := cmp_ge (by omega : ¬ cmpZ ((Av : Nat) : Int) ((Bv : Nat) : Int) < 0); omega
      refine lv_aload_n hx hb dM_sum_44 rfl (lv_at hl 1 rfl) ?_
      refine lv_aload_n hx hb dM_sum_45 rfl (lv_at hl 0 rfl) ?_
      refine zm_row hx hb ht hown hK hZ tw_683 dM_sum_46 ?_
      refine zcS_v (P' := fun (u : (Nat → Nat → Nat) × zC) H => zMD E B u.1 u.2 H) 2 (As := [.ref (B + ka), .ref (B + 4)]) (rest := []) ⟨hx, hb, hml, hown, ht⟩ (mM_copy l E B w0 (th, fa, le, be, fb, sb9, pr) ka hk_ka 4 (by decide) 264 hln_ka (by omega) 264 rfl (by omega) ha4) tw_798 tw_796 tw_797 tw_6 qM_copy (by rw [hR]; decide) hZ hK hl.1 rfl rfl (Nat.le_of_ble_eq_true rfl) dM_sum_49 ⟨Nat.zero_le _, Nat.zero_le _⟩ hS (fun u H locs hp hZ _ hS => ?_)
      obtain ⟨w, q9⟩ := u
      obtain ⟨ho, hq9, hcp⟩ := hp
      dsimp only at ho hq9 hZ hcp
      rw [hq9] at hZ
      have hv4 : rv (w 4) 264 = Av := by rw [hAv]; exact rv_congr (fun i hi => (hcp i hi).trans (if_pos hi))
      have fr : ∀ jx, jx ≠ 4 → w jx = w0 jx := fun jx h0 => (ho jx h0).trans (fr jx h0)
      refine lv_aload_n hx hb dM_sum_52 rfl (lv_at hl 0 rfl) ?_
      refine zm_row hx hb ht hown hK hZ tw_683 dM_sum_53 ?_
      refine lv_aload_n hx hb dM_sum_56 rfl (lv_at hl 3 rfl) ?_
      refine lv_aload_n hx hb dM_sum_57 rfl (lv_at hl 3 rfl) ?_
      refine zcS_i (P' := fun (u : (Nat → Nat → Nat) × zC) H => zMD E B u.1 u.2 H) 1 (As := [.ref (B + kb)]) (rest := [.ref (B + kb), .ref (B + 4)]) ⟨hx, hb, hml, hown, ht⟩ (mM_size l E B w (th, fa, le, be, fb, sb9, pr) kb hk_kb 264 hln_kb (by omega)) tw_774 tw_772 tw_773 tw_6 qM_size (by rw [hR]; decide) hZ hK hl.1 rfl rfl (Nat.le_of_ble_eq_true rfl) dM_sum_58 ⟨Nat.zero_le _, Nat.zero_le _⟩ hS (fun r9 u H locs hp hZ _ hS => ?_)
      obtain ⟨hu9, n, hr1, hn1, hn2, hn3⟩ := hp
      subst hr1
      subst hu9
      dsimp only at hZ
      refine lv_lconst (v := lZ (1)) hx hb dM_sum_61 (by decide) ?_
      refine lv_iconst (v := iZ (1)) hx hb dM_sum_62 (by decide) ?_
      refine W.eq (g2 := F0 m 63 ls (.int (iZ (bZ true)) :: .long (lZ ((1 : Nat) : Int)) :: .int (iZ ((n : Nat) : Int)) :: .ref (B + kb) :: .ref (B + 4) :: [])) rfl ?_
      refine zcS_v (P' := fun (u : (Nat → Nat → Nat) × zC) H => zMD E B u.1 u.2 H) 5 (As := [.ref (B + 4), .ref (B + kb), .int (iZ ((n : Nat) : Int)), .long (lZ ((1 : Nat) : Int)), .int (iZ (bZ true))]) (rest := []) ⟨hx, hb, hml, hown, ht⟩ (mM_join l E B w (th, fa, le, be, fb, sb9, pr) 4 (by decide) kb hk_kb rfl hln_kb hb4 n (by omega) 1 (by decide) true (hn2) (by rw [if_pos rfl, hv4, fr kb hb4, ← hBv]; omega) (by rw [if_pos rfl, hv4, fr kb hb4, ← hBv]; have h9 := rv_lt (hZ.2 4) 264; rw [hv4] at h9; omega)) tw_801 tw_799 tw_800 tw_6 qM_join (by rw [hR]; decide) hZ hK hl.1 rfl rfl (Nat.le_of_ble_eq_true rfl) dM_sum_63 ⟨Nat.zero_le _, Nat.zero_le _⟩ hS (fun u H locs hp hZ _ hS => ?_)
      obtain ⟨w, q9⟩ := u
      obtain ⟨ho, hq9, hjn⟩ := hp
      dsimp only at ho hq9 hZ hjn
      rw [hq9] at hZ
      rw [if_pos rfl] at hjn
      rw [hv4, fr kb hb4, ← hBv] at hjn
      have hj4 : rv (w 4) 264 = Av - Bv := by omega
      have fr : ∀ jx, jx ≠ 4 → w jx = w0 jx := fun jx h0 => (ho jx h0).trans (fr jx h0)
      refine lv_aload_n hx hb dM_sum_66 rfl (lv_at hl 0 rfl) ?_
      refine lv_iload_n hx hb dM_sum_67 rfl (lv_at hl 2 rfl) ?_
      refine zm_put_below (x := ba) hx hb ht hown hK hZ hS tw_684 dM_sum_68 (fun H locs hZ hS => ?_)
      have hZ : zMD E B w (th, fa, le, ba, fb, sb9, pr) H := hZ
      refine lv_goto (tgt := 102) hx hb dM_sum_71 (by decide) ?_
      exact hend 102 (w, (th, fa, le, ba, fb, sb9, pr)) _ _ _ dM_sum_102 (⟨fr, ba, rfl, sum_val hj4 (Or.inr (Or.inl ⟨hbb, hge, rfl, rfl⟩))⟩) hZ hS
  · have hbb : ba = bb := bZ_eq.mp (by omega)
    refine lv_aload_n hx hb dM_sum_6 rfl (lv_at hl 1 rfl) ?_
    refine lv_aload_n hx hb dM_sum_7 rfl (lv_at hl 0 rfl) ?_
    refine zm_row hx hb ht hown hK hZ tw_683 dM_sum_8 ?_
    refine zcS_v (P' := fun (u : (Nat → Nat → Nat) × zC) H => zMD E B u.1 u.2 H) 2 (As := [.ref (B + ka), .ref (B + 4)]) (rest := []) ⟨hx, hb, hml, hown, ht⟩ (mM_copy l E B w0 (th, fa, le, be, fb, sb9, pr) ka hk_ka 4 (by decide) 264 hln_ka (by omega) 264 rfl (by omega) ha4) tw_798 tw_796 tw_797 tw_6 qM_copy (by rw [hR]; decide) hZ hK hl.1 rfl rfl (Nat.le_of_ble_eq_true rfl) dM_sum_11 ⟨Nat.zero_le _, Nat.zero_le _⟩ hS (fun u H locs hp hZ _ hS => ?_)
    obtain ⟨w, q9⟩ := u
    obtain ⟨ho, hq9, hcp⟩ := hp
    dsimp only at ho hq9 hZ hcp
    rw [hq9] at hZ
    have hv4 : rv (w 4) 264 = Av := by rw [hAv]; exact rv_congr (fun i hi => (hcp i hi).trans (if_pos hi))
    have fr : ∀ jx, jx ≠ 4 → w jx = w0 jx := fun jx h0 => (ho jx h0).trans (fr jx h0)
    refine lv_aload_n hx hb dM_sum_14 rfl (lv_at hl 0 rfl) ?_
    refine zm_row hx hb ht hown hK hZ tw_683 dM_sum_15 ?_
    refine lv_aload_n hx hb dM_sum_18 rfl (lv_at hl 3 rfl) ?_
    refine lv_aload_n hx hb dM_sum_19 rfl (lv_at hl 3 rfl) ?_
    refine zcS_i (P' := fun (u : (Nat → Nat → Nat) × zC) H => zMD E B u.1 u.2 H) 1 (As := [.ref (B + kb)]) (rest := [.ref (B + kb), .ref (B + 4)]) ⟨hx, hb, hml, hown, ht⟩ (mM_size l E B w (th, fa, le, be, fb, sb9, pr) kb hk_kb 264 hln_kb (by omega)) tw_774 tw_772 tw_773 tw_6 qM_size (by rw [hR]; decide) hZ hK hl.1 rfl rfl (Nat.le_of_ble_eq_true rfl) dM_sum_20 ⟨Nat.zero_le _, Nat.zero_le _⟩ hS (fun r9 u H locs hp hZ _ hS => ?_)
    obtain ⟨hu9, n, hr1, hn1, hn2, hn3⟩ := hp
    subst hr1
    subst hu9
    dsimp only at hZ
    refine lv_lconst (v := lZ (1)) hx hb dM_sum_23 (by decide) ?_
    refine lv_iconst (v := iZ (0)) hx hb dM_sum_24 (by decide) ?_
    refine W.eq (g2 := F0 m 25 ls (.int (iZ (bZ false)) :: .long (lZ ((1 : Nat) : Int)) :: .int (iZ ((n : Nat) : Int)) :: .ref (B + kb) :: .ref (B + 4) :: [])) rfl ?_
    refine zcS_v (P' := fun (u : (Nat → Nat → Nat) × zC) H => zMD E B u.1 u.2 H) 5 (As := [.ref (B + 4), .ref (B + kb), .int (iZ ((n : Nat) : Int)), .long (lZ ((1 : Nat) : Int)), .int (iZ (bZ false))]) (rest := []) ⟨hx, hb, hml, hown, ht⟩ (mM_join l E B w (th, fa, le, be, fb, sb9, pr) 4 (by decide) kb hk_kb rfl hln_kb hb4 n (by omega) 1 (by decide) false (hn2) (by rw [if_neg (by decide), hv4, fr kb hb4, ← hBv]; omega) (by rw [if_neg (by decide), hv4, fr kb hb4, ← hBv]; omega)) tw_801 tw_799 tw_800 tw_6 qM_join (by rw [hR]; decide) hZ hK hl.1 rfl rfl (Nat.le_of_ble_eq_true rfl) dM_sum_25 ⟨Nat.zero_le _, Nat.zero_le _⟩ hS (fun u H locs hp hZ _ hS => ?_)
    obtain ⟨w, q9⟩ := u
    obtain ⟨ho, hq9, hjn⟩ := hp
    dsimp only at ho hq9 hZ hjn
    rw [hq9] at hZ
    rw [if_neg (by decide)] at hjn
    rw [hv4, fr kb hb4, ← hBv] at hjn
    have hj4 : rv (w 4) 264 = Av + Bv := by omega
    have fr : ∀ jx, jx ≠ 4 → w jx = w0 jx := fun jx h0 => (ho jx h0).trans (fr jx h0)
    refine lv_aload_n hx hb dM_sum_28 rfl (lv_at hl 0 rfl) ?_
    refine lv_iload_n hx hb dM_sum_29 rfl (lv_at hl 2 rfl) ?_
    refine zm_put_below (x := ba) hx hb ht hown hK hZ hS tw_684 dM_sum_30 (fun H locs hZ hS => ?_)
    have hZ : zMD E B w (th, fa, le, ba, fb, sb9, pr) H := hZ
    refine lv_goto (tgt := 102) hx hb dM_sum_33 (by decide) ?_
    exact hend 102 (w, (th, fa, le, ba, fb, sb9, pr)) _ _ _ dM_sum_102 (⟨fr, ba, rfl, sum_val hj4 (Or.inl ⟨hbb, rfl, rfl⟩)⟩) hZ hS
