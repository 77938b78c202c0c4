/-- what told answers -/
def tld (x what : Int) (r : Int64) : Prop := (what = 0 → r = lZ x) ∧ (what = 1 → r = lZ x.sign) ∧ (what = 2 → ∃ q : Nat, bl (zu x) q ∧ r = lZ q) ∧ (what = 3 → r = lZ (pb (zu x) 2048)) ∧ (what = 4 → (x = 0 → r = lZ (-1)) ∧ (x ≠ 0 → ∃ t : Nat, lo1 x.natAbs t ∧ r = lZ t))
theorem tld_of {x what : Int} {r : Int64} (k : Int) (hk : what = k) (h : tld x k r) : tld x what r := hk ▸ h
/-- what written leaves -/
def wrel (x : Int) (b st : Nat) (g : Nat → Nat) (r : Nat) : Prop := ∃ m, ndg b x.natAbs m ∧ m ≤ 2048 ∧ dgs g 2049 b x.natAbs m ∧ (x < 0 → g (2048 - m) = 45) ∧ st = 2049 - m - (if x < 0 then 1 else 0) ∧ r = m + (if x < 0 then 1 else 0)
def rdv (base ct : Nat) (f : Nat → Nat) : Int := sgz ct f (hv base f (stt ct f) (ct - stt ct f))
theorem zX_sgz {ct : Nat} {f : Nat → Nat} {z : Nat} : zX (sgz ct f z) ↔ z < 2 ^ 2048 := by
  unfold zX sgz
  split
  · rw [Int.natAbs_neg, Int.natAbs_natCast]
  · rw [Int.natAbs_natCast]
theorem pb_le (x n : Nat) : pb x n ≤ n := by
  induction n generalizing x with
  | zero => exact Nat.le_refl _
  | succ n ih =>
    have := ih (x / 2)
    show x % 2 + pb (x / 2) n ≤ n + 1
    omega
set_option maxHeartbeats 4000000 in
set_option maxRecDepth 100000 in
theorem mS_told (l : Launch) (hl0 : l.stackTraces = false) (E : zE) (B : Nat) (rg : Nat → Int) (ct : Nat) (f : Nat → Nat) (st : Nat) (g : Nat → Nat) (a : Int) (hz_a : zi a) (what : Int) (hz_what : zi what) :
    vx_Met l yS_told (zws yS_told cS_told 4 (some .long)) { frames := 7, cells := 8, slots := 48, locals := 140 } (zPx E (zA B 80) (zQ E B (rg, ct, f, st, g)) [.ref (B), .int (iZ (a)), .int (iZ (what))]) (va_Ql (fun (r : Int64) (u : zS) => SP (rok a ∧ 0 ≤ what ∧ what ≤ 4) (False) (False) (fun τ => τ = (rg, ct, f, st, g)) (rg, ct, f, st, g) 0 u ∧ tld (rg a.toNat) what r) (fun u t => zQ E B u t.heap ∧ zK E t) (zA B 80)) (vx_X (fun u : Nat × zS => SP (rok a ∧ 0 ≤ what ∧ what ≤ 4) (False) (False) (fun τ => τ = (rg, ct, f, st, g)) (rg, ct, f, st, g) u.1 u.2 ∧ u.1 ≠ 0) (fun C u t => (fun (C : String) (u : Nat × zS) (H : Heap) => C = zcl u.1 ∧ zQ E B u.2 H) C u t.heap ∧ zK E t) (zA B 80)) 8 48 (zA B 80) := by
  refine zox_l (P' := fun (u : zS) H => zQ E B u H) (BX := fun (C : String) (u : Nat × zS) (H : Heap) => C = zcl u.1 ∧ zQ E B u.2 H) hl0 (fun C u H H1 _ hq h => ⟨h.1, zQ_grow hq h.2⟩) (by decide) (Nat.le_of_ble_eq_true rfl) fun p e R s m args below meth c Q ls hR hx hb hml ht hown hK hZ hH hl hend hthr hpas => ?_
  have hS : va_S (zA B 80) s.heap s.heap [] := va_S.rf
  have hown : s.vm.findClass "WholeDesk" = some m.cls := hown
  have hl : lv_has ls 4 [(0, .ref (B)), (1, .int (iZ (a))), (2, .int (iZ (what)))] := hl
  obtain ⟨hok, v0, an0, sp0, hZ, hA0, hr⟩ := hZ
  dsimp only at hZ hr
  have fr : ∀ j, j < 22 → v0 j = v0 j := fun j _ => rfl
  refine lv_iload_n hx hb dS_told_0 rfl (lv_at hl 1 rfl) ?_
  refine zxS_v (P' := fun (u : Unit) H => zD E B v0 (zF E B an0 sp0 ct f st g) H) (BX := fun (C : String) (u : Unit) (H : Heap) => C = "java/lang/IllegalArgumentException" ∧ zD E B v0 (zF E B an0 sp0 ct f st g) H) 1 (As := [.int (iZ (a))]) (rest := []) ⟨hx, hb, hml, hown, ht⟩ (mS_testRegister l hl0 E B v0 (zF E B an0 sp0 ct f st g) (a) (hz_a)) tw_246 tw_244 tw_245 tw_1 qS_testRegister (by rw [hR]; decide) hZ hK hH hl.1 rfl rfl (Nat.le_of_ble_eq_true rfl) dS_told_1 (by rw [hR]; decide) hS (fun C ce q9 u H locs hp hZ hS hce hcv hcl => hpas C ce q9 _ (1, (rg, ct, f, st, g)) H locs _ _ _ _ (by decide) (⟨Or.inl ⟨rfl, fun h9 => hp (by first | exact h9 | exact h9.1 | exact h9.2.1 | exact h9.2.2.1 | exact h9.2.2.2.1 | exact h9.2.2.2 | exact h9.2.2 | exact h9.2), rfl⟩, by show 1 ≠ 0; decide⟩) (⟨hZ.1, ⟨hok, v0, an0, sp0, hZ.2, hA0, zR_same fr hr⟩⟩) hS hce hcv hcl) (fun u H locs hp hZ _ hS => ?_)
  obtain ⟨na, rfl⟩ : ∃ n : Nat, a = (n : Int) := ⟨a.toNat, by have := hp.1; omega⟩
  have hk_na : rok ↑na := hp
  have h10_na : na < 10 := by have := hp.2; omega
  refine lv_aload_n hx hb dS_told_4 rfl (lv_at hl 0 rfl) ?_
  refine zs_registers hx hb ht hown hK hZ tw_127 dS_told_5 ?_
  refine lv_iload_n hx hb dS_told_8 rfl (lv_at hl 1 rfl) ?_
  refine zs_reg (i := na) hx hb hK hZ h10_na dS_told_9 ?_
  have hN_na : zN (v0 (2 + 2 * na)) (rg na) := zR_same fr hr na h10_na
  have hX_na : zX (rg na) := hok.1 na h10_na
  refine lv_astore_n (lv' := [(3, .ref (B + (2 + 2 * na))), (0, .ref (B)), (1, .int (iZ (↑na))), (2, .int (iZ (what)))]) hx hb dS_told_10 rfl hl (by decide) rfl (fun ls hl => ?_)
  refine lv_iload_n hx hb dS_told_11 rfl (lv_at hl 3 rfl) ?_
  have hti : (iZ what).toInt = what := iZ_toInt hz_what
  obtain h9 | h9 | h9 | h9 | h9 | h9 : what = 0 ∨ what = 1 ∨ what = 2 ∨ what = 3 ∨ what = 4 ∨ (what < 0 ∨ 4 < what) := by omega
  · refine lv_tableIn (tgt := 48) hx hb dS_told_12 (by rw [hti]; omega) (by rw [hti]; omega) (by rw [hti, h9]; rfl) (by decide) ?_
    have h0w : 0 ≤ what := by omega
    have h4w : what ≤ 4 := by omega
    refine lv_aload_n hx hb dS_told_48 rfl (lv_at hl 0 rfl) ?_
    refine zcV_l  0 (As := []) (rest := []) rfl ⟨hx, hb, hml, hown, ht⟩ (mW_lowest64 l E B v0 (zF E B an0 sp0 ct f st g) (2 + 2 * na) (lp_reg h10_na) (v0 (2 + 2 * na)).1 (v0 (2 + 2 * na)).2.1 (v0 (2 + 2 * na)).2.2 rfl (rg na) hN_na) tw_634 tw_631 tw_632 tw_633 tw_2 qW_lowest64 (by rw [hR]; decide) (zW_recv hK hZ (lp_reg h10_na)) hZ hK hl.1 rfl rfl (Nat.le_of_ble_eq_true rfl) dS_told_49 (by rw [hR]; decide) hS (fun r9 v1 H locs hp hZ _ hS => ?_)
    obtain ⟨hv1, hr1⟩ := hp
    rw [hv1] at hZ
    subst hr1
    clear hv1 v1
    exact hend 52 _ (rg, ct, f, st, g) _ _ _ _ _ (by decide) dS_told_52 (⟨Or.inr (Or.inr (Or.inr ⟨rfl, by repeat (first | assumption | constructor), rfl⟩)), tld_of 0 h9 ⟨fun _ => rfl, fun h => absurd h (by decide), fun h => absurd h (by decide), fun h => absurd h (by decide), fun h => absurd h (by decide)⟩⟩) (⟨hok, v0, an0, sp0, hZ, hA0, zR_same fr hr⟩) hS
  · refine lv_tableIn (tgt := 53) hx hb dS_told_12 (by rw [hti]; omega) (by rw [hti]; omega) (by rw [hti, h9]; rfl) (by decide) ?_
    have h0w : 0 ≤ what := by omega
    have h4w : what ≤ 4 := by omega
    refine lv_aload_n hx hb dS_told_53 rfl (lv_at hl 0 rfl) ?_
    refine zcV_i  0 (As := []) (rest := []) rfl ⟨hx, hb, hml, hown, ht⟩ (mW_sign l E B v0 (zF E B an0 sp0 ct f st g) (2 + 2 * na) (lp_reg h10_na) (v0 (2 + 2 * na)).1 (v0 (2 + 2 * na)).2.1 (v0 (2 + 2 * na)).2.2 rfl) tw_438 tw_435 tw_436 tw_437 tw_2 qW_sign (by rw [hR]; decide) (zW_recv hK hZ (lp_reg h10_na)) hZ hK hl.1 rfl rfl (Nat.le_of_ble_eq_true rfl) dS_told_54 (by rw [hR]; decide) hS (fun r9 v1 H locs hp hZ _ hS => ?_)
    obtain ⟨hv1, hr1⟩ := hp
    rw [hv1] at hZ
    rw [sgn_x hN_na] at hr1
    subst hr1
    clear hv1 v1
    have hsb := sgn_b (rg na)
    refine zr_i2l hx hb (by unfold zi; omega) dS_told_57 ?_
    exact hend 58 _ (rg, ct, f, st, g) _ _ _ _ _ (by decide) dS_told_58 (⟨Or.inr (Or.inr (Or.inr ⟨rfl, by repeat (first | assumption | constructor), rfl⟩)), tld_of 1 h9 ⟨fun h => absurd h (by decide), fun _ => rfl, fun h => absurd h (by decide), fun h => absurd h (by decide), fun h => absurd h (by decide)⟩⟩) (⟨hok, v0, an0, sp0, hZ, hA0, zR_same fr hr⟩) hS
  · refine lv_tableIn (tgt := 59) hx hb dS_told_12 (by rw [hti]; omega) (by rw [hti]; omega) (by rw [hti, h9]; rfl) (by decide) ?_
    have h0w : 0 ≤ what := by omega
    have h4w : what ≤ 4 := by omega
    refine lv_aload_n hx hb dS_told_59 rfl (lv_at hl 0 rfl) ?_
    refine zcV_i  0 (As := []) (rest := []) rfl ⟨hx, hb, hml, hown, ht⟩ (mW_length l E B v0 (zF E B an0 sp0 ct f st g) (2 + 2 * na) (lp_reg h10_na) (v0 (2 + 2 * na)).1 (v0 (2 + 2 * na)).2.1 (v0 (2 + 2 * na)).2.2 rfl (rg na) hN_na) tw_638 tw_635 tw_636 tw_637 tw_2 qW_length (by rw [hR]; decide) (zW_recv hK hZ (lp_reg h10_na)) hZ hK hl.1 rfl rfl (Nat.le_of_ble_eq_true rfl) dS_told_60 (by rw [hR]; decide) hS (fun r9 v1 H locs hp hZ _ hS => ?_)
    obtain ⟨hv1, q, hr1, hbl⟩ := hp
    rw [hv1] at hZ
    subst hr1
    clear hv1 v1
    have hq2 : q ≤ 2048 := (bl_le hbl).mpr (zX_u hX_na)
    refine zr_i2l hx hb (by unfold zi; omega) dS_told_63 ?_
    exact hend 64 _ (rg, ct, f, st, g) _ _ _ _ _ (by decide) dS_told_64 (⟨Or.inr (Or.inr (Or.inr ⟨rfl, by repeat (first | assumption | constructor), rfl⟩)), tld_of 2 h9 ⟨fun h => absurd h (by decide), fun h => absurd h (by decide), fun _ => ⟨q, hbl, rfl⟩, fun h => absurd h (by decide), fun h => absurd h (by decide)⟩⟩) (⟨hok, v0, an0, sp0, hZ, hA0, zR_same fr hr⟩) hS
  · refine lv_tableIn (tgt := 65) hx hb dS_told_12 (by rw [hti]; omega) (by rw [hti]; omega) (by rw [hti, h9]; rfl) (by decide) ?_
    have h0w : 0 ≤ what := by omega
    have h4w : what ≤ 4 := by omega
    refine lv_aload_n hx hb dS_told_65 rfl (lv_at hl 0 rfl) ?_
    refine zcV_i  0 (As := []) (rest := []) rfl ⟨hx, hb, hml, hown, ht⟩ (mW_unlikeBits l E B v0 (zF E B an0 sp0 ct f st g) (2 + 2 * na) (lp_reg h10_na) (v0 (2 + 2 * na)).1 (v0 (2 + 2 * na)).2.1 (v0 (2 + 2 * na)).2.2 rfl (rg na) hN_na hX_na) tw_643 tw_640 tw_641 tw_642 tw_2 qW_unlikeBits (by rw [hR]; decide) (zW_recv hK hZ (lp_reg h10_na)) hZ hK hl.1 rfl rfl (Nat.le_of_ble_eq_true rfl) dS_told_66 (by rw [hR]; decide) hS (fun r9 v1 H locs hp hZ _ hS => ?_)
    obtain ⟨hv1, hr1⟩ := hp
    rw [hv1] at hZ
    subst hr1
    clear hv1 v1
    refine zr_i2l hx hb (by have := pb_le (zu (rg na)) 2048; unfold zi; omega) dS_told_69 ?_
    exact hend 70 _ (rg, ct, f, st, g) _ _ _ _ _ (by decide) dS_told_70 (⟨Or.inr (Or.inr (Or.inr ⟨rfl, by repeat (first | assumption | constructor), rfl⟩)), tld_of 3 h9 ⟨fun h => absurd h (by decide), fun h => absurd h (by decide), fun h => absurd h (by decide), fun _ => rfl, fun h => absurd h (by decide)⟩⟩) (⟨hok, v0, an0, sp0, hZ, hA0, zR_same fr hr⟩) hS
  · refine lv_tableIn (tgt := 71) hx hb dS_told_12 (by rw [hti]; omega) (by rw [hti]; omega) (by rw [hti, h9]; rfl) (by decide) ?_
    have h0w : 0 ≤ what := by omega
    have h4w : what ≤ 4 := by omega
    refine lv_aload_n hx hb dS_told_71 rfl (lv_at hl 0 rfl) ?_
    refine zcV_i  0 (As := []) (rest := []) rfl ⟨hx, hb, hml, hown, ht⟩ (mW_lowestOne l E B v0 (zF E B an0 sp0 ct f st g) (2 + 2 * na) (lp_reg h10_na) (v0 (2 + 2 * na)).1 (v0 (2 + 2 * na)).2.1 (v0 (2 + 2 * na)).2.2 rfl) tw_591 tw_644 tw_589 tw_590 tw_2 qW_lowestOne (by rw [hR]; decide) (zW_recv hK hZ (lp_reg h10_na)) hZ hK hl.1 rfl rfl (Nat.le_of_ble_eq_true rfl) dS_told_72 (by rw [hR]; decide) hS (fun r9 v1 H locs hp hZ _ hS => ?_)
    obtain ⟨hv1, hr0, hr1⟩ := hp
    rw [hv1] at hZ
    clear hv1 v1
    have hlo : ∃ y : Int, r9 = iZ y ∧ zi y ∧ tld (rg na) 4 (lZ y) := by
      by_cases h0 : rg na = 0
      · refine ⟨-1, hr0 (fun i hi => absurd hi (by rw [(zN_0 hN_na).mpr h0]; exact Nat.not_lt_zero _)), by unfold zi; omega, ?_⟩
        exact ⟨fun h => absurd h (by decide), fun h => absurd h (by decide), fun h => absurd h (by decide), fun h => absurd h (by decide), fun _ => ⟨fun _ => rfl, fun h => absurd h0 h⟩⟩
      · obtain ⟨t, ht9, ht1⟩ := hr1 (zN_some (b := (v0 (2 + 2 * na)).2.2) hN_na h0)
        rw [← zN_abs hN_na] at ht1
        have h9 := lo1_le (k := 2048) ht1 hX_na
        refine ⟨t, ht9, by unfold zi; omega, ?_⟩
        exact ⟨fun h => absurd h (by decide), fun h => absurd h (by decide), fun h => absurd h (by decide), fun h => absurd h (by decide), fun _ => ⟨fun h => absurd h h0, fun _ => ⟨t, ht1, rfl⟩⟩⟩
    obtain ⟨y, hy, hyz, hty⟩ := hlo
    subst hy
    refine zr_i2l hx hb (hyz) dS_told_75 ?_
    exact hend 76 _ (rg, ct, f, st, g) _ _ _ _ _ (by decide) dS_told_76 (⟨Or.inr (Or.inr (Or.inr ⟨rfl, by repeat (first | assumption | constructor), rfl⟩)), tld_of 4 h9 hty⟩) (⟨hok, v0, an0, sp0, hZ, hA0, zR_same fr hr⟩) hS
  · refine lv_tableOut (tgt := 77) hx hb dS_told_12 (by rw [hti]; omega) (by decide) ?_
    exact hthr _ _ _ _ _ _ 77 (1, (rg, ct, f, st, g)) _ _ _ _ _ _ zs_S_told_77 hown dS_told_77 dS_told_80 dS_told_81 dS_told_83 dS_told_86 hl.1 (by rw [hR]; decide) (by decide) (⟨Or.inl ⟨rfl, fun h8 => by have h7 := h8.2; omega, rfl⟩, by show 1 ≠ 0; decide⟩) (⟨rfl, ⟨hok, v0, an0, sp0, hZ, hA0, zR_same fr hr⟩⟩) hS

set_option maxHeartbeats 4000000 in
set_option maxRecDepth 100000 in
theorem mS_written (l : Launch) (hl0 : l.stackTraces = false) (E : zE) (B : Nat) (rg : Nat → Int) (ct : Nat) (f : Nat → Nat) (st : Nat) (g : Nat → Nat) (a : Int) (hz_a : zi a) (base : Int) (hz_base : zi base) :
    vx_Met l yS_written (zws yS_written cS_written 3 (some .int)) { frames := 7, cells := 8, slots := 48, locals := 140 } (zPx E (zA B 80) (zQ E B (rg, ct, f, st, g)) [.ref (B), .int (iZ (a)), .int (iZ (base))]) (va_Qi (fun (r : Int32) (u : zS) => SP (rok a ∧ (2 ≤ base ∧ base ≤ 36)) (False) (False) (fun τ => τ.1 = rg ∧ τ.2.1 = ct ∧ τ.2.2.1 = f) (rg, ct, f, st, g) 0 u ∧ ∃ q : Nat, r = iZ q ∧ wrel (rg a.toNat) base.toNat u.2.2.2.1 u.2.2.2.2 q) (fun u t => zQ E B u t.heap ∧ zK E t) (zA B 80)) (vx_X (fun u : Nat × zS => SP (rok a ∧ (2 ≤ base ∧ base ≤ 36)) (False) (False) (fun τ => τ.1 = rg ∧ τ.2.1 = ct ∧ τ.2.2.1 = f) (rg, ct, f, st, g) u.1 u.2 ∧ u.1 ≠ 0) (fun C u t => (fun (C : String) (u : Nat × zS) (H : Heap) => C = zcl u.1 ∧ zQ E B u.2 H) C u t.heap ∧ zK E t) (zA B 80)) 8 48 (zA B 80) := by
  refine zox_i (P' := fun (u : zS) H => zQ E B u H) (BX := fun (C : String) (u : Nat × zS) (H : Heap) => C = zcl u.1 ∧ zQ E B u.2 H) hl0 (fun C u H H1 _ hq h => ⟨h.1, zQ_grow hq h.2⟩) (by decide) (Nat.le_of_ble_eq_true rfl) fun p e R s m args below meth c Q ls hR hx hb hml ht hown hK hZ hH hl hend hthr hpas => ?_
  have hS : va_S (zA B 80) s.heap s.heap [] := va_S.rf
  have hown : s.vm.findClass "WholeDesk" = some m.cls := hown
  have hl : lv_has ls 3 [(0, .ref (B)), (1, .int (iZ (a))), (2, .int (iZ (base)))] := hl
  obtain ⟨hok, v0, an0, sp0, hZ, hA0, hr⟩ := hZ
  dsimp only at hZ hr
  have fr : ∀ j, j < 22 → v0 j = v0 j := fun j _ => rfl
  refine lv_iload_n hx hb dS_written_0 rfl (lv_at hl 1 rfl) ?_
  refine zxS_v (P' := fun (u : Unit) H => zD E B v0 (zF E B an0 sp0 ct f st g) H) (BX := fun (C : String) (u : Unit) (H : Heap) => C = "java/lang/IllegalArgumentException" ∧ zD E B v0 (zF E B an0 sp0 ct f st g) H) 1 (As := [.int (iZ (a))]) (rest := []) ⟨hx, hb, hml, hown, ht⟩ (mS_testRegister l hl0 E B v0 (zF E B an0 sp0 ct f st g) (a) (hz_a)) tw_246 tw_244 tw_245 tw_1 qS_testRegister (by rw [hR]; decide) hZ hK hH hl.1 rfl rfl (Nat.le_of_ble_eq_true rfl) dS_written_1 (by rw [hR]; decide) hS (fun C ce q9 u H locs hp hZ hS hce hcv hcl => hpas C ce q9 _ (1, (rg, ct, f, st, g)) H locs _ _ _ _ (by decide) (⟨Or.inl ⟨rfl, fun h9 => hp (by first | exact h9 | exact h9.1 | exact h9.2.1 | exact h9.2.2.1 | exact h9.2.2.2.1 | exact h9.2.2.2 | exact h9.2.2 | exact h9.2), rfl⟩, by show 1 ≠ 0; decide⟩) (⟨hZ.1, ⟨hok, v0, an0, sp0, hZ.2, hA0, zR_same fr hr⟩⟩) hS hce hcv hcl) (fun u H locs hp hZ _ hS => ?_)
  obtain ⟨na, rfl⟩ : ∃ n : Nat, a = (n : Int) := ⟨a.toNat, by have := hp.1; omega⟩
  have hk_na : rok ↑na := hp
  have h10_na : na < 10 := by have := hp.2; omega
  refine lv_iload_n hx hb dS_written_4 rfl (lv_at hl 2 rfl) ?_
  refine zxS_v (P' := fun (u : Unit) H => zD E B v0 (zF E B an0 sp0 ct f st g) H) (BX := fun (C : String) (u : Unit) (H : Heap) => C = "java/lang/IllegalArgumentException" ∧ zD E B v0 (zF E B an0 sp0 ct f st g) H) 1 (As := [.int (iZ (base))]) (rest := []) ⟨hx, hb, hml, hown, ht⟩ (mS_testBase l hl0 E B v0 (zF E B an0 sp0 ct f st g) (base) (hz_base)) tw_250 tw_248 tw_249 tw_1 qS_testBase (by rw [hR]; decide) hZ hK hH hl.1 rfl rfl (Nat.le_of_ble_eq_true rfl) dS_written_5 (by rw [hR]; decide) hS (fun C ce q9 u H locs hp hZ hS hce hcv hcl => hpas C ce q9 _ (1, (rg, ct, f, st, g)) H locs _ _ _ _ (by decide) (⟨Or.inl ⟨rfl, fun h9 => hp (by first | exact h9 | exact h9.1 | exact h9.2.1 | exact h9.2.2.1 | exact h9.2.2.2.1 | exact h9.2.2.2 | exact h9.2.2 | exact h9.2), rfl⟩, by show 1 ≠ 0; decide⟩) (⟨hZ.1, ⟨hok, v0, an0, sp0, hZ.2, hA0, zR_same fr hr⟩⟩) hS hce hcv hcl) (fun u H locs hp hZ _ hS => ?_)
  obtain ⟨nbase, rfl⟩ : ∃ n : Nat, base = (n : Int) := ⟨base.toNat, by have := hp.1; omega⟩
  have hk_nbase : 2 ≤ ((nbase : Nat) : Int) ∧ ((nbase : Nat) : Int) ≤ 36 := hp
  refine lv_aload_n hx hb dS_written_8 rfl (lv_at hl 0 rfl) ?_
  refine zs_writing hx hb ht hown hK hZ tw_130 dS_written_9 ?_
  refine lv_aload_n hx hb dS_written_12 rfl (lv_at hl 0 rfl) ?_
  refine zs_registers hx hb ht hown hK hZ tw_127 dS_written_13 ?_
  refine lv_iload_n hx hb dS_written_16 rfl (lv_at hl 1 rfl) ?_
  refine zs_reg (i := na) hx hb hK hZ h10_na dS_written_17 ?_
  have hN_na : zN (v0 (2 + 2 * na)) (rg na) := zR_same fr hr na h10_na
  have hX_na : zX (rg na) := hok.1 na h10_na
  refine lv_iload_n hx hb dS_written_18 rfl (lv_at hl 2 rfl) ?_
  have hbs : 2 ≤ nbase ∧ nbase ≤ 36 := by have := hk_nbase.1; have := hk_nbase.2; omega
  refine zcV_i (P' := fun (u : (Nat → zV) × Nat × (Nat → Nat)) H => zD E B u.1 (zg E B (zo E B (zd E B (zs E B) ct f) an0 sp0) u.2.1 u.2.2) H) 2 (As := [.ref (B + (2 + 2 * na)), .int (iZ (↑nbase))]) (rest := []) rfl ⟨hx, hb, hml, hown, ht⟩ (mG_fill l E B v0 (zo E B (zd E B (zs E B) ct f) an0 sp0) st g (2 + 2 * na) (lp_reg h10_na) (rg na) hN_na hX_na (by omega) nbase hbs hok.2.2.2.2) tw_656 tw_653 tw_654 tw_655 tw_5 qG_fill (by rw [hR]; decide) (zg_recv hK (show zD E B v0 (zg E B (zo E B (zd E B (zs E B) ct f) an0 sp0) st g) _ by rw [← zF_g]; exact hZ)) (show zD E B v0 (zg E B (zo E B (zd E B (zs E B) ct f) an0 sp0) st g) _ by rw [← zF_g]; exact hZ) hK hl.1 rfl rfl (Nat.le_of_ble_eq_true rfl) dS_written_19 (by rw [hR]; decide) hS (fun r9 u H locs hp hZ _ hS => ?_)
  obtain ⟨v, st9, g9⟩ := u
  obtain ⟨ho, m9, hw1, hw2, hw3, hw4, hw5, hw6, hw7⟩ := hp
  dsimp only at *
  subst hw7
  have fr : ∀ j, j < 22 → v j = v0 j := fun j hj => (ho j (by omega)).trans (fr j hj)
  have hZ : zD E B v (zF E B an0 sp0 ct f st9 g9) H := by rw [zF_g]; exact hZ
  exact hend 22 _ (rg, ct, f, st9, g9) _ _ _ _ _ (by decide) dS_written_22 (⟨Or.inr (Or.inr (Or.inr ⟨rfl, ⟨hk_na, hk_nbase⟩, rfl, rfl, rfl⟩)), _, rfl, m9, hw1, hw2, hw3, hw5, hw6, rfl⟩) (⟨⟨hok.1, hok.2.1, hok.2.2.1, by show st9 ≤ 2049; omega, hw4⟩, v, an0, sp0, hZ, hA0, zR_same fr hr⟩) hS

theorem wrt_lt {f : Nat → Nat} {ct n : Nat} {z : Int} (hf : ∀ i, f i < 256) (i : Nat) : wrt f ct n z i < 256 := by
  unfold wrt
  split
  · exact byt_lt _ _
  · exact hf i
set_option maxHeartbeats 4000000 in
set_option maxRecDepth 100000 in
theorem mS_write (l : Launch) (hl0 : l.stackTraces = false) (E : zE) (B : Nat) (rg : Nat → Int) (ct : Nat) (f : Nat → Nat) (st : Nat) (g : Nat → Nat) (n : Int) (hz_n : zi n) (z : Int) :
    vx_Met l yS_write (zws yS_write cS_write 4 (some .int)) { frames := 7, cells := 8, slots := 48, locals := 140 } (zPx E (zA B 80) (zQ E B (rg, ct, f, st, g)) [.ref (B), .int (iZ (n)), .long (lZ (z))]) (va_Qi (fun (r : Int32) (u : zS) => SP (1 ≤ n ∧ n ≤ 8) (False) (False) (fun τ => τ = if ct + n.toNat ≤ 2100 then (rg, ct + n.toNat, wrt f ct n.toNat z, st, g) else (rg, ct, f, st, g)) (rg, ct, f, st, g) 0 u ∧ r = iZ (if ct + n.toNat ≤ 2100 then ((ct + n.toNat : Nat) : Int) else -1)) (fun u t => zQ E B u t.heap ∧ zK E t) (zA B 80)) (vx_X (fun u : Nat × zS => SP (1 ≤ n ∧ n ≤ 8) (False) (False) (fun τ => τ = if ct + n.toNat ≤ 2100 then (rg, ct + n.toNat, wrt f ct n.toNat z, st, g) else (rg, ct, f, st, g)) (rg, ct, f, st, g) u.1 u.2 ∧ u.1 ≠ 0) (fun C u t => (fun (C : String) (u : Nat × zS) (H : Heap) => C = zcl u.1 ∧ zQ E B u.2 H) C u t.heap ∧ zK E t) (zA B 80)) 8 48 (zA B 80) := by
  refine zox_i (P' := fun (u : zS) H => zQ E B u H) (BX := fun (C : String) (u : Nat × zS) (H : Heap) => C = zcl u.1 ∧ zQ E B u.2 H) hl0 (fun C u H H1 _ hq h => ⟨h.1, zQ_grow hq h.2⟩) (by decide) (Nat.le_of_ble_eq_true rfl) fun p e R s m args below meth c Q ls hR hx hb hml ht hown hK hZ hH hl hend hthr hpas => ?_
  have hS : va_S (zA B 80) s.heap s.heap [] := va_S.rf
  have hown : s.vm.findClass "WholeDesk" = some m.cls := hown
  have hl : lv_has ls 4 [(0, .ref (B)), (1, .int (iZ (n))), (2, .long (lZ (z)))] := hl
  obtain ⟨hok, v0, an0, sp0, hZ, hA0, hr⟩ := hZ
  dsimp only at hZ hr
  have fr : ∀ j, j < 22 → v0 j = v0 j := fun j _ => rfl
  refine lv_iload_n hx hb dS_write_0 rfl (lv_at hl 1 rfl) ?_
  refine lv_iconst (v := iZ (1)) hx hb dS_write_1 (by decide) ?_
  refine zr_icmp_lt (tgt := 11) hx hb hz_n (by unfold zi; omega) dS_write_2 (by decide) (fun c_1 => ?_) (fun c_1 => ?_)
  · exact hthr _ _ _ _ _ _ 11 (1, (rg, ct, f, st, g)) _ _ _ _ _ _ zs_S_write_11 hown dS_write_11 dS_write_14 dS_write_15 dS_write_17 dS_write_20 hl.1 (by rw [hR]; decide) (by decide) (⟨Or.inl ⟨rfl, fun h9 => by have h8 := h9.1; have h7 := h9.2; omega, rfl⟩, by show 1 ≠ 0; decide⟩) (⟨rfl, ⟨hok, v0, an0, sp0, hZ, hA0, zR_same fr hr⟩⟩) hS
  · refine lv_iload_n hx hb dS_write_5 rfl (lv_at hl 1 rfl) ?_
    refine lv_bipush (v := iZ (8)) hx hb dS_write_6 (by decide) ?_
    refine zr_icmp_le (tgt := 21) hx hb hz_n (by unfold zi; omega) dS_write_8 (by decide) (fun c_2 => ?_) (fun c_2 => ?_)
    · have hgd : 1 ≤ n ∧ n ≤ 8 := ⟨by omega, by omega⟩
      obtain ⟨nn, rfl⟩ : ∃ q : Nat, n = (q : Int) := ⟨n.toNat, by omega⟩
      refine lv_aload_n hx hb dS_write_21 rfl (lv_at hl 0 rfl) ?_
      refine zs_draft hx hb ht hown hK hZ tw_129 dS_write_22 ?_
      refine lv_iload_n hx hb dS_write_25 rfl (lv_at hl 1 rfl) ?_
      refine lv_lload_n hx hb dS_write_26 rfl (lv_at hl 2 rfl) ?_
      refine zcV_i (P' := fun (u : (Nat → zV) × Nat × (Nat → Nat)) H => zD E B u.1 (zd E B (zo E B (zg E B (zs E B) st g) an0 sp0) u.2.1 u.2.2) H) 2 (As := [.int (iZ (↑nn)), .long (lZ (z))]) (rest := []) rfl ⟨hx, hb, hml, hown, ht⟩ (mD_append l E B v0 (zo E B (zg E B (zs E B) st g) an0 sp0) ct f nn (z) (by omega) hok.2.1) tw_234 tw_231 tw_232 tw_233 tw_4 qD_append (by rw [hR]; decide) (zd_recv hK (show zD E B v0 (zd E B (zo E B (zg E B (zs E B) st g) an0 sp0) ct f) _ by rw [← zF_d]; exact hZ)) (show zD E B v0 (zd E B (zo E B (zg E B (zs E B) st g) an0 sp0) ct f) _ by rw [← zF_d]; exact hZ) hK hl.1 rfl rfl (Nat.le_of_ble_eq_true rfl) dS_write_27 (by rw [hR]; decide) hS (fun r9 u H locs hp hZ _ hS => ?_)
      obtain ⟨hr1, hu⟩ := hp
      subst hr1
      refine zr_if_eq (tgt := 43) hx hb (by have := bZ_01 (decide (ct + nn ≤ 2100)); omega) dS_write_30 (by decide) (fun c_3 => ?_) (fun c_3 => ?_)
      · have hfit : ¬ ct + nn ≤ 2100 := of_decide_eq_false (bZ_f.mp (by assumption))
        rw [if_neg hfit] at hu
        subst hu
        dsimp only at hZ
        have hZ : zD E B v0 (zF E B an0 sp0 ct f st g) H := by rw [zF_d]; exact hZ
        refine lv_iconst (v := iZ (-1)) hx hb dS_write_43 (by decide) ?_
        exact hend 44 _ (rg, ct, f, st, g) _ _ _ _ _ (by decide) dS_write_44 (⟨Or.inr (Or.inr (Or.inr ⟨rfl, hgd, by rw [show ((nn : Nat) : Int).toNat = nn from rfl, if_neg hfit]⟩)), by rw [show ((nn : Nat) : Int).toNat = nn from rfl, if_neg hfit]⟩) (⟨hok, v0, an0, sp0, hZ, hA0, zR_same fr hr⟩) hS
      · have hfit : ct + nn ≤ 2100 := of_decide_eq_true (bZ_nf.mp (by assumption))
        rw [if_pos hfit] at hu
        subst hu
        dsimp only at hZ
        have hZ : zD E B v0 (zF E B an0 sp0 (ct + nn) (wrt f ct nn z) st g) H := by rw [zF_d]; exact hZ
        refine lv_aload_n hx hb dS_write_33 rfl (lv_at hl 0 rfl) ?_
        refine zs_draft hx hb ht hown hK hZ tw_129 dS_write_34 ?_
        refine zd_count (o := (zo E B (zg E B (zs E B) st g) an0 sp0)) (ct := ct + nn) (f := wrt f ct nn z) hx hb ht hown hK (by rw [← zF_d]; exact hZ) tw_98 dS_write_37 ?_
        refine lv_goto (tgt := 44) hx hb dS_write_40 (by decide) ?_
        exact hend 44 _ (rg, ct + nn, wrt f ct nn z, st, g) _ _ _ _ _ (by decide) dS_write_44 (⟨Or.inr (Or.inr (Or.inr ⟨rfl, hgd, by rw [show ((nn : Nat) : Int).toNat = nn from rfl, if_pos hfit]⟩)), by rw [show ((nn : Nat) : Int).toNat = nn from rfl, if_pos hfit]⟩) (⟨⟨hok.1, hfit, fun i => wrt_lt hok.2.2.1 i, hok.2.2.2⟩, v0, an0, sp0, hZ, hA0, zR_same fr hr⟩) hS
    · exact hthr _ _ _ _ _ _ 11 (1, (rg, ct, f, st, g)) _ _ _ _ _ _ zs_S_write_11 hown dS_write_11 dS_write_14 dS_write_15 dS_write_17 dS_write_20 hl.1 (by rw [hR]; decide) (by decide) (⟨Or.inl ⟨rfl, fun h9 => by have h8 := h9.1; have h7 := h9.2; omega, rfl⟩, by show 1 ≠ 0; decide⟩) (⟨rfl, ⟨hok, v0, an0, sp0, hZ, hA0, zR_same fr hr⟩⟩) hS

set_option maxHeartbeats 4000000 in
set_option maxRecDepth 100000 in
theorem mS_read (l : Launch) (hl0 : l.stackTraces = false) (E : zE) (B : Nat) (rg : Nat → Int) (ct : Nat) (f : Nat → Nat) (st : Nat) (g : Nat → Nat) (to : Int) (hz_to : zi to) (base : Int) (hz_base : zi base) :
    vx_Met l yS_read (zws yS_read cS_read 3 none) { frames := 7, cells := 8, slots := 48, locals := 140 } (zPx E (zA B 80) (zQ E B (rg, ct, f, st, g)) [.ref (B), .int (iZ (to)), .int (iZ (base))]) (va_Qv (fun (u : zS) => SP (rok to ∧ (2 ≤ base ∧ base ≤ 36)) (¬ isnum ct f base.toNat) (isnum ct f base.toNat ∧ ¬ zX (rdv base.toNat ct f)) (fun τ => isnum ct f base.toNat ∧ zX (rdv base.toNat ct f) ∧ τ = (va_up rg to.toNat (rdv base.toNat ct f), 0, f, st, g)) (rg, ct, f, st, g) 0 u) (fun u t => zQ E B u t.heap ∧ zK E t) (zA B 80)) (vx_X (fun u : Nat × zS => SP (rok to ∧ (2 ≤ base ∧ base ≤ 36)) (¬ isnum ct f base.toNat) (isnum ct f base.toNat ∧ ¬ zX (rdv base.toNat ct f)) (fun τ => isnum ct f base.toNat ∧ zX (rdv base.toNat ct f) ∧ τ = (va_up rg to.toNat (rdv base.toNat ct f), 0, f, st, g)) (rg, ct, f, st, g) u.1 u.2 ∧ u.1 ≠ 0) (fun C u t => (fun (C : String) (u : Nat × zS) (H : Heap) => C = zcl u.1 ∧ zQ E B u.2 H) C u t.heap ∧ zK E t) (zA B 80)) 8 48 (zA B 80) := by
  refine zox_v (P' := fun (u : zS) H => zQ E B u H) (BX := fun (C : String) (u : Nat × zS) (H : Heap) => C = zcl u.1 ∧ zQ E B u.2 H) hl0 (fun C u H H1 _ hq h => ⟨h.1, zQ_grow hq h.2⟩) (by decide) (Nat.le_of_ble_eq_true rfl) fun p e R s m args below meth c Q ls hR hx hb hml ht hown hK hZ hH hl hend hthr hpas => ?_
  have hS : va_S (zA B 80) s.heap s.heap [] := va_S.rf
  have hown : s.vm.findClass "WholeDesk" = some m.cls := hown
  have hl : lv_has ls 3 [(0, .ref (B)), (1, .int (iZ (to))), (2, .int (iZ (base)))] := hl
  obtain ⟨hok, v0, an0, sp0, hZ, hA0, hr⟩ := hZ
  dsimp only at hZ hr
  have fr : ∀ j, j < 22 → v0 j = v0 j := fun j _ => rfl
  refine lv_iload_n hx hb dS_read_0 rfl (lv_at hl 1 rfl) ?_
  refine zxS_v (P' := fun (u : Unit) H => zD E B v0 (zF E B an0 sp0 ct f st g) H) (BX := fun (C : String) (u : Unit) (H : Heap) => C = "java/lang/IllegalArgumentException" ∧ zD E B v0 (zF E B an0 sp0 ct f st g) H) 1 (As := [.int (iZ (to))]) (rest := []) ⟨hx, hb, hml, hown, ht⟩ (mS_testRegister l hl0 E B v0 (zF E B an0 sp0 ct f st g) (to) (hz_to)) tw_246 tw_244 tw_245 tw_1 qS_testRegister (by rw [hR]; decide) hZ hK hH hl.1 rfl rfl (Nat.le_of_ble_eq_true rfl) dS_read_1 (by rw [hR]; decide) hS (fun C ce q9 u H locs hp hZ hS hce hcv hcl => hpas C ce q9 _ (1, (rg, ct, f, st, g)) H locs _ _ _ _ (by decide) (⟨Or.inl ⟨rfl, fun h9 => hp (by first | exact h9 | exact h9.1 | exact h9.2.1 | exact h9.2.2.1 | exact h9.2.2.2.1 | exact h9.2.2.2 | exact h9.2.2 | exact h9.2), rfl⟩, by show 1 ≠ 0; decide⟩) (⟨hZ.1, ⟨hok, v0, an0, sp0, hZ.2, hA0, zR_same fr hr⟩⟩) hS hce hcv hcl) (fun u H locs hp hZ _ hS => ?_)
  obtain ⟨nto, rfl⟩ : ∃ n : Nat, to = (n : Int) := ⟨to.toNat, by have := hp.1; omega⟩
  have hk_nto : rok ↑nto := hp
  have h10_nto : nto < 10 := by have := hp.2; omega
  refine lv_iload_n hx hb dS_read_4 rfl (lv_at hl 2 rfl) ?_
  refine zxS_v (P' := fun (u : Unit) H => zD E B v0 (zF E B an0 sp0 ct f st g) H) (BX := fun (C : String) (u : Unit) (H : Heap) => C = "java/lang/IllegalArgumentException" ∧ zD E B v0 (zF E B an0 sp0 ct f st g) H) 1 (As := [.int (iZ (base))]) (rest := []) ⟨hx, hb, hml, hown, ht⟩ (mS_testBase l hl0 E B v0 (zF E B an0 sp0 ct f st g) (base) (hz_base)) tw_250 tw_248 tw_249 tw_1 qS_testBase (by rw [hR]; decide) hZ hK hH hl.1 rfl rfl (Nat.le_of_ble_eq_true rfl) dS_read_5 (by rw [hR]; decide) hS (fun C ce q9 u H locs hp hZ hS hce hcv hcl => hpas C ce q9 _ (1, (rg, ct, f, st, g)) H locs _ _ _ _ (by decide) (⟨Or.inl ⟨rfl, fun h9 => hp (by first | exact h9 | exact h9.1 | exact h9.2.1 | exact h9.2.2.1 | exact h9.2.2.2.1 | exact h9.2.2.2 | exact h9.2.2 | exact h9.2), rfl⟩, by show 1 ≠ 0; decide⟩) (⟨hZ.1, ⟨hok, v0, an0, sp0, hZ.2, hA0, zR_same fr hr⟩⟩) hS hce hcv hcl) (fun u H locs hp hZ _ hS => ?_)
  obtain ⟨nbase, rfl⟩ : ∃ n : Nat, base = (n : Int) := ⟨base.toNat, by have := hp.1; omega⟩
  have hk_nbase : 2 ≤ ((nbase : Nat) : Int) ∧ ((nbase : Nat) : Int) ≤ 36 := hp
  have hbs : 2 ≤ nbase ∧ nbase ≤ 36 := by have := hk_nbase.1; have := hk_nbase.2; omega
  refine lv_aload_n hx hb dS_read_8 rfl (lv_at hl 0 rfl) ?_
  refine zs_draft hx hb ht hown hK hZ tw_129 dS_read_9 ?_
  refine lv_iload_n hx hb dS_read_12 rfl (lv_at hl 2 rfl) ?_
  refine zcV_i (P' := fun (u : (Nat → zV) × Nat × (Nat → Nat)) H => zD E B u.1 (zd E B (zo E B (zg E B (zs E B) st g) an0 sp0) u.2.1 u.2.2) H) 1 (As := [.int (iZ (↑nbase))]) (rest := []) rfl ⟨hx, hb, hml, hown, ht⟩ (mD_isNumber l E B v0 (zo E B (zg E B (zs E B) st g) an0 sp0) ct f hok.2.2.1 hok.2.1 nbase (by omega)) tw_255 tw_252 tw_253 tw_254 tw_4 qD_isNumber (by rw [hR]; decide) (zd_recv hK (show zD E B v0 (zd E B (zo E B (zg E B (zs E B) st g) an0 sp0) ct f) _ by rw [← zF_d]; exact hZ)) (show zD E B v0 (zd E B (zo E B (zg E B (zs E B) st g) an0 sp0) ct f) _ by rw [← zF_d]; exact hZ) hK hl.1 rfl rfl (Nat.le_of_ble_eq_true rfl) dS_read_13 (by rw [hR]; decide) hS (fun r9 u H locs hp hZ _ hS => ?_)
  obtain ⟨hu, bb, hr1, hbb⟩ := hp
  subst hr1
  subst hu
  dsimp only at hZ
  have hZ : zD E B v0 (zF E B an0 sp0 ct f st g) H := by rw [zF_d]; exact hZ
  refine zr_if_ne (tgt := 29) hx hb (by have := bZ_01 bb; omega) dS_read_16 (by decide) (fun c_1 => ?_) (fun c_1 => ?_)
  · have hnum : isnum ct f nbase := hbb.mp (bZ_nf.mp (by assumption))
    refine lv_aload_n hx hb dS_read_29 rfl (lv_at hl 0 rfl) ?_
    refine lv_aload_n hx hb dS_read_30 rfl (lv_at hl 0 rfl) ?_
    refine zs_draft hx hb ht hown hK hZ tw_129 dS_read_31 ?_
    refine lv_iload_n hx hb dS_read_34 rfl (lv_at hl 2 rfl) ?_
    refine zcV_r (P' := fun (u : (Nat → zV) × Nat × (Nat → Nat)) a H => a = B + 74 ∧ zD E B u.1 (zd E B (zo E B (zg E B (zs E B) st g) an0 sp0) u.2.1 u.2.2) H) 1 (As := [.int (iZ (↑nbase))]) (rest := [.ref (B)]) rfl ⟨hx, hb, hml, hown, ht⟩ (mD_parsed l E B v0 (zo E B (zg E B (zs E B) st g) an0 sp0) ct f hok.2.2.1 hok.2.1 nbase hbs hnum) tw_286 tw_283 tw_284 tw_285 tw_4 qD_parsed (by rw [hR]; decide) (zd_recv hK (show zD E B v0 (zd E B (zo E B (zg E B (zs E B) st g) an0 sp0) ct f) _ by rw [← zF_d]; exact hZ)) (show zD E B v0 (zd E B (zo E B (zg E B (zs E B) st g) an0 sp0) ct f) _ by rw [← zF_d]; exact hZ) hK hl.1 rfl rfl (Nat.le_of_ble_eq_true rfl) dS_read_35 (by rw [hR]; decide) hS (fun u r9 H locs hp hZ _ hS => ?_)
    obtain ⟨v, ct9, f9⟩ := u
    obtain ⟨er9, hZ⟩ := hZ
    obtain ⟨ho, hcf, z9, hN9, hz9⟩ := hp
    dsimp only at *
    subst er9
    obtain ⟨h1, h2⟩ := Prod.mk.injEq _ _ _ _ ▸ hcf
    rw [h1, h2] at hZ
    have fr : ∀ j, j < 22 → v j = v0 j := fun j hj => (ho j (by omega)).trans (fr j hj)
    have hZ : zD E B v (zF E B an0 sp0 ct f st g) H := by rw [zF_d]; exact hZ
    refine lv_iload_n hx hb dS_read_38 rfl (lv_at hl 1 rfl) ?_
    refine zxV_v (P' := fun (u : Nat → zV) H => zD E B u (zF E B an0 sp0 ct f st g) H) (BX := fun (C : String) (u : Unit) (H : Heap) => C = "java/lang/ArithmeticException" ∧ zD E B v (zF E B an0 sp0 ct f st g) H) 2 (As := [.ref (B + 74), .int (iZ (↑nto))]) (rest := []) rfl ⟨hx, hb, hml, hown, ht⟩ (mS_keep l hl0 E B v an0 sp0 ct f st g 74 (by decide) (sgz ct f z9) hN9 nto h10_nto (by omega)) tw_314 tw_311 tw_313 tp_4 tw_1 qS_keep (by rw [hR]; decide) (zs_recv hK hZ) hZ hK hH hl.1 rfl rfl (Nat.le_of_ble_eq_true rfl) dS_read_39 (by rw [hR]; decide) hS (fun C ce q9 u H locs hp hZ hS hce hcv hcl => hpas C ce q9 _ (3, (rg, ct, f, st, g)) H locs _ _ _ _ (by decide) (⟨Or.inr (Or.inr (Or.inl ⟨rfl, ⟨hk_nto, hk_nbase⟩, ⟨hnum, fun h9 => by unfold rdv at h9; rw [zX_sgz] at hp h9; rcases hz9 with h8 | h8; exact hp (by rw [h8]; exact h9); exact absurd h9 (Nat.not_lt.mpr h8.2)⟩, rfl⟩)), by show 3 ≠ 0; decide⟩) (⟨hZ.1, ⟨hok, v, an0, sp0, hZ.2, hA0, zR_same fr hr⟩⟩) hS hce hcv hcl) (fun v H locs hp hZ _ hS => ?_)
    obtain ⟨ho, hNk, hXk⟩ := hp
    have hzz : sgz ct f z9 = rdv nbase ct f := by have h9 := hXk; rw [zX_sgz] at h9; unfold rdv; rcases hz9 with h8 | h8; rw [h8]; exact absurd h9 (Nat.not_lt.mpr h8.1)
    rw [hzz] at hNk hXk
    have hQ9 : zR10 v (va_up rg nto (rdv nbase ct f)) := zR_up fr hr ho hNk
    have hok9 : okS (va_up rg nto (rdv nbase ct f), 0, f, st, g) := ⟨(okS_up (σ := (rg, ct, f, st, g)) hok hXk).1, Nat.zero_le _, hok.2.2⟩
    refine lv_aload_n hx hb dS_read_42 rfl (lv_at hl 0 rfl) ?_
    refine zs_draft hx hb ht hown hK hZ tw_129 dS_read_43 ?_
    refine lv_iconst (v := iZ (0)) hx hb dS_read_46 (by decide) ?_
    refine W.eq (g2 := F0 m 47 ls ([.int (iZ ((0 : Nat) : Int)), .ref (B + 72)])) rfl ?_
    refine zd_put_count (o := (zo E B (zg E B (zs E B) st g) an0 sp0)) (ct := ct) (f := f) (ct1 := 0) hx hb ht hown hK (by rw [← zF_d]; exact hZ) hS tw_98 dS_read_47 (fun H locs hZ hS => ?_)
    have hZ : zD E B v (zF E B an0 sp0 0 f st g) H := by rw [zF_d]; exact hZ
    exact hend 50 (va_up rg nto (rdv nbase ct f), 0, f, st, g) _ _ _ _ _ (by decide) dS_read_50 (Or.inr (Or.inr (Or.inr ⟨rfl, ⟨hk_nto, hk_nbase⟩, hnum, hXk, rfl⟩))) (⟨hok9, v, an0, sp0, hZ, hA0, hQ9⟩) hS
  · exact hthr _ _ _ _ _ _ 19 (2, (rg, ct, f, st, g)) _ _ _ _ _ _ zs_S_read_19 hown dS_read_19 dS_read_22 dS_read_23 dS_read_25 dS_read_28 hl.1 (by rw [hR]; decide) (by decide) (⟨Or.inr (Or.inl ⟨rfl, ⟨hk_nto, hk_nbase⟩, fun h9 => absurd (hbb.mpr h9) (by rw [show bb = false from bZ_f.mp (by assumption)]; decide), rfl⟩), by show 2 ≠ 0; decide⟩) (⟨rfl, ⟨hok, v0, an0, sp0, hZ, hA0, zR_same fr hr⟩⟩) hS

set_option maxHeartbeats 4000000 in
set_option maxRecDepth 100000 in
theorem mS_wipe (l : Launch) (E : zE) (B : Nat) (rg : Nat → Int) (ct : Nat) (f : Nat → Nat) (st : Nat) (g : Nat → Nat)  :
    Met l yS_wipe (zws yS_wipe cS_wipe 2 (some .int)) { frames := 0, cells := 0, slots := 0, locals := 0 } (zPc E (zQ E B (rg, ct, f, st, g)) [.ref (B)]) (va_Qi (fun (r : Int32) (u : zS) => r = iZ ct ∧ u = (rg, 0, f, st, g)) (fun u t => zQ E B u t.heap ∧ zK E t) (zA B 80)) 0 0 (zA B 80) := by
  refine zof_i (P' := fun (u : zS) H => zQ E B u H) (by decide) (Nat.le_of_ble_eq_true rfl) fun p e R s m args below meth c Q ls hR hx hb hml ht hown hK hZ hl hend => ?_
  have hS : va_S (zA B 80) s.heap s.heap [] := va_S.rf
  have hown : s.vm.findClass "WholeDesk" = some m.cls := hown
  have hl : lv_has ls 2 [(0, .ref (B))] := hl
  obtain ⟨hok, v0, an0, sp0, hZ, hA0, hr⟩ := hZ
  dsimp only at hZ hr
  have fr : ∀ j, j < 22 → v0 j = v0 j := fun j _ => rfl
  refine lv_aload_n hx hb dS_wipe_0 rfl (lv_at hl 0 rfl) ?_
  refine zs_draft hx hb ht hown hK hZ tw_129 dS_wipe_1 ?_
  refine zd_count (o := (zo E B (zg E B (zs E B) st g) an0 sp0)) (ct := ct) (f := f) hx hb ht hown hK (by rw [← zF_d]; exact hZ) tw_98 dS_wipe_4 ?_
  refine lv_istore_n (lv' := [(1, .int (iZ (↑ct))), (0, .ref (B))]) hx hb dS_wipe_7 rfl hl (by decide) rfl (fun ls hl => ?_)
  refine lv_aload_n hx hb dS_wipe_8 rfl (lv_at hl 1 rfl) ?_
  refine zs_draft hx hb ht hown hK hZ tw_129 dS_wipe_9 ?_
  refine lv_iconst (v := iZ (0)) hx hb dS_wipe_12 (by decide) ?_
  refine W.eq (g2 := F0 m 13 ls ([.int (iZ ((0 : Nat) : Int)), .ref (B + 72)])) rfl ?_
  refine zd_put_count (o := (zo E B (zg E B (zs E B) st g) an0 sp0)) (ct := ct) (f := f) (ct1 := 0) hx hb ht hown hK (by rw [← zF_d]; exact hZ) hS tw_98 dS_wipe_13 (fun H locs hZ hS => ?_)
  have hZ : zD E B v0 (zF E B an0 sp0 0 f st g) H := by rw [zF_d]; exact hZ
  refine lv_iload_n hx hb dS_wipe_16 rfl (lv_at hl 0 rfl) ?_
  exact hend 17 _ (rg, 0, f, st, g) _ _ _ dS_wipe_17 (⟨rfl, rfl⟩) (⟨⟨hok.1, Nat.zero_le _, hok.2.2⟩, v0, an0, sp0, hZ, hA0, hr⟩) hS

set_option maxHeartbeats 4000000 in
set_option maxRecDepth 100000 in
theorem mS_text (l : Launch) (E : zE) (B : Nat) (rg : Nat → Int) (ct : Nat) (f : Nat → Nat) (st : Nat) (g : Nat → Nat) (i : Int) (hz_i : zi i) :
    Met l yS_text (zws yS_text cS_text 2 (some .long)) { frames := 2, cells := 0, slots := 0, locals := 64 } (zPc E (zQ E B (rg, ct, f, st, g)) [.ref (B), .int (iZ (i))]) (va_Ql (fun (r : Int64) (u : zS) => r = lZ ↑(txt st g i 8) ∧ u = (rg, ct, f, st, g)) (fun u t => zQ E B u t.heap ∧ zK E t) (zA B 80)) 0 0 (zA B 80) := by
  refine zof_l (P' := fun (u : zS) H => zQ E B u H) (by decide) (Nat.le_of_ble_eq_true rfl) fun p e R s m args below meth c Q ls hR hx hb hml ht hown hK hZ hl hend => ?_
  have hS : va_S (zA B 80) s.heap s.heap [] := va_S.rf
  have hown : s.vm.findClass "WholeDesk" = some m.cls := hown
  have hl : lv_has ls 2 [(0, .ref (B)), (1, .int (iZ (i)))] := hl
  obtain ⟨hok, v0, an0, sp0, hZ, hA0, hr⟩ := hZ
  dsimp only at hZ hr
  have fr : ∀ j, j < 22 → v0 j = v0 j := fun j _ => rfl
  refine lv_aload_n hx hb dS_text_0 rfl (lv_at hl 0 rfl) ?_
  refine zs_writing hx hb ht hown hK hZ tw_130 dS_text_1 ?_
  refine lv_iload_n hx hb dS_text_4 rfl (lv_at hl 1 rfl) ?_
  refine zcV_l (P' := fun (u : (Nat → zV) × Nat × (Nat → Nat)) H => zD E B u.1 (zg E B (zo E B (zd E B (zs E B) ct f) an0 sp0) u.2.1 u.2.2) H) 1 (As := [.int (iZ (i))]) (rest := []) rfl ⟨hx, hb, hml, hown, ht⟩ (mG_eightFrom l E B v0 (zo E B (zd E B (zs E B) ct f) an0 sp0) st g (i) hz_i hok.2.2.2.1 hok.2.2.2.2) tw_151 tw_148 tw_149 tw_150 tw_5 qG_eightFrom (by rw [hR]; decide) (zg_recv hK (show zD E B v0 (zg E B (zo E B (zd E B (zs E B) ct f) an0 sp0) st g) _ by rw [← zF_g]; exact hZ)) (show zD E B v0 (zg E B (zo E B (zd E B (zs E B) ct f) an0 sp0) st g) _ by rw [← zF_g]; exact hZ) hK hl.1 rfl rfl (Nat.le_of_ble_eq_true rfl) dS_text_5 ⟨Nat.zero_le _, Nat.zero_le _⟩ hS (fun r9 u H locs hp hZ _ hS => ?_)
  obtain ⟨hu, hr1⟩ := hp
  subst hr1
  subst hu
  dsimp only at hZ
  have hZ : zD E B v0 (zF E B an0 sp0 ct f st g) H := by rw [zF_g]; exact hZ
  exact hend 8 _ (rg, ct, f, st, g) _ _ _ dS_text_8 (⟨rfl, rfl⟩) (⟨hok, v0, an0, sp0, hZ, hA0, hr⟩) hS
