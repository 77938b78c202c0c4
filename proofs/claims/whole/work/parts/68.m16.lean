theorem ndg_uniq {b X pn q : Nat} (hb : 2 ≤ b) (h : ndg b X pn) (h2 : ndg b X q) : pn = q := by
  have key : ∀ {pn q : Nat}, ndg b X pn → ndg b X q → ¬ pn < q := by
    intro pn q h h2 h9
    have h1 := h2.2.2 (by have := h.1; omega)
    have h3 : b ^ pn ≤ b ^ (q - 1) := Nat.pow_le_pow_right (by omega) (by omega)
    have := h.2.1
    omega
  have h3 := key h h2
  have h4 := key h2 h
  omega
theorem ndg_le {b X pn : Nat} (hb : 2 ≤ b) (hX : X < 2 ^ 2048) (h : 1 < pn → b ^ (pn - 1) ≤ X) : pn ≤ 2048 := by
  rcases Nat.lt_or_ge 2048 pn with h9 | h9
  · exfalso
    have h1 := h (by omega)
    have h2 : 2 ^ 2048 ≤ 2 ^ (pn - 1) := Nat.pow_le_pow_right (by decide) (by omega)
    have h3 : 2 ^ (pn - 1) ≤ b ^ (pn - 1) := Nat.pow_le_pow_left hb _
    generalize (2 : Nat) ^ 2048 = P at *
    omega
  · exact h9
theorem paper_eq {x : Int} {b st1 q pn P : Nat} {g1 D D2 : Nat → Nat} (hb : 2 ≤ b) (hw : wrel x b st1 g1 q) (hn : ndg b x.natAbs pn) (hp : pn ≤ 2048) (hP : P = pn + if x < 0 then 1 else 0) (hD : ∀ j, j < pn → D j = dc (x.natAbs / b ^ j % b)) (hm : x < 0 → D pn = 45) (hE : ∀ i, i < P → D2 i = D (P - 1 - i)) : P = q ∧ P = 2049 - st1 ∧ ∀ i, i < 2049 - st1 → D2 i = g1 (st1 + i) := by
  obtain ⟨m, h1, h2, h3, h4, h5, h6⟩ := hw
  have hpm := ndg_uniq hb hn h1
  subst hpm
  have hPs : P = 2049 - st1 := by rw [hP, h5]; split <;> omega
  refine ⟨by rw [hP, h6], hPs, ?_⟩
  rw [← hPs]
  intro i hi
  rw [hE i hi]
  by_cases hx : x < 0
  · rw [if_pos hx] at hP h5
    by_cases h9 : i = 0
    · subst h9
      rw [show P - 1 - 0 = pn by omega, hm hx, show st1 + 0 = 2048 - pn by omega, h4 hx]
    · rw [hD _ (by omega), ← h3 (P - 1 - i) (by omega)]
      congr 1
      omega
  · rw [if_neg hx] at hP h5
    rw [hD _ (by omega), ← h3 (P - 1 - i) (by omega)]
    congr 1
    omega
theorem swap_1 {P i : Nat} {D a : Nat → Nat} (hi : 2 * i ≤ P) (h2 : 2 * i + 1 < P) (hr1 : ∀ j, j < P → (j < i ∨ P ≤ j + i) → a j = D (P - 1 - j)) (hr2 : ∀ j, i ≤ j → j + i < P → a j = D j) : ∀ j, j < P → (j < i + 1 ∨ P ≤ j + (i + 1)) → va_up (va_up a i (a (P - 1 - i))) (P - 1 - i) (a i) j = D (P - 1 - j) := by
  intro j h1 h3
  by_cases h4 : j = P - 1 - i
  · rw [h4, va_up_self, hr2 i (Nat.le_refl _) (by omega)]; congr 1; omega
  · rw [va_up_ne _ _ h4]
    by_cases h5 : j = i
    · rw [h5, va_up_self, hr2 (P - 1 - i) (by omega) (by omega)]
    · rw [va_up_ne _ _ h5]; exact hr1 j h1 (by omega)
theorem swap_2 {P i : Nat} {D a : Nat → Nat} (h2 : 2 * i + 1 < P) (hr2 : ∀ j, i ≤ j → j + i < P → a j = D j) : ∀ j, i + 1 ≤ j → j + (i + 1) < P → va_up (va_up a i (a (P - 1 - i))) (P - 1 - i) (a i) j = D j := by
  intro j h1 h3
  rw [va_up_ne _ _ (by omega), va_up_ne _ _ (by omega)]
  exact hr2 j (by omega) (by omega)
set_option maxHeartbeats 4000000 in
set_option maxRecDepth 100000 in
theorem mM_written (l : Launch) (E : zE) (B : Nat) (rg : Nat → Int) (ct : Nat) (f : Nat → Nat) (st : Nat) (g : Nat → Nat) (t0 : Nat) (a : Int) (hz_a : zi a) (base : Int) (hz_base : zi base) (q : Nat) (k : Nat) (σ1 : zS) (hok1 : okS σ1) (hsp : SP (rok a ∧ (2 ≤ base ∧ base ≤ 36)) (False) (False) (fun τ => τ.1 = rg ∧ τ.2.1 = ct ∧ τ.2.2.1 = f) (rg, ct, f, st, g) k σ1) (hwr : k = 0 → wrel (rg a.toNat) base.toNat σ1.2.2.2.1 σ1.2.2.2.2 q) :
    Met l yM_written (zws yM_written cM_written 6 (some .int)) { frames := 2, cells := 0, slots := 0, locals := 60 } (zPc E (zQM E B (rg, ct, f, st, g) t0) [.ref (B), .int (iZ (a)), .int (iZ (base))]) (va_Qi (fun (r : Int32) (u : Unit) => k = 0 → r = iZ q) (fun u t => zQM E B σ1 (tc k) t.heap ∧ zK E t) (zA B 15)) 0 0 (zA B 15) := by
  refine zof_i (P' := fun (u : Unit) H => zQM E B σ1 (tc k) H) (by decide) (Nat.le_of_ble_eq_true rfl) fun p e R s m args below meth c Q ls hR hx hb hml ht hown hK hZ hl hend => ?_
  have hS : va_S (zA B 15) s.heap s.heap [] := va_S.rf
  have hown : s.vm.findClass "WholeDeskModel" = some m.cls := hown
  have hl : lv_has ls 6 [(0, .ref (B)), (1, .int (iZ (a))), (2, .int (iZ (base)))] := hl
  obtain ⟨hok, w0, ⟨th, fa, le, be, fb, sb9, pr⟩, hZ, ⟨hMR, hle, hdr, hpr, hpa⟩, hth⟩ := hZ
  dsimp only at *
  rw [hle, hpr] at hZ
  clear hth hle hpr le pr
  refine lv_aload_n hx hb dM_written_0 rfl (lv_at hl 0 rfl) ?_
  refine lv_iload_n hx hb dM_written_1 rfl (lv_at hl 1 rfl) ?_
  refine zcS_i (P' := fun (u : (Nat → Nat → Nat) × zC) H => zMD E B u.1 u.2 H) 1 (As := [.int (iZ (a))]) (rest := [.ref (B)]) ⟨hx, hb, hml, hown, ht⟩ (mM_no l E B w0 (th, fa, ct, be, fb, sb9, (2049 - st)) (a) hz_a) tw_762 tw_760 tw_761 tw_6 qM_no (by rw [hR]; decide) hZ hK hl.1 rfl rfl (Nat.le_of_ble_eq_true rfl) dM_written_2 ⟨Nat.zero_le _, Nat.zero_le _⟩ hS (fun r9 u H locs hp hZ _ hS => ?_)
  obtain ⟨hu9, ba, hr1, hba⟩ := hp
  subst hr1
  rw [hu9] at hZ
  dsimp only at hZ
  clear hu9
  refine zr_if_ne (tgt := 19) hx hb (by have := bZ_01 ba; omega) dM_written_5 (by decide) (fun c_1 => ?_) (fun c_1 => ?_)
  · have hng : ¬ rok a := hba.mp (bZ_nf.mp (by assumption))
    refine lv_iconst (v := iZ (1)) hx hb dM_written_19 (by decide) ?_
    refine lv_goto (tgt := 24) hx hb dM_written_20 (by decide) ?_
    refine W.eq (g2 := F0 m 24 ls ([.int (iZ ((1 : Nat) : Int)), .ref B])) rfl ?_
    refine zm_put_thrown (x := 1) hx hb ht hown hK hZ hS tw_677 dM_written_24 (fun H locs hZ hS => ?_)
    have hZ : zMD E B w0 (1, fa, ct, be, fb, sb9, (2049 - st)) H := hZ
    refine lv_aload_n hx hb dM_written_27 rfl (lv_at hl 0 rfl) ?_
    refine zm_thrown hx hb ht hown hK hZ tw_677 dM_written_28 ?_
    refine zc_i (y := iZ (((1 : Nat) : Int))) rfl ?_
    refine zr_if_le (tgt := 36) hx hb (by decide) dM_written_31 (by decide) (fun c_2 => ?_) (fun c_2 => ?_)
    · exact absurd c_2 (by decide)
    · refine lv_iconst (v := iZ (0)) hx hb dM_written_34 (by decide) ?_
      exact hend 35 _ () _ _ _ dM_written_35 (fun h9 => by obtain ⟨hk, _⟩ := SP_1 hsp (fun h9 => hng (by first | exact h9.1 | exact h9.2)); omega) (by obtain ⟨hk, hs⟩ := SP_1 hsp (fun h9 => hng (by first | exact h9 | exact h9.1 | exact h9.2.1 | exact h9.2.2.1 | exact h9.2.2.2.1 | exact h9.2.2.2 | exact h9.2.2 | exact h9.2)); subst hk; subst hs; exact ⟨hok1, w0, (1, fa, ct, be, fb, sb9, (2049 - st)), hZ, ⟨hMR, rfl, hdr, rfl, hpa⟩, rfl⟩) hS
  · have hk_na : rok a := Classical.byContradiction (fun h9 => absurd (hba.mpr h9) (by rw [show ba = false from bZ_f.mp (by assumption)]; decide))
    obtain ⟨na, rfl⟩ : ∃ n9 : Nat, a = (n9 : Int) := ⟨a.toNat, by have := hk_na.1; omega⟩
    have h10_na : na < 10 := by have := hk_na.2; omega
    refine lv_iload_n hx hb dM_written_8 rfl (lv_at hl 2 rfl) ?_
    refine lv_iconst (v := iZ (2)) hx hb dM_written_9 (by decide) ?_
    refine zr_icmp_lt (tgt := 19) hx hb hz_base (by unfold zi; omega) dM_written_10 (by decide) (fun c_3 => ?_) (fun c_3 => ?_)
    · have hng : ¬ (2 ≤ base ∧ base ≤ 36) := by omega
      refine lv_iconst (v := iZ (1)) hx hb dM_written_19 (by decide) ?_
      refine lv_goto (tgt := 24) hx hb dM_written_20 (by decide) ?_
      refine W.eq (g2 := F0 m 24 ls ([.int (iZ ((1 : Nat) : Int)), .ref B])) rfl ?_
      refine zm_put_thrown (x := 1) hx hb ht hown hK hZ hS tw_677 dM_written_24 (fun H locs hZ hS => ?_)
      have hZ : zMD E B w0 (1, fa, ct, be, fb, sb9, (2049 - st)) H := hZ
      refine lv_aload_n hx hb dM_written_27 rfl (lv_at hl 0 rfl) ?_
      refine zm_thrown hx hb ht hown hK hZ tw_677 dM_written_28 ?_
      refine zc_i (y := iZ (((1 : Nat) : Int))) rfl ?_
      refine zr_if_le (tgt := 36) hx hb (by decide) dM_written_31 (by decide) (fun c_4 => ?_) (fun c_4 => ?_)
      · exact absurd c_4 (by decide)
      · refine lv_iconst (v := iZ (0)) hx hb dM_written_34 (by decide) ?_
        exact hend 35 _ () _ _ _ dM_written_35 (fun h9 => by obtain ⟨hk, _⟩ := SP_1 hsp (fun h9 => hng (by first | exact h9.1 | exact h9.2)); omega) (by obtain ⟨hk, hs⟩ := SP_1 hsp (fun h9 => hng (by first | exact h9 | exact h9.1 | exact h9.2.1 | exact h9.2.2.1 | exact h9.2.2.2.1 | exact h9.2.2.2 | exact h9.2.2 | exact h9.2)); subst hk; subst hs; exact ⟨hok1, w0, (1, fa, ct, be, fb, sb9, (2049 - st)), hZ, ⟨hMR, rfl, hdr, rfl, hpa⟩, rfl⟩) hS
    · refine lv_iload_n hx hb dM_written_13 rfl (lv_at hl 2 rfl) ?_
      refine lv_bipush (v := iZ (36)) hx hb dM_written_14 (by decide) ?_
      refine zr_icmp_le (tgt := 23) hx hb hz_base (by unfold zi; omega) dM_written_16 (by decide) (fun c_5 => ?_) (fun c_5 => ?_)
      · have hgb : 2 ≤ base ∧ base ≤ 36 := by omega
        obtain ⟨nb, rfl⟩ : ∃ n9 : Nat, base = (n9 : Int) := ⟨base.toNat, by omega⟩
        have hbs : 2 ≤ nb ∧ nb ≤ 36 := by omega
        refine lv_iconst (v := iZ (0)) hx hb dM_written_23 (by decide) ?_
        refine W.eq (g2 := F0 m 24 ls ([.int (iZ ((0 : Nat) : Int)), .ref B])) rfl ?_
        refine zm_put_thrown (x := 0) hx hb ht hown hK hZ hS tw_677 dM_written_24 (fun H locs hZ hS => ?_)
        have hZ : zMD E B w0 (0, fa, ct, be, fb, sb9, (2049 - st)) H := hZ
        refine lv_aload_n hx hb dM_written_27 rfl (lv_at hl 0 rfl) ?_
        refine zm_thrown hx hb ht hown hK hZ tw_677 dM_written_28 ?_
        refine zc_i (y := iZ (((0 : Nat) : Int))) rfl ?_
        refine zr_if_le (tgt := 36) hx hb (by decide) dM_written_31 (by decide) (fun c_6 => ?_) (fun c_6 => ?_)
        · refine lv_aload_n hx hb dM_written_36 rfl (lv_at hl 0 rfl) ?_
          refine lv_iload_n hx hb dM_written_37 rfl (lv_at hl 1 rfl) ?_
          refine lv_aload_n hx hb dM_written_38 rfl (lv_at hl 0 rfl) ?_
          refine zm_one hx hb ht hown hK hZ tw_689 dM_written_39 ?_
          refine zcV_v (P' := fun (u : (Nat → Nat → Nat) × zC) H => zMD E B u.1 u.2 H) 2 (As := [.int (iZ (↑na)), .ref (B + 9)]) (rest := []) rfl ⟨hx, hb, hml, hown, ht⟩ (mM_take l E B w0 (0, fa, ct, be, fb, sb9, (2049 - st)) na h10_na 9 (by decide) 264 rfl (by decide)) tw_791 tw_788 tw_790 tp_13 tw_6 qM_take (by rw [hR]; decide) (zm_recv hK hZ) hZ hK hl.1 rfl rfl (Nat.le_of_ble_eq_true rfl) dM_written_42 ⟨Nat.zero_le _, Nat.zero_le _⟩ hS (fun u H locs hp hZ _ hS => ?_)
          obtain ⟨w, q9⟩ := u
          obtain ⟨ho, hq9, hcp⟩ := hp
          dsimp only at *
          rw [hq9] at hZ
          have htk := take_val hcp (hMR na h10_na).1
          replace hMR : MR w rg := MR_same (ho 2 (by decide)) (ho 3 (by decide)) hMR
          replace hdr : ∀ i, i < ct → w 1 i = f i := fun i hi => by rw [ho 1 (by decide)]; exact hdr i hi
          replace hpa : ∀ i, i < 2049 - st → w 14 i = g (st + i) := fun i hi => by rw [ho 14 (by decide)]; exact hpa i hi
          have hv_9 : rv (w 9) 264 = (rg na).natAbs := htk
          clear htk
          replace hpa : True := trivial
          obtain ⟨X, hX⟩ : ∃ q, q = (rg na).natAbs := ⟨_, rfl⟩
          rw [← hX] at hv_9
          have hX2 : X < 2 ^ 2048 := by rw [hX]; exact hok.1 na h10_na
          refine lv_aload_n hx hb dM_written_45 rfl (lv_at hl 0 rfl) ?_
          refine lv_iconst (v := iZ (0)) hx hb dM_written_46 (by decide) ?_
          refine W.eq (g2 := F0 m 47 ls ([.int (iZ ((0 : Nat) : Int)), .ref B])) rfl ?_
          refine zm_put_printed (x := 0) hx hb ht hown hK hZ hS tw_697 dM_written_47 (fun H locs hZ hS => ?_)
          have hZ : zMD E B w (0, fa, ct, be, fb, sb9, 0) H := hZ
          have L50 : ∀ (fu : Nat) (pn : Nat) (V : Nat) (w : Nat → Nat → Nat) (H : Heap) (locs : List Loc) (ls : Array Slot), 2049 - pn < fu → (V = X / nb ^ pn) → (1 < pn → nb ^ (pn - 1) ≤ X) → (∀ j, j < pn → w 14 j = dc (X / nb ^ j % nb)) → (MR w rg) → (∀ i, i < ct → w 1 i = f i) → (True) → (rv (w 9) 264 = V) → zMD E B w (0, fa, ct, be, fb, sb9, pn) H → va_S (zA B 15) s.heap H locs → lv_has ls 6 [(0, .ref (B)), (1, .int (iZ (↑na))), (2, .int (iZ (↑nb)))] → W p l e R s m args below meth c H locs 0 0 Q (F0 m 50 ls []) := by
            intro fu
            induction fu with
            | zero => intro pn V w H locs ls hm; exact absurd hm (Nat.not_lt_zero _)
            | succ fu ihL50 =>
              intro pn V w H locs ls hm hV hlo h14 hMR hdr hpa hv_9 hZ hS hl
              have hp9 : pn ≤ 2048 := ndg_le hbs.1 hX2 hlo
              refine lv_aload_n hx hb dM_written_50 rfl (lv_at hl 0 rfl) ?_
              refine zm_one hx hb ht hown hK hZ tw_689 dM_written_51 ?_
              refine zcS_i (P' := fun (u : (Nat → Nat → Nat) × zC) H => zMD E B u.1 u.2 H) 1 (As := [.ref (B + 9)]) (rest := []) ⟨hx, hb, hml, hown, ht⟩ (mM_size l E B w (0, fa, ct, be, fb, sb9, pn) 9 (by decide) 264 rfl (by decide)) tw_774 tw_772 tw_773 tw_6 qM_size (by rw [hR]; decide) hZ hK hl.1 rfl rfl (Nat.le_of_ble_eq_true rfl) dM_written_54 ⟨Nat.zero_le _, Nat.zero_le _⟩ hS (fun r9 u H locs hp hZ _ hS => ?_)
              obtain ⟨hu9, n, hr1, hn1, hn2, hn3⟩ := hp
              subst hr1
              rw [hu9] at hZ
              dsimp only at hZ
              clear hu9
              have hnz : ∀ q, n ≤ q ↔ V < rP q := fun q => by rw [← hv_9]; exact size_le (hZ.2 9) hn1 hn2 hn3 q
              refine zr_if_gt (tgt := 67) hx hb (by unfold zi; omega) dM_written_57 (by decide) (fun c_7 => ?_) (fun c_7 => ?_)
              · have hV0 : V ≠ 0 := fun h9 => absurd ((hnz 0).mpr (by rw [h9]; exact rP_pos 0)) (by omega)
                have hlo2 : 0 < pn → nb ^ pn ≤ X := fun _ => by rw [hV] at hV0; exact Classical.byContradiction (fun h9 => hV0 (Nat.div_eq_of_lt (by omega)))
                refine lv_aload_n hx hb dM_written_67 rfl (lv_at hl 0 rfl) ?_
                refine zm_one hx hb ht hown hK hZ tw_689 dM_written_68 ?_
                refine lv_iload_n hx hb dM_written_71 rfl (lv_at hl 2 rfl) ?_
                refine zcS_i (P' := fun (u : (Nat → Nat → Nat) × zC) H => zMD E B u.1 u.2 H) 2 (As := [.ref (B + 9), .int (iZ (↑nb))]) (rest := []) ⟨hx, hb, hml, hown, ht⟩ (mM_shrink l E B w (0, fa, ct, be, fb, sb9, pn) 9 (by decide) rfl nb hbs) tw_902 tw_900 tw_901 tw_6 qM_shrink (by rw [hR]; decide) hZ hK hl.1 rfl rfl (Nat.le_of_ble_eq_true rfl) dM_written_72 ⟨Nat.zero_le _, Nat.zero_le _⟩ hS (fun r9 u H locs hp hZ _ hS => ?_)
                obtain ⟨w, q9⟩ := u
                obtain ⟨ho, hq9, hsv, hr1⟩ := hp
                dsimp only at ho hq9 hsv hr1 hZ
                rw [hv_9] at hsv hr1
                subst hr1
                rw [hq9] at hZ
                replace hMR : MR w rg := MR_same (ho 2 (by decide)) (ho 3 (by decide)) hMR
                replace hdr : ∀ i, i < ct → w 1 i = f i := fun i hi => by rw [ho 1 (by decide)]; exact hdr i hi
                clear hv_9
                have hv_9 : rv (w 9) 264 = V / nb := hsv
                clear hsv
                replace h14 : ∀ j, j < pn → w 14 j = dc (X / nb ^ j % nb) := fun j hj => by rw [ho 14 (by decide)]; exact h14 j hj
                obtain ⟨d, hdv⟩ : ∃ q, q = V % nb := ⟨_, rfl⟩
                rw [← hdv]
                have hdl : d < nb := by rw [hdv]; exact Nat.mod_lt _ (by omega)
                refine lv_istore_n (lv' := [(3, .int (iZ (↑d))), (0, .ref (B)), (1, .int (iZ (↑na))), (2, .int (iZ (↑nb)))]) hx hb dM_written_75 rfl hl (by decide) rfl (fun ls hl => ?_)
                refine lv_aload_n hx hb dM_written_76 rfl (lv_at hl 1 rfl) ?_
                refine zm_paper hx hb ht hown hK hZ tw_696 dM_written_77 ?_
                refine lv_aload_n hx hb dM_written_80 rfl (lv_at hl 1 rfl) ?_
                refine zm_printed hx hb ht hown hK hZ tw_697 dM_written_81 ?_
                refine zc_i (y := iZ (↑pn)) rfl ?_
                refine lv_iload_n hx hb dM_written_84 rfl (lv_at hl 0 rfl) ?_
                refine lv_bipush (v := iZ (10)) hx hb dM_written_85 (by decide) ?_
                refine zr_icmp_ge (tgt := 97) hx hb (by unfold zi; omega) (by unfold zi; omega) dM_written_87 (by decide) (fun c_8 => ?_) (fun c_8 => ?_)
                · refine lv_bipush (v := iZ (97)) hx hb dM_written_97 (by decide) ?_
                  refine lv_iload_n hx hb dM_written_99 rfl (lv_at hl 0 rfl) ?_
                  refine zr_iadd hx hb dM_written_100 ?_
                  refine lv_bipush (v := iZ (10)) hx hb dM_written_101 (by decide) ?_
                  refine zr_isub hx hb dM_written_103 ?_
                  rw [show ((97 + ↑d) - 10 : Int) = ((dc d : Nat) : Int) from by unfold dc; split <;> omega]
                  refine zm_st (k := 14) (i := pn) (x := dc d) hx hb hK hZ hS (by decide) (by show pn < 2100; omega) (by have := dc_lt (d := d) (by omega); omega) dM_written_104 (fun H locs hZ hS => ?_)
                  obtain ⟨w9, hw9⟩ : ∃ q, q = mup w 14 pn (dc d) := ⟨_, rfl⟩
                  rw [← hw9] at hZ
                  have ho : ∀ j, j ≠ 14 → w9 j = w j := fun j hj => by rw [hw9, mup_ne _ _ _ hj]
                  have hwk : w9 14 = va_up (w 14) pn (dc d) := by rw [hw9, mup_at]
                  clear hw9
                  obtain ⟨w, hww⟩ : ∃ q, q = w9 := ⟨_, rfl⟩
                  rw [← hww] at hZ ho hwk
                  clear hww
                  replace hMR : MR w rg := MR_same (ho 2 (by decide)) (ho 3 (by decide)) hMR
                  replace hdr : ∀ i, i < ct → w 1 i = f i := fun i hi => by rw [ho 1 (by decide)]; exact hdr i hi
                  replace hv_9 : rv (w 9) 264 = V / nb := by rw [ho 9 (by decide)]; exact hv_9
                  refine lv_aload_n hx hb dM_written_105 rfl (lv_at hl 1 rfl) ?_
                  refine lv_dup hx hb dM_written_106 rfl ?_
                  refine zm_printed hx hb ht hown hK hZ tw_697 dM_written_107 ?_
                  refine zc_i (y := iZ (↑pn)) rfl ?_
                  refine lv_iconst (v := iZ (1)) hx hb dM_written_110 (by decide) ?_
                  refine zr_iadd hx hb dM_written_111 ?_
                  rw [show (↑pn + 1 : Int) = ((pn + 1 : Nat) : Int) from by omega]
                  refine zm_put_printed (x := pn + 1) hx hb ht hown hK hZ hS tw_697 dM_written_112 (fun H locs hZ hS => ?_)
                  have hZ : zMD E B w (0, fa, ct, be, fb, sb9, pn + 1) H := hZ
                  refine lv_goto (tgt := 50) hx hb dM_written_115 (by decide) ?_
                  exact ihL50 (pn + 1) (V / nb) w _ _ _ (by have hp9 : pn ≤ 2048 := ndg_le hbs.1 hX2 hlo; omega) (by rw [hV, Nat.pow_succ, Nat.div_div_eq_div_mul]) (fun h9 => hlo2 (by omega)) (fun j hj => by rw [hwk]; by_cases h9 : j = pn; rw [h9, va_up_self, hdv, hV]; rw [va_up_ne _ _ h9]; exact h14 j (by omega)) hMR hdr hpa hv_9 hZ hS (lv_sub hl [1, 2, 3] rfl)
                · refine lv_bipush (v := iZ (48)) hx hb dM_written_90 (by decide) ?_
                  refine lv_iload_n hx hb dM_written_92 rfl (lv_at hl 0 rfl) ?_
                  refine zr_iadd hx hb dM_written_93 ?_
                  refine lv_goto (tgt := 104) hx hb dM_written_94 (by decide) ?_
                  rw [show (48 + ↑d : Int) = ((dc d : Nat) : Int) from by unfold dc; split <;> omega]
                  refine zm_st (k := 14) (i := pn) (x := dc d) hx hb hK hZ hS (by decide) (by show pn < 2100; omega) (by have := dc_lt (d := d) (by omega); omega) dM_written_104 (fun H locs hZ hS => ?_)
                  obtain ⟨w9, hw9⟩ : ∃ q, q = mup w 14 pn (dc d) := ⟨_, rfl⟩
                  rw [← hw9] at hZ
                  have ho : ∀ j, j ≠ 14 → w9 j = w j := fun j hj => by rw [hw9, mup_ne _ _ _ hj]
                  have hwk : w9 14 = va_up (w 14) pn (dc d) := by rw [hw9, mup_at]
                  clear hw9
                  obtain ⟨w, hww⟩ : ∃ q, q = w9 := ⟨_, rfl⟩
                  rw [← hww] at hZ ho hwk
                  clear hww
                  replace hMR : MR w rg := MR_same (ho 2 (by decide)) (ho 3 (by decide)) hMR
                  replace hdr : ∀ i, i < ct → w 1 i = f i := fun i hi => by rw [ho 1 (by decide)]; exact hdr i hi
                  replace hv_9 : rv (w 9) 264 = V / nb := by rw [ho 9 (by decide)]; exact hv_9
                  refine lv_aload_n hx hb dM_written_105 rfl (lv_at hl 1 rfl) ?_
                  refine lv_dup hx hb dM_written_106 rfl ?_
                  refine zm_printed hx hb ht hown hK hZ tw_697 dM_written_107 ?_
                  refine zc_i (y := iZ (↑pn)) rfl ?_
                  refine lv_iconst (v := iZ (1)) hx hb dM_written_110 (by decide) ?_
                  refine zr_iadd hx hb dM_written_111 ?_
                  rw [show (↑pn + 1 : Int) = ((pn + 1 : Nat) : Int) from by omega]
                  refine zm_put_printed (x := pn + 1) hx hb ht hown hK hZ hS tw_697 dM_written_112 (fun H locs hZ hS => ?_)
                  have hZ : zMD E B w (0, fa, ct, be, fb, sb9, pn + 1) H := hZ
                  refine lv_goto (tgt := 50) hx hb dM_written_115 (by decide) ?_
                  exact ihL50 (pn + 1) (V / nb) w _ _ _ (by have hp9 : pn ≤ 2048 := ndg_le hbs.1 hX2 hlo; omega) (by rw [hV, Nat.pow_succ, Nat.div_div_eq_div_mul]) (fun h9 => hlo2 (by omega)) (fun j hj => by rw [hwk]; by_cases h9 : j = pn; rw [h9, va_up_self, hdv, hV]; rw [va_up_ne _ _ h9]; exact h14 j (by omega)) hMR hdr hpa hv_9 hZ hS (lv_sub hl [1, 2, 3] rfl)
              · refine lv_aload_n hx hb dM_written_60 rfl (lv_at hl 0 rfl) ?_
                refine zm_printed hx hb ht hown hK hZ tw_697 dM_written_61 ?_
                refine zc_i (y := iZ (↑pn)) rfl ?_
                refine zr_if_ne (tgt := 118) hx hb (by unfold zi; omega) dM_written_64 (by decide) (fun c_9 => ?_) (fun c_9 => ?_)
                · have hV0 : X / nb ^ pn = 0 := by rw [← hV]; have h9 := (hnz 0).mp (by omega); rw [rP_two] at h9; omega
                  have hXp : X < nb ^ pn := (Nat.div_eq_zero_iff_lt (Nat.pow_pos (by omega))).mp hV0
                  have hnd : ndg nb X pn := ⟨by omega, hXp, hlo⟩
                  refine lv_aload_n hx hb dM_written_118 rfl (lv_at hl 0 rfl) ?_
                  refine zm_minus hx hb ht hown hK hZ tw_682 dM_written_119 ?_
                  refine lv_iload_n hx hb dM_written_122 rfl (lv_at hl 1 rfl) ?_
                  refine zm_ldz (i := na) hx hb hK hZ (by omega) dM_written_123 ?_
                  rw [show ((w 3 na : Nat) : Int) = bZ (decide (rg na < 0)) from by rw [show w 3 na = bN (decide (rg na < 0)) from (hMR na h10_na).2, bN_Z]]
                  refine zr_if_eq (tgt := 148) hx hb (by have := bZ_01 (decide (rg na < 0)); omega) dM_written_124 (by decide) (fun c_10 => ?_) (fun c_10 => ?_)
                  · obtain ⟨P, hP⟩ : ∃ q, q = pn + (if rg na < 0 then 1 else 0) := ⟨_, rfl⟩
                    have hsg : ¬ rg na < 0 := of_decide_eq_false (bZ_f.mp (by assumption))
                    have hPe : pn = P := by rw [hP, if_neg hsg]; omega
                    have hD45 : rg na < 0 → w 14 pn = 45 := fun h9 => absurd h9 hsg
                    have hP9 : P ≤ 2049 ∧ 1 ≤ P := by have := hnd.1; omega
                    have hZ : zMD E B w (0, fa, ct, be, fb, sb9, P) H := by rw [← hPe]; exact hZ
                    obtain ⟨D, hD⟩ : ∃ d, d = w 14 := ⟨_, rfl⟩
                    rw [← hD] at h14 hD45
                    clear hPe
                    refine lv_iconst (v := iZ (0)) hx hb dM_written_148 (by decide) ?_
                    refine lv_istore_n (lv' := [(3, .int (iZ (0))), (0, .ref (B)), (1, .int (iZ (↑na))), (2, .int (iZ (↑nb)))]) hx hb dM_written_149 rfl hl (by decide) rfl (fun ls hl => ?_)
                    refine lv_aload_n hx hb dM_written_150 rfl (lv_at hl 1 rfl) ?_
                    refine zm_printed hx hb ht hown hK hZ tw_697 dM_written_151 ?_
                    refine zc_i (y := iZ (↑P)) rfl ?_
                    refine lv_iconst (v := iZ (1)) hx hb dM_written_154 (by decide) ?_
                    refine zr_isub hx hb dM_written_155 ?_
                    refine lv_istore (lv' := [(4, .int (iZ (↑P - 1))), (3, .int (iZ (0))), (0, .ref (B)), (1, .int (iZ (↑na))), (2, .int (iZ (↑nb)))]) hx hb dM_written_156 hl (by decide) rfl (fun ls hl => ?_)
                    have L158 : ∀ (fu : Nat) (i : Nat) (w : Nat → Nat → Nat) (H : Heap) (locs : List Loc) (ls : Array Slot), P - i < fu → (2 * i ≤ P) → (∀ j, j < P → (j < i ∨ P ≤ j + i) → w 14 j = D (P - 1 - j)) → (∀ j, i ≤ j → j + i < P → w 14 j = D j) → (MR w rg) → (∀ i, i < ct → w 1 i = f i) → (True) → zMD E B w (0, fa, ct, be, fb, sb9, P) H → va_S (zA B 15) s.heap H locs → lv_has ls 6 [(0, .ref (B)), (3, .int (iZ (↑i))), (4, .int (iZ (↑P - 1 - ↑i)))] → W p l e R s m args below meth c H locs 0 0 Q (F0 m 158 ls []) := by
                      intro fu
                      induction fu with
                      | zero => intro i w H locs ls hm; exact absurd hm (Nat.not_lt_zero _)
                      | succ fu ihL158 =>
                        intro i w H locs ls hm hi hr1 hr2 hMR hdr hpa hZ hS hl
                        refine lv_iload_n hx hb dM_written_158 rfl (lv_at hl 1 rfl) ?_
                        refine lv_iload hx hb dM_written_159 (lv_at hl 2 rfl) ?_
                        refine zr_icmp_ge (tgt := 203) hx hb (by unfold zi; omega) (by unfold zi; omega) dM_written_161 (by decide) (fun c_11 => ?_) (fun c_11 => ?_)
                        · have hfin : ∀ j, j < P → w 14 j = D (P - 1 - j) := fun j hj => by by_cases h9 : j < i ∨ P ≤ j + i; exact hr1 j hj h9; rw [hr2 j (by omega) (by omega)]; congr 1; omega
                          refine lv_aload_n hx hb dM_written_203 rfl (lv_at hl 0 rfl) ?_
                          refine zm_printed hx hb ht hown hK hZ tw_697 dM_written_204 ?_
                          refine zc_i (y := iZ (↑P)) rfl ?_
                          exact hend 207 _ () _ _ _ dM_written_207 (fun hk0 => congrArg (fun z : Nat => iZ z) (paper_eq (x := rg na) (b := nb) hbs.1 (hwr hk0) (by rw [← hX]; exact hnd) hp9 hP (by rw [← hX]; exact h14) hD45 hfin).1) (by rcases SP_g hsp ⟨hk_na, hgb⟩ with ⟨_, h, _⟩ | ⟨_, h, _⟩ | ⟨hk, hs⟩; exact h.elim; exact h.elim; obtain ⟨rg1, ct1, f1, st1, g1⟩ := σ1; obtain ⟨e1, e2, e3⟩ := hs; dsimp only at e1 e2 e3; replace e1 := e1.symm; replace e2 := e2.symm; replace e3 := e3.symm; subst hk; subst e1; subst e2; subst e3; obtain ⟨_, hpr9, hpa9⟩ := paper_eq (x := rg na) (b := nb) hbs.1 (hwr rfl) (by rw [← hX]; exact hnd) hp9 hP (by rw [← hX]; exact h14) hD45 hfin; exact ⟨hok1, w, (0, fa, ct, be, fb, sb9, P), hZ, ⟨hMR, rfl, hdr, hpr9, hpa9⟩, rfl⟩) hS
                        · obtain ⟨A, hA⟩ : ∃ q, q = w 14 := ⟨_, rfl⟩
                          have hAl : ∀ q, A q < 65536 := by rw [hA]; exact hZ.2 14
                          have hAi := hAl i
                          have hAj := hAl (P - 1 - i)
                          refine lv_aload_n hx hb dM_written_164 rfl (lv_at hl 0 rfl) ?_
                          refine zm_paper hx hb ht hown hK hZ tw_696 dM_written_165 ?_
                          refine lv_iload_n hx hb dM_written_168 rfl (lv_at hl 1 rfl) ?_
                          refine zm_ld (k := 14) (i := i) hx hb hK hZ (by decide) (by show i < 2100; omega) dM_written_169 ?_
                          rw [← hA]
                          refine lv_istore (lv' := [(5, .int (iZ (((A i : Nat) : Int)))), (0, .ref (B)), (3, .int (iZ (↑i))), (4, .int (iZ (↑P - 1 - ↑i)))]) hx hb dM_written_170 hl (by decide) rfl (fun ls hl => ?_)
                          refine lv_aload_n hx hb dM_written_172 rfl (lv_at hl 1 rfl) ?_
                          refine zm_paper hx hb ht hown hK hZ tw_696 dM_written_173 ?_
                          refine lv_iload_n hx hb dM_written_176 rfl (lv_at hl 2 rfl) ?_
                          refine lv_aload_n hx hb dM_written_177 rfl (lv_at hl 1 rfl) ?_
                          refine zm_paper hx hb ht hown hK hZ tw_696 dM_written_178 ?_
                          refine lv_iload hx hb dM_written_181 (lv_at hl 3 rfl) ?_
                          rw [show (↑P - 1 - ↑i : Int) = (((P - 1 - i) : Nat) : Int) by omega]
                          refine zm_ld (k := 14) (i := (P - 1 - i)) hx hb hK hZ (by decide) (by show (P - 1 - i) < 2100; omega) dM_written_183 ?_
                          rw [← hA]
                          rw [show (((A (P - 1 - i) : Nat) : Int) : Int) = ((A (P - 1 - i) : Nat) : Int) from rfl]
                          refine zm_st (k := 14) (i := i) (x := A (P - 1 - i)) hx hb hK hZ hS (by decide) (by show i < 2100; omega) (by omega) dM_written_184 (fun H locs hZ hS => ?_)
                          obtain ⟨w9, hw9⟩ : ∃ q, q = mup w 14 i (A (P - 1 - i)) := ⟨_, rfl⟩
                          rw [← hw9] at hZ
                          have ho : ∀ j, j ≠ 14 → w9 j = w j := fun j hj => by rw [hw9, mup_ne _ _ _ hj]
                          have hwk : w9 14 = va_up (w 14) i (A (P - 1 - i)) := by rw [hw9, mup_at]
                          clear hw9
                          obtain ⟨w, hww⟩ : ∃ q, q = w9 := ⟨_, rfl⟩
                          rw [← hww] at hZ ho hwk
                          clear hww
                          replace hMR : MR w rg := MR_same (ho 2 (by decide)) (ho 3 (by decide)) hMR
                          replace hdr : ∀ i, i < ct → w 1 i = f i := fun i hi => by rw [ho 1 (by decide)]; exact hdr i hi
                          have hwk1 : w 14 = va_up A i (A (P - 1 - i)) := by rw [hwk, hA]
                          refine lv_aload_n hx hb dM_written_185 rfl (lv_at hl 1 rfl) ?_
                          refine zm_paper hx hb ht hown hK hZ tw_696 dM_written_186 ?_
                          refine lv_iload hx hb dM_written_189 (lv_at hl 3 rfl) ?_
                          refine lv_iload hx hb dM_written_191 (lv_at hl 0 rfl) ?_
                          rw [show (((A i : Nat) : Int) : Int) = ((A i : Nat) : Int) from rfl]
                          rw [show (↑P - 1 - ↑i : Int) = (((P - 1 - i) : Nat) : Int) by omega]
                          refine zm_st (k := 14) (i := (P - 1 - i)) (x := A i) hx hb hK hZ hS (by decide) (by show (P - 1 - i) < 2100; omega) (by omega) dM_written_193 (fun H locs hZ hS => ?_)
                          obtain ⟨w9, hw9⟩ : ∃ q, q = mup w 14 (P - 1 - i) (A i) := ⟨_, rfl⟩
                          rw [← hw9] at hZ
                          have ho : ∀ j, j ≠ 14 → w9 j = w j := fun j hj => by rw [hw9, mup_ne _ _ _ hj]
                          have hwk : w9 14 = va_up (w 14) (P - 1 - i) (A i) := by rw [hw9, mup_at]
                          clear hw9
                          obtain ⟨w, hww⟩ : ∃ q, q = w9 := ⟨_, rfl⟩
                          rw [← hww] at hZ ho hwk
                          clear hww
                          replace hMR : MR w rg := MR_same (ho 2 (by decide)) (ho 3 (by decide)) hMR
                          replace hdr : ∀ i, i < ct → w 1 i = f i := fun i hi => by rw [ho 1 (by decide)]; exact hdr i hi
                          have hwk2 := hwk
                          rw [hwk1] at hwk2
                          rw [← hA] at hr1 hr2
                          refine lv_iinc (v := iZ (↑i + 1)) (lv' := [(3, .int (iZ (↑i + 1))), (5, .int (iZ (((A i : Nat) : Int)))), (0, .ref (B)), (4, .int (iZ (↑P - 1 - ↑i)))]) hx hb dM_written_194 hl (k := 2) rfl (iZ_add _ _) (by decide) rfl (fun ls hl => ?_)
                          refine lv_iinc (v := iZ (↑P - 1 - ↑i - 1)) (lv' := [(4, .int (iZ (↑P - 1 - ↑i - 1))), (3, .int (iZ (↑i + 1))), (5, .int (iZ (((A i : Nat) : Int)))), (0, .ref (B))]) hx hb dM_written_197 hl (k := 3) rfl (iZ_dec _ _) (by decide) rfl (fun ls hl => ?_)
                          refine lv_goto (tgt := 158) hx hb dM_written_200 (by decide) ?_
                          rw [show (↑i + 1 : Int) = ↑(i + 1) from by omega] at hl
                          rw [show (↑P - 1 - ↑i - 1 : Int) = ↑P - 1 - ((i + 1 : Nat) : Int) from by omega] at hl
                          exact ihL158 (i + 1) w _ _ _ (by omega) (by omega) (by rw [hwk2]; exact swap_1 hi (by omega) hr1 hr2) (by rw [hwk2]; exact swap_2 (by omega) hr2) hMR hdr hpa  hZ hS (lv_sub hl [3, 1, 0] rfl)
                    rw [show (↑P - 1 : Int) = ↑P - 1 - ((0 : Nat) : Int) from by omega] at hl
                    exact L158 _ 0 w _ _ _ (Nat.lt_succ_self _) (by omega) (fun j h1 h2 => absurd h2 (by omega)) (fun j _ _ => by rw [hD]) hMR hdr hpa  hZ hS (lv_sub hl [2, 1, 0] rfl)
                  · have hsg : rg na < 0 := of_decide_eq_true (bZ_nf.mp (by assumption))
                    refine lv_aload_n hx hb dM_written_127 rfl (lv_at hl 0 rfl) ?_
                    refine zm_paper hx hb ht hown hK hZ tw_696 dM_written_128 ?_
                    refine lv_aload_n hx hb dM_written_131 rfl (lv_at hl 0 rfl) ?_
                    refine zm_printed hx hb ht hown hK hZ tw_697 dM_written_132 ?_
                    refine zc_i (y := iZ (↑pn)) rfl ?_
                    refine lv_bipush (v := iZ (45)) hx hb dM_written_135 (by decide) ?_
                    refine W.eq (g2 := F0 m 137 ls (.int (iZ ((45 : Nat) : Int)) :: .int (iZ (↑pn)) :: .ref (B + 14) :: [])) rfl ?_
                    refine zm_st (k := 14) (i := pn) (x := 45) hx hb hK hZ hS (by decide) (by show pn < 2100; omega) (by omega) dM_written_137 (fun H locs hZ hS => ?_)
                    obtain ⟨w9, hw9⟩ : ∃ q, q = mup w 14 pn 45 := ⟨_, rfl⟩
                    rw [← hw9] at hZ
                    have ho : ∀ j, j ≠ 14 → w9 j = w j := fun j hj => by rw [hw9, mup_ne _ _ _ hj]
                    have hwk : w9 14 = va_up (w 14) pn 45 := by rw [hw9, mup_at]
                    clear hw9
                    obtain ⟨w, hww⟩ : ∃ q, q = w9 := ⟨_, rfl⟩
                    rw [← hww] at hZ ho hwk
                    clear hww
                    replace hMR : MR w rg := MR_same (ho 2 (by decide)) (ho 3 (by decide)) hMR
                    replace hdr : ∀ i, i < ct → w 1 i = f i := fun i hi => by rw [ho 1 (by decide)]; exact hdr i hi
                    replace hv_9 : rv (w 9) 264 = V := by rw [ho 9 (by decide)]; exact hv_9
                    replace h14 : ∀ j, j < pn → w 14 j = dc (X / nb ^ j % nb) := fun j hj => by rw [hwk, va_up_ne _ _ (by omega)]; exact h14 j hj
                    have h145 : w 14 pn = 45 := by rw [hwk, va_up_self]
                    refine lv_aload_n hx hb dM_written_138 rfl (lv_at hl 0 rfl) ?_
                    refine lv_dup hx hb dM_written_139 rfl ?_
                    refine zm_printed hx hb ht hown hK hZ tw_697 dM_written_140 ?_
                    refine zc_i (y := iZ (↑pn)) rfl ?_
                    refine lv_iconst (v := iZ (1)) hx hb dM_written_143 (by decide) ?_
                    refine zr_iadd hx hb dM_written_144 ?_
                    rw [show (↑pn + 1 : Int) = ((pn + 1 : Nat) : Int) from by omega]
                    refine zm_put_printed (x := pn + 1) hx hb ht hown hK hZ hS tw_697 dM_written_145 (fun H locs hZ hS => ?_)
                    have hZ : zMD E B w (0, fa, ct, be, fb, sb9, pn + 1) H := hZ
                    obtain ⟨P, hP⟩ : ∃ q, q = pn + (if rg na < 0 then 1 else 0) := ⟨_, rfl⟩
                    have hPe : pn + 1 = P := by rw [hP, if_pos hsg]
                    have hD45 : rg na < 0 → w 14 pn = 45 := fun _ => h145
                    have hP9 : P ≤ 2049 ∧ 1 ≤ P := by have := hnd.1; omega
                    have hZ : zMD E B w (0, fa, ct, be, fb, sb9, P) H := by rw [← hPe]; exact hZ
                    obtain ⟨D, hD⟩ : ∃ d, d = w 14 := ⟨_, rfl⟩
                    rw [← hD] at h14 hD45
                    clear hPe
                    refine lv_iconst (v := iZ (0)) hx hb dM_written_148 (by decide) ?_
                    refine lv_istore_n (lv' := [(3, .int (iZ (0))), (0, .ref (B)), (1, .int (iZ (↑na))), (2, .int (iZ (↑nb)))]) hx hb dM_written_149 rfl hl (by decide) rfl (fun ls hl => ?_)
                    refine lv_aload_n hx hb dM_written_150 rfl (lv_at hl 1 rfl) ?_
                    refine zm_printed hx hb ht hown hK hZ tw_697 dM_written_151 ?_
                    refine zc_i (y := iZ (↑P)) rfl ?_
                    refine lv_iconst (v := iZ (1)) hx hb dM_written_154 (by decide) ?_
                    refine zr_isub hx hb dM_written_155 ?_
                    refine lv_istore (lv' := [(4, .int (iZ (↑P - 1))), (3, .int (iZ (0))), (0, .ref (B)), (1, .int (iZ (↑na))), (2, .int (iZ (↑nb)))]) hx hb dM_written_156 hl (by decide) rfl (fun ls hl => ?_)
                    have L158 : ∀ (fu : Nat) (i : Nat) (w : Nat → Nat → Nat) (H : Heap) (locs : List Loc) (ls : Array Slot), P - i < fu → (2 * i ≤ P) → (∀ j, j < P → (j < i ∨ P ≤ j + i) → w 14 j = D (P - 1 - j)) → (∀ j, i ≤ j → j + i < P → w 14 j = D j) → (MR w rg) → (∀ i, i < ct → w 1 i = f i) → (True) → zMD E B w (0, fa, ct, be, fb, sb9, P) H → va_S (zA B 15) s.heap H locs → lv_has ls 6 [(0, .ref (B)), (3, .int (iZ (↑i))), (4, .int (iZ (↑P - 1 - ↑i)))] → W p l e R s m args below meth c H locs 0 0 Q (F0 m 158 ls []) := by
                      intro fu
                      induction fu with
                      | zero => intro i w H locs ls hm; exact absurd hm (Nat.not_lt_zero _)
                      | succ fu ihL158 =>
                        intro i w H locs ls hm hi hr1 hr2 hMR hdr hpa hZ hS hl
                        refine lv_iload_n hx hb dM_written_158 rfl (lv_at hl 1 rfl) ?_
                        refine lv_iload hx hb dM_written_159 (lv_at hl 2 rfl) ?_
                        refine zr_icmp_ge (tgt := 203) hx hb (by unfold zi; omega) (by unfold zi; omega) dM_written_161 (by decide) (fun c_12 => ?_) (fun c_12 => ?_)
                        · have hfin : ∀ j, j < P → w 14 j = D (P - 1 - j) := fun j hj => by by_cases h9 : j < i ∨ P ≤ j + i; exact hr1 j hj h9; rw [hr2 j (by omega) (by omega)]; congr 1; omega
                          refine lv_aload_n hx hb dM_written_203 rfl (lv_at hl 0 rfl) ?_
                          refine zm_printed hx hb ht hown hK hZ tw_697 dM_written_204 ?_
                          refine zc_i (y := iZ (↑P)) rfl ?_
                          exact hend 207 _ () _ _ _ dM_written_207 (fun hk0 => congrArg (fun z : Nat => iZ z) (paper_eq (x := rg na) (b := nb) hbs.1 (hwr hk0) (by rw [← hX]; exact hnd) hp9 hP (by rw [← hX]; exact h14) hD45 hfin).1) (by rcases SP_g hsp ⟨hk_na, hgb⟩ with ⟨_, h, _⟩ | ⟨_, h, _⟩ | ⟨hk, hs⟩; exact h.elim; exact h.elim; obtain ⟨rg1, ct1, f1, st1, g1⟩ := σ1; obtain ⟨e1, e2, e3⟩ := hs; dsimp only at e1 e2 e3; replace e1 := e1.symm; replace e2 := e2.symm; replace e3 := e3.symm; subst hk; subst e1; subst e2; subst e3; obtain ⟨_, hpr9, hpa9⟩ := paper_eq (x := rg na) (b := nb) hbs.1 (hwr rfl) (by rw [← hX]; exact hnd) hp9 hP (by rw [← hX]; exact h14) hD45 hfin; exact ⟨hok1, w, (0, fa, ct, be, fb, sb9, P), hZ, ⟨hMR, rfl, hdr, hpr9, hpa9⟩, rfl⟩) hS
                        · obtain ⟨A, hA⟩ : ∃ q, q = w 14 := ⟨_, rfl⟩
                          have hAl : ∀ q, A q < 65536 := by rw [hA]; exact hZ.2 14
                          have hAi := hAl i
                          have hAj := hAl (P - 1 - i)
                          refine lv_aload_n hx hb dM_written_164 rfl (lv_at hl 0 rfl) ?_
                          refine zm_paper hx hb ht hown hK hZ tw_696 dM_written_165 ?_
                          refine lv_iload_n hx hb dM_written_168 rfl (lv_at hl 1 rfl) ?_
                          refine zm_ld (k := 14) (i := i) hx hb hK hZ (by decide) (by show i < 2100; omega) dM_written_169 ?_
                          rw [← hA]
                          refine lv_istore (lv' := [(5, .int (iZ (((A i : Nat) : Int)))), (0, .ref (B)), (3, .int (iZ (↑i))), (4, .int (iZ (↑P - 1 - ↑i)))]) hx hb dM_written_170 hl (by decide) rfl (fun ls hl => ?_)
                          refine lv_aload_n hx hb dM_written_172 rfl (lv_at hl 1 rfl) ?_
                          refine zm_paper hx hb ht hown hK hZ tw_696 dM_written_173 ?_
                          refine lv_iload_n hx hb dM_written_176 rfl (lv_at hl 2 rfl) ?_
                          refine lv_aload_n hx hb dM_written_177 rfl (lv_at hl 1 rfl) ?_
                          refine zm_paper hx hb ht hown hK hZ tw_696 dM_written_178 ?_
                          refine lv_iload hx hb dM_written_181 (lv_at hl 3 rfl) ?_
                          rw [show (↑P - 1 - ↑i : Int) = (((P - 1 - i) : Nat) : Int) by omega]
                          refine zm_ld (k := 14) (i := (P - 1 - i)) hx hb hK hZ (by decide) (by show (P - 1 - i) < 2100; omega) dM_written_183 ?_
                          rw [← hA]
                          rw [show (((A (P - 1 - i) : Nat) : Int) : Int) = ((A (P - 1 - i) : Nat) : Int) from rfl]
                          refine zm_st (k := 14) (i := i) (x := A (P - 1 - i)) hx hb hK hZ hS (by decide) (by show i < 2100; omega) (by omega) dM_written_184 (fun H locs hZ hS => ?_)
                          obtain ⟨w9, hw9⟩ : ∃ q, q = mup w 14 i (A (P - 1 - i)) := ⟨_, rfl⟩
                          rw [← hw9] at hZ
                          have ho : ∀ j, j ≠ 14 → w9 j = w j := fun j hj => by rw [hw9, mup_ne _ _ _ hj]
                          have hwk : w9 14 = va_up (w 14) i (A (P - 1 - i)) := by rw [hw9, mup_at]
                          clear hw9
                          obtain ⟨w, hww⟩ : ∃ q, q = w9 := ⟨_, rfl⟩
                          rw [← hww] at hZ ho hwk
                          clear hww
                          replace hMR : MR w rg := MR_same (ho 2 (by decide)) (ho 3 (by decide)) hMR
                          replace hdr : ∀ i, i < ct → w 1 i = f i := fun i hi => by rw [ho 1 (by decide)]; exact hdr i hi
                          have hwk1 : w 14 = va_up A i (A (P - 1 - i)) := by rw [hwk, hA]
                          refine lv_aload_n hx hb dM_written_185 rfl (lv_at hl 1 rfl) ?_
                          refine zm_paper hx hb ht hown hK hZ tw_696 dM_written_186 ?_
                          refine lv_iload hx hb dM_written_189 (lv_at hl 3 rfl) ?_
                          refine lv_iload hx hb dM_written_191 (lv_at hl 0 rfl) ?_
                          rw [show (((A i : Nat) : Int) : Int) = ((A i : Nat) : Int) from rfl]
                          rw [show (↑P - 1 - ↑i : Int) = (((P - 1 - i) : Nat) : Int) by omega]
                          refine zm_st (k := 14) (i := (P - 1 - i)) (x := A i) hx hb hK hZ hS (by decide) (by show (P - 1 - i) < 2100; omega) (by omega) dM_written_193 (fun H locs hZ hS => ?_)
                          obtain ⟨w9, hw9⟩ : ∃ q, q = mup w 14 (P - 1 - i) (A i) := ⟨_, rfl⟩
                          rw [← hw9] at hZ
                          have ho : ∀ j, j ≠ 14 → w9 j = w j := fun j hj => by rw [hw9, mup_ne _ _ _ hj]
                          have hwk : w9 14 = va_up (w 14) (P - 1 - i) (A i) := by rw [hw9, mup_at]
                          clear hw9
                          obtain ⟨w, hww⟩ : ∃ q, q = w9 := ⟨_, rfl⟩
                          rw [← hww] at hZ ho hwk
                          clear hww
                          replace hMR : MR w rg := MR_same (ho 2 (by decide)) (ho 3 (by decide)) hMR
                          replace hdr : ∀ i, i < ct → w 1 i = f i := fun i hi => by rw [ho 1 (by decide)]; exact hdr i hi
                          have hwk2 := hwk
                          rw [hwk1] at hwk2
                          rw [← hA] at hr1 hr2
                          refine lv_iinc (v := iZ (↑i + 1)) (lv' := [(3, .int (iZ (↑i + 1))), (5, .int (iZ (((A i : Nat) : Int)))), (0, .ref (B)), (4, .int (iZ (↑P - 1 - ↑i)))]) hx hb dM_written_194 hl (k := 2) rfl (iZ_add _ _) (by decide) rfl (fun ls hl => ?_)
                          refine lv_iinc (v := iZ (↑P - 1 - ↑i - 1)) (lv' := [(4, .int (iZ (↑P - 1 - ↑i - 1))), (3, .int (iZ (↑i + 1))), (5, .int (iZ (((A i : Nat) : Int)))), (0, .ref (B))]) hx hb dM_written_197 hl (k := 3) rfl (iZ_dec _ _) (by decide) rfl (fun ls hl => ?_)
                          refine lv_goto (tgt := 158) hx hb dM_written_200 (by decide) ?_
                          rw [show (↑i + 1 : Int) = ↑(i + 1) from by omega] at hl
                          rw [show (↑P - 1 - ↑i - 1 : Int) = ↑P - 1 - ((i + 1 : Nat) : Int) from by omega] at hl
                          exact ihL158 (i + 1) w _ _ _ (by omega) (by omega) (by rw [hwk2]; exact swap_1 hi (by omega) hr1 hr2) (by rw [hwk2]; exact swap_2 (by omega) hr2) hMR hdr hpa  hZ hS (lv_sub hl [3, 1, 0] rfl)
                    rw [show (↑P - 1 : Int) = ↑P - 1 - ((0 : Nat) : Int) from by omega] at hl
                    exact L158 _ 0 w _ _ _ (Nat.lt_succ_self _) (by omega) (fun j h1 h2 => absurd h2 (by omega)) (fun j _ _ => by rw [hD]) hMR hdr hpa  hZ hS (lv_sub hl [2, 1, 0] rfl)
                · have hp0 : pn = 0 := by omega
                  have hlo2 : 0 < pn → nb ^ pn ≤ X := fun h9 => absurd h9 (by omega)
                  refine lv_aload_n hx hb dM_written_67 rfl (lv_at hl 0 rfl) ?_
                  refine zm_one hx hb ht hown hK hZ tw_689 dM_written_68 ?_
                  refine lv_iload_n hx hb dM_written_71 rfl (lv_at hl 2 rfl) ?_
                  refine zcS_i (P' := fun (u : (Nat → Nat → Nat) × zC) H => zMD E B u.1 u.2 H) 2 (As := [.ref (B + 9), .int (iZ (↑nb))]) (rest := []) ⟨hx, hb, hml, hown, ht⟩ (mM_shrink l E B w (0, fa, ct, be, fb, sb9, pn) 9 (by decide) rfl nb hbs) tw_902 tw_900 tw_901 tw_6 qM_shrink (by rw [hR]; decide) hZ hK hl.1 rfl rfl (Nat.le_of_ble_eq_true rfl) dM_written_72 ⟨Nat.zero_le _, Nat.zero_le _⟩ hS (fun r9 u H locs hp hZ _ hS => ?_)
                  obtain ⟨w, q9⟩ := u
                  obtain ⟨ho, hq9, hsv, hr1⟩ := hp
                  dsimp only at ho hq9 hsv hr1 hZ
                  rw [hv_9] at hsv hr1
                  subst hr1
                  rw [hq9] at hZ
                  replace hMR : MR w rg := MR_same (ho 2 (by decide)) (ho 3 (by decide)) hMR
                  replace hdr : ∀ i, i < ct → w 1 i = f i := fun i hi => by rw [ho 1 (by decide)]; exact hdr i hi
                  clear hv_9
                  have hv_9 : rv (w 9) 264 = V / nb := hsv
                  clear hsv
                  replace h14 : ∀ j, j < pn → w 14 j = dc (X / nb ^ j % nb) := fun j hj => by rw [ho 14 (by decide)]; exact h14 j hj
                  obtain ⟨d, hdv⟩ : ∃ q, q = V % nb := ⟨_, rfl⟩
                  rw [← hdv]
                  have hdl : d < nb := by rw [hdv]; exact Nat.mod_lt _ (by omega)
                  refine lv_istore_n (lv' := [(3, .int (iZ (↑d))), (0, .ref (B)), (1, .int (iZ (↑na))), (2, .int (iZ (↑nb)))]) hx hb dM_written_75 rfl hl (by decide) rfl (fun ls hl => ?_)
                  refine lv_aload_n hx hb dM_written_76 rfl (lv_at hl 1 rfl) ?_
                  refine zm_paper hx hb ht hown hK hZ tw_696 dM_written_77 ?_
                  refine lv_aload_n hx hb dM_written_80 rfl (lv_at hl 1 rfl) ?_
                  refine zm_printed hx hb ht hown hK hZ tw_697 dM_written_81 ?_
                  refine zc_i (y := iZ (↑pn)) rfl ?_
                  refine lv_iload_n hx hb dM_written_84 rfl (lv_at hl 0 rfl) ?_
                  refine lv_bipush (v := iZ (10)) hx hb dM_written_85 (by decide) ?_
                  refine zr_icmp_ge (tgt := 97) hx hb (by unfold zi; omega) (by unfold zi; omega) dM_written_87 (by decide) (fun c_13 => ?_) (fun c_13 => ?_)
                  · refine lv_bipush (v := iZ (97)) hx hb dM_written_97 (by decide) ?_
                    refine lv_iload_n hx hb dM_written_99 rfl (lv_at hl 0 rfl) ?_
                    refine zr_iadd hx hb dM_written_100 ?_
                    refine lv_bipush (v := iZ (10)) hx hb dM_written_101 (by decide) ?_
                    refine zr_isub hx hb dM_written_103 ?_
                    rw [show ((97 + ↑d) - 10 : Int) = ((dc d : Nat) : Int) from by unfold dc; split <;> omega]
                    refine zm_st (k := 14) (i := pn) (x := dc d) hx hb hK hZ hS (by decide) (by show pn < 2100; omega) (by have := dc_lt (d := d) (by omega); omega) dM_written_104 (fun H locs hZ hS => ?_)
                    obtain ⟨w9, hw9⟩ : ∃ q, q = mup w 14 pn (dc d) := ⟨_, rfl⟩
                    rw [← hw9] at hZ
                    have ho : ∀ j, j ≠ 14 → w9 j = w j := fun j hj => by rw [hw9, mup_ne _ _ _ hj]
                    have hwk : w9 14 = va_up (w 14) pn (dc d) := by rw [hw9, mup_at]
                    clear hw9
                    obtain ⟨w, hww⟩ : ∃ q, q = w9 := ⟨_, rfl⟩
                    rw [← hww] at hZ ho hwk
                    clear hww
                    replace hMR : MR w rg := MR_same (ho 2 (by decide)) (ho 3 (by decide)) hMR
                    replace hdr : ∀ i, i < ct → w 1 i = f i := fun i hi => by rw [ho 1 (by decide)]; exact hdr i hi
                    replace hv_9 : rv (w 9) 264 = V / nb := by rw [ho 9 (by decide)]; exact hv_9
                    refine lv_aload_n hx hb dM_written_105 rfl (lv_at hl 1 rfl) ?_
                    refine lv_dup hx hb dM_written_106 rfl ?_
                    refine zm_printed hx hb ht hown hK hZ tw_697 dM_written_107 ?_
                    refine zc_i (y := iZ (↑pn)) rfl ?_
                    refine lv_iconst (v := iZ (1)) hx hb dM_written_110 (by decide) ?_
                    refine zr_iadd hx hb dM_written_111 ?_
                    rw [show (↑pn + 1 : Int) = ((pn + 1 : Nat) : Int) from by omega]
                    refine zm_put_printed (x := pn + 1) hx hb ht hown hK hZ hS tw_697 dM_written_112 (fun H locs hZ hS => ?_)
                    have hZ : zMD E B w (0, fa, ct, be, fb, sb9, pn + 1) H := hZ
                    refine lv_goto (tgt := 50) hx hb dM_written_115 (by decide) ?_
                    exact ihL50 (pn + 1) (V / nb) w _ _ _ (by have hp9 : pn ≤ 2048 := ndg_le hbs.1 hX2 hlo; omega) (by rw [hV, Nat.pow_succ, Nat.div_div_eq_div_mul]) (fun h9 => hlo2 (by omega)) (fun j hj => by rw [hwk]; by_cases h9 : j = pn; rw [h9, va_up_self, hdv, hV]; rw [va_up_ne _ _ h9]; exact h14 j (by omega)) hMR hdr hpa hv_9 hZ hS (lv_sub hl [1, 2, 3] rfl)
                  · refine lv_bipush (v := iZ (48)) hx hb dM_written_90 (by decide) ?_
                    refine lv_iload_n hx hb dM_written_92 rfl (lv_at hl 0 rfl) ?_
                    refine zr_iadd hx hb dM_written_93 ?_
                    refine lv_goto (tgt := 104) hx hb dM_written_94 (by decide) ?_
                    rw [show (48 + ↑d : Int) = ((dc d : Nat) : Int) from by unfold dc; split <;> omega]
                    refine zm_st (k := 14) (i := pn) (x := dc d) hx hb hK hZ hS (by decide) (by show pn < 2100; omega) (by have := dc_lt (d := d) (by omega); omega) dM_written_104 (fun H locs hZ hS => ?_)
                    obtain ⟨w9, hw9⟩ : ∃ q, q = mup w 14 pn (dc d) := ⟨_, rfl⟩
                    rw [← hw9] at hZ
                    have ho : ∀ j, j ≠ 14 → w9 j = w j := fun j hj => by rw [hw9, mup_ne _ _ _ hj]
                    have hwk : w9 14 = va_up (w 14) pn (dc d) := by rw [hw9, mup_at]
                    clear hw9
                    obtain ⟨w, hww⟩ : ∃ q, q = w9 := ⟨_, rfl⟩
                    rw [← hww] at hZ ho hwk
                    clear hww
                    replace hMR : MR w rg := MR_same (ho 2 (by decide)) (ho 3 (by decide)) hMR
                    replace hdr : ∀ i, i < ct → w 1 i = f i := fun i hi => by rw [ho 1 (by decide)]; exact hdr i hi
                    replace hv_9 : rv (w 9) 264 = V / nb := by rw [ho 9 (by decide)]; exact hv_9
                    refine lv_aload_n hx hb dM_written_105 rfl (lv_at hl 1 rfl) ?_
                    refine lv_dup hx hb dM_written_106 rfl ?_
                    refine zm_printed hx hb ht hown hK hZ tw_697 dM_written_107 ?_
                    refine zc_i (y := iZ (↑pn)) rfl ?_
                    refine lv_iconst (v := iZ (1)) hx hb dM_written_110 (by decide) ?_
                    refine zr_iadd hx hb dM_written_111 ?_
                    rw [show (↑pn + 1 : Int) = ((pn + 1 : Nat) : Int) from by omega]
                    refine zm_put_printed (x := pn + 1) hx hb ht hown hK hZ hS tw_697 dM_written_112 (fun H locs hZ hS => ?_)
                    have hZ : zMD E B w (0, fa, ct, be, fb, sb9, pn + 1) H := hZ
                    refine lv_goto (tgt := 50) hx hb dM_written_115 (by decide) ?_
                    exact ihL50 (pn + 1) (V / nb) w _ _ _ (by have hp9 : pn ≤ 2048 := ndg_le hbs.1 hX2 hlo; omega) (by rw [hV, Nat.pow_succ, Nat.div_div_eq_div_mul]) (fun h9 => hlo2 (by omega)) (fun j hj => by rw [hwk]; by_cases h9 : j = pn; rw [h9, va_up_self, hdv, hV]; rw [va_up_ne _ _ h9]; exact h14 j (by omega)) hMR hdr hpa hv_9 hZ hS (lv_sub hl [1, 2, 3] rfl)
          exact L50 _ 0 X w _ _ _ (Nat.lt_succ_self _) (by rw [Nat.pow_zero, Nat.div_one]) (fun h => absurd h (by decide)) (fun j hj => absurd hj (Nat.not_lt_zero _)) hMR hdr hpa hv_9 hZ hS (lv_sub hl [0, 1, 2] rfl)
        · exact absurd c_6 (by decide)
      · have hng : ¬ (2 ≤ base ∧ base ≤ 36) := by omega
        refine lv_iconst (v := iZ (1)) hx hb dM_written_19 (by decide) ?_
        refine lv_goto (tgt := 24) hx hb dM_written_20 (by decide) ?_
        refine W.eq (g2 := F0 m 24 ls ([.int (iZ ((1 : Nat) : Int)), .ref B])) rfl ?_
        refine zm_put_thrown (x := 1) hx hb ht hown hK hZ hS tw_677 dM_written_24 (fun H locs hZ hS => ?_)
        have hZ : zMD E B w0 (1, fa, ct, be, fb, sb9, (2049 - st)) H := hZ
        refine lv_aload_n hx hb dM_written_27 rfl (lv_at hl 0 rfl) ?_
        refine zm_thrown hx hb ht hown hK hZ tw_677 dM_written_28 ?_
        refine zc_i (y := iZ (((1 : Nat) : Int))) rfl ?_
        refine zr_if_le (tgt := 36) hx hb (by decide) dM_written_31 (by decide) (fun c_14 => ?_) (fun c_14 => ?_)
        · exact absurd c_14 (by decide)
        · refine lv_iconst (v := iZ (0)) hx hb dM_written_34 (by decide) ?_
          exact hend 35 _ () _ _ _ dM_written_35 (fun h9 => by obtain ⟨hk, _⟩ := SP_1 hsp (fun h9 => hng (by first | exact h9.1 | exact h9.2)); omega) (by obtain ⟨hk, hs⟩ := SP_1 hsp (fun h9 => hng (by first | exact h9 | exact h9.1 | exact h9.2.1 | exact h9.2.2.1 | exact h9.2.2.2.1 | exact h9.2.2.2 | exact h9.2.2 | exact h9.2)); subst hk; subst hs; exact ⟨hok1, w0, (1, fa, ct, be, fb, sb9, (2049 - st)), hZ, ⟨hMR, rfl, hdr, rfl, hpa⟩, rfl⟩) hS
