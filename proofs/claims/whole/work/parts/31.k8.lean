set_option maxHeartbeats 4000000 in
set_option maxRecDepth 100000 in
theorem mK_raisedModulo (l : Launch) (hl0 : l.stackTraces = false) (E : zE) (B : Nat) (v0 : Nat → zV) (o : Nat → va_E) (an0 sp0 : Nat) (hA0 : swp 27 29 an0 sp0) (a : Nat) (hla : lp a = true) (x : Int) (hVx : zN (v0 a) x) (hXx : zX x) (ke : Nat) (hlke : lp ke = true) (ee : Int) (hVee : zN (v0 ke) ee) (b : Nat) (hlb : lp b = true) (md : Nat) (hVmd : zN (v0 b) ((md : Nat) : Int)) (hmd : 0 < md) (hXm : zX ((md : Nat) : Int)) (ha : a < 22) (he9 : ke < 22) (hb9 : b < 22) :
    vx_Met l yK_raisedModulo (zws yK_raisedModulo cK_raisedModulo 7 (some (.object "WholeDesk$Whole"))) { frames := 7, cells := 1, slots := 6, locals := 210 } (zPx E (zA B 80) (zD E B v0 (zo E B o an0 sp0)) [.ref (B + 22), .ref (B + a), .ref (B + ke), .ref (B + b)]) (va_Qr (fun u : (Nat → zV) × Nat × Nat × Nat => (∀ j, j < 22 → u.1 j = v0 j) ∧ swp 27 29 u.2.1 u.2.2.1 ∧ u.2.2.2 = u.2.1 ∧ (ee < 0 → Nat.gcd md x.natAbs = 1) ∧ ∃ bs : Nat, bs < md ∧ ((ee < 0 ∧ ((md : Nat) : Int) ∣ x * ((bs : Nat) : Int) - 1) ∨ (0 ≤ ee ∧ ((bs : Nat) : Int) = x % ((md : Nat) : Int))) ∧ zN (u.1 u.2.1) ((bs ^ ee.natAbs % md : Nat) : Int)) (fun (u : (Nat → zV) × Nat × Nat × Nat) a t => (a = B + u.2.2.2 ∧ zD E B u.1 (zo E B o u.2.1 u.2.2.1) t.heap) ∧ zK E t) (zA B 80)) (vx_X (fun u : (Nat → zV) × Nat × Nat => (∀ j, j < 22 → u.1 j = v0 j) ∧ swp 27 29 u.2.1 u.2.2 ∧ ee < 0 ∧ Nat.gcd md x.natAbs ≠ 1) (fun C u t => (fun (C : String) (u : (Nat → zV) × Nat × Nat) (H : Heap) => C = "java/lang/ArithmeticException" ∧ zD E B u.1 (zo E B o u.2.1 u.2.2) H) C u t.heap ∧ zK E t) (zA B 80)) 1 6 (zA B 80) := by
  have hA1 : (an0 = 27 ∧ sp0 = 29) ∨ (an0 = 29 ∧ sp0 = 27) := hA0
  have ne_0_1 : nA an0 sp0 := by show an0 ≠ sp0; omega
  have ne_0_2 : nA an0 a := by show an0 ≠ a; omega
  have ne_0_3 : nA an0 ke := by show an0 ≠ ke; omega
  have ne_0_4 : nA an0 b := by show an0 ≠ b; omega
  have ne_0_5 : nA an0 23 := by show an0 ≠ 23; omega
  have ne_0_6 : nA an0 25 := by show an0 ≠ 25; omega
  have ne_1_2 : nA sp0 a := by show sp0 ≠ a; omega
  have ne_1_3 : nA sp0 ke := by show sp0 ≠ ke; omega
  have ne_1_4 : nA sp0 b := by show sp0 ≠ b; omega
  have ne_1_5 : nA sp0 23 := by show sp0 ≠ 23; omega
  have ne_1_6 : nA sp0 25 := by show sp0 ≠ 25; omega
  have ne_2_5 : nA a 23 := by show a ≠ 23; omega
  have ne_2_6 : nA a 25 := by show a ≠ 25; omega
  have ne_2_7 : nA a 27 := by show a ≠ 27; omega
  have ne_2_8 : nA a 29 := by show a ≠ 29; omega
  have ne_3_5 : nA ke 23 := by show ke ≠ 23; omega
  have ne_3_6 : nA ke 25 := by show ke ≠ 25; omega
  have ne_3_7 : nA ke 27 := by show ke ≠ 27; omega
  have ne_3_8 : nA ke 29 := by show ke ≠ 29; omega
  have ne_4_5 : nA b 23 := by show b ≠ 23; omega
  have ne_4_6 : nA b 25 := by show b ≠ 25; omega
  have ne_4_7 : nA b 27 := by show b ≠ 27; omega
  have ne_4_8 : nA b 29 := by show b ≠ 29; omega
  clear hA1
  refine zox_r (P' := fun (u : (Nat → zV) × Nat × Nat × Nat) a H => a = B + u.2.2.2 ∧ zD E B u.1 (zo E B o u.2.1 u.2.2.1) H) (BX := fun (C : String) (u : (Nat → zV) × Nat × Nat) (H : Heap) => C = "java/lang/ArithmeticException" ∧ zD E B u.1 (zo E B o u.2.1 u.2.2) H) hl0 (fun C u H H1 _ hq h => ⟨h.1, zD_grow hq h.2⟩) (by decide) (Nat.le_of_ble_eq_true rfl) fun p e R s m args below meth c Q ls hR hx hb hml ht hown hK hZ hH hl hend hthr hpas => ?_
  have hS : va_S (zA B 80) s.heap s.heap [] := va_S.rf
  have hown : s.vm.findClass "WholeDesk$Reckoner" = some m.cls := hown
  have hl : lv_has ls 7 [(0, .ref (B + 22)), (1, .ref (B + a)), (2, .ref (B + ke)), (3, .ref (B + b))] := hl
  have hlan : lp an0 = true := (swp_lp hA0 (by decide) (by decide)).1
  have hlsp : lp sp0 = true := (swp_lp hA0 (by decide) (by decide)).2
  have hVmd0 := hVmd
  have hVee0 := hVee
  have hdd := (hZ.2 ke hlke).1
  have hnn := (hZ.2 ke hlke).2
  obtain ⟨dd, hde⟩ : ∃ d9, d9 = (v0 ke).1 := ⟨_, rfl⟩
  obtain ⟨nn, hne⟩ : ∃ n9, n9 = (v0 ke).2.1 := ⟨_, rfl⟩
  have hEE : ee.natAbs = wv dd nn := by rw [hde, hne]; exact zN_abs hVee
  rw [← hde] at hdd
  rw [← hne] at hnn
  have fr : ∀ j, j < 22 → v0 j = v0 j := fun j _ => rfl
  have J23 : ∀ (cs sl kc bs : Nat) (v : Nat → zV) (H : Heap) (locs : List Loc) (ls : Array Slot), cs ≤ 1 ∧ sl ≤ 6 → (kc = 25 ∨ kc = 35 ∨ kc = 37) → zN (v kc) ((bs : Nat) : Int) → bs < md → ((ee < 0 ∧ ((md : Nat) : Int) ∣ x * ((bs : Nat) : Int) - 1) ∨ (0 ≤ ee ∧ ((bs : Nat) : Int) = x % ((md : Nat) : Int))) → (ee < 0 → Nat.gcd md x.natAbs = 1) → (∀ j, j < 22 → v j = v0 j) → zD E B v (zo E B o an0 sp0) H → va_S (zA B 80) s.heap H locs → lv_has ls 7 [(0, .ref (B + 22)), (2, .ref (B + ke)), (3, .ref (B + b))] → W p l e R s m args below meth c H locs cs sl Q (F0 m 23 ls [.ref (B + kc), .ref (B + 22)]) := by
    intro cs sl kc bs v H locs ls hcs hkc hNb hbs hrel hgc fr hZ hS hl
    have hVmd : zN (v b) ((md : Nat) : Int) := by rw [fr b hb9]; exact hVmd0
    have hlkc : lp kc = true := by rcases hkc with h | h | h <;> subst h <;> decide
    refine lv_aload_n hx hb dK_raisedModulo_23 rfl (lv_at hl 2 rfl) ?_
    refine zcV_v 2 (As := [.ref (B + kc), .ref (B + b)]) (rest := []) rfl ⟨hx, hb, hml, hown, ht⟩ (mK_fillPowers l E B v o an0 sp0 hA0 kc hlkc bs hNb b hlb md hVmd hb9 hkc hbs hXm) tw_539 tw_536 tw_538 tp_8 tw_3 qK_fillPowers (by rw [hR]; decide) (zK_recv hK hZ) hZ hK hl.1 rfl rfl (Nat.le_of_ble_eq_true rfl) dK_raisedModulo_24 (by rw [hR]; exact hcs) hS (fun u H locs hp hZ _ hS => ?_)
    obtain ⟨v, an, sp, o9⟩ := u
    obtain ⟨ho, hA9, hPw⟩ := hp
    dsimp only at ho hA9 hPw hZ
    have fr : ∀ j, j < 22 → v j = v0 j := fun j h0 => (ho j h0).trans (fr j h0)
    have hVmd : zN (v b) ((md : Nat) : Int) := by rw [fr b hb9]; exact hVmd0
    have hl_sw1 : lp an = true := (swp_lp hA9 (by decide) (by decide)).1
    have hl_sw2 : lp sp = true := (swp_lp hA9 (by decide) (by decide)).2
    have n_sw : nA an sp := swp_as hA9 (by decide)
    have n_sw_b := swp_ne (o := b) hA9 ne_4_7 ne_4_8
    have n_sw_ke := swp_ne (o := ke) hA9 ne_3_7 ne_3_8
    have hsw_sw := hA9
    refine lv_aload_n hx hb dK_raisedModulo_27 rfl (lv_at hl 0 rfl) ?_
    refine zk_answer hx hb ht hown hK hZ tw_63 dK_raisedModulo_28 ?_
    refine lv_aload_n hx hb dK_raisedModulo_31 rfl (lv_at hl 0 rfl) ?_
    refine zk_powers hx hb ht hown hK hZ tw_69 dK_raisedModulo_32 ?_
    refine lv_iconst (v := iZ (0)) hx hb dK_raisedModulo_35 (by decide) ?_
    refine zk_pw (i := 0) hx hb hK hZ (by omega) dK_raisedModulo_36 ?_
    refine W.eq (g2 := F0 m 37 ls ([.ref (B + 40), .ref (B + an)])) rfl ?_
    have hNpw := hPw 0 (by decide)
    refine zcV_v 1 (As := [.ref (B + 40)]) (rest := []) rfl ⟨hx, hb, hml, hown, ht⟩ (mW_copy l E B v (zo E B o an sp) an hl_sw1 (v an).1 (v an).2.1 (v an).2.2 rfl 40 (by decide) (v 40).1 (v 40).2.1 (v 40).2.2 rfl (swp_ne hsw_sw (by omega) (by omega)).1) tw_345 tw_368 tw_343 tw_344 tw_2 qW_copy (by rw [hR]; decide) (zW_recv hK hZ hl_sw1) hZ hK hl.1 rfl rfl (Nat.le_of_ble_eq_true rfl) dK_raisedModulo_37 (by rw [hR]; exact hcs) hS (fun v H locs hp hZ _ hS => ?_)
    obtain ⟨ho, d9, ev9, hd9⟩ := hp
    have hN9 : zN (v an) (((bs ^ 0 % md : Nat) : Int)) := by rw [ev9]; exact zN_copy hNpw hd9
    have hVmd : zN (v b) (((md : Nat) : Int)) := by rw [ho _ n_sw_b.1]; exact hVmd
    have hNpw : zN (v 40) (((bs ^ 0 % md : Nat) : Int)) := by rw [ho _ (swp_ne hsw_sw (by omega) (by omega)).1]; exact hNpw
    have fr : ∀ j, j < 22 → v j = v0 j := fun j h0 => (ho j (swp_ne hsw_sw (by omega) (by omega)).1).trans (fr j h0)
    have hPw : ∀ j, j < 16 → zN (v (40 + 2 * j)) ((bs ^ j % md : Nat) : Int) := fun j hj => by rw [ho _ (swp_ne hsw_sw (by omega) (by omega)).1]; exact hPw j hj
    have hNan : zN (v an) (((bs ^ 0 % md : Nat) : Int)) := hN9
    have hke : v ke = v0 ke := fr ke he9
    refine lv_aload_n hx hb dK_raisedModulo_40 rfl (lv_at hl 1 rfl) ?_
    refine zw_count (d := (v ke).1) (n := (v ke).2.1) (b := (v ke).2.2) hx hb ht hown hK hZ hlke rfl tw_33 dK_raisedModulo_41 ?_
    rw [hke, ← hne]
    refine lv_iconst (v := iZ (1)) hx hb dK_raisedModulo_44 (by decide) ?_
    refine zr_isub hx hb dK_raisedModulo_45 ?_
    refine lv_istore (lv' := [(4, .int (iZ (↑nn - 1))), (0, .ref (B + 22)), (2, .ref (B + ke)), (3, .ref (B + b))]) hx hb dK_raisedModulo_46 hl (by decide) rfl (fun ls hl => ?_)
    have L48 : ∀ (fu : Nat) (k : Nat) (an sp : Nat) (v : Nat → zV) (H : Heap) (locs : List Loc) (ls : Array Slot), k < fu → swp 27 29 an sp → (k ≤ nn) → (∀ j, j < 16 → zN (v (40 + 2 * j)) ((bs ^ j % md : Nat) : Int)) → zN (v an) (((bs ^ (wv dd nn / 2 ^ (28 * k)) % md : Nat) : Int)) → zN (v b) (((md : Nat) : Int)) → (∀ j, j < 22 → v j = v0 j) → zD E B v (zo E B o an sp) H → va_S (zA B 80) s.heap H locs → lv_has ls 7 [(0, .ref (B + 22)), (2, .ref (B + ke)), (3, .ref (B + b)), (4, .int (iZ (↑k - 1)))] → W p l e R s m args below meth c H locs cs sl Q (F0 m 48 ls []) := by
      intro fu
      induction fu with
      | zero => intro k an sp v H locs ls hm; exact absurd hm (Nat.not_lt_zero _)
      | succ fu ihL48 =>
        intro k an sp v H locs ls hm hA9 hk hPw hNan hVmd fr hZ hS hl
        have hl_sw1 : lp an = true := (swp_lp hA9 (by decide) (by decide)).1
        have hl_sw2 : lp sp = true := (swp_lp hA9 (by decide) (by decide)).2
        have n_sw : nA an sp := swp_as hA9 (by decide)
        have n_sw_a := swp_ne (o := a) hA9 ne_2_7 ne_2_8
        have n_sw_ke := swp_ne (o := ke) hA9 ne_3_7 ne_3_8
        have n_sw_b := swp_ne (o := b) hA9 ne_4_7 ne_4_8
        have hsw_sw := hA9
        refine lv_iload hx hb dK_raisedModulo_48 (lv_at hl 3 rfl) ?_
        refine zr_if_lt (tgt := 130) hx hb (by omega) dK_raisedModulo_50 (by decide) (fun c_1 => ?_) (fun c_1 => ?_)
        · have hk0 : k = 0 := by omega
          rw [hk0, Nat.mul_zero, Nat.pow_zero, Nat.div_one, ← hEE] at hNan
          refine lv_aload_n hx hb dK_raisedModulo_130 rfl (lv_at hl 0 rfl) ?_
          refine zk_answer hx hb ht hown hK hZ tw_63 dK_raisedModulo_131 ?_
          exact hend 134 (v, an, sp, an) _ _ _ _ _ _ hcs dK_raisedModulo_134 (⟨fr, hA9, rfl, hgc, bs, hbs, hrel, hNan⟩) ⟨rfl, hZ⟩ hS
        · obtain ⟨i, rfl⟩ : ∃ i, k = i + 1 := ⟨k - 1, by omega⟩
          rw [show ((i + 1 : Nat) : Int) - 1 = (i : Int) by omega] at hl
          refine lv_bipush (v := iZ (24)) hx hb dK_raisedModulo_53 (by decide) ?_
          refine lv_istore (lv' := [(5, .int (iZ (24))), (0, .ref (B + 22)), (2, .ref (B + ke)), (3, .ref (B + b)), (4, .int (iZ (↑i)))]) hx hb dK_raisedModulo_55 hl (by decide) rfl (fun ls hl => ?_)
          have L57 : ∀ (fu : Nat) (t : Nat) (an sp : Nat) (v : Nat → zV) (H : Heap) (locs : List Loc) (ls : Array Slot), t < fu → swp 27 29 an sp → (t ≤ 7) → (∀ j, j < 16 → zN (v (40 + 2 * j)) ((bs ^ j % md : Nat) : Int)) → zN (v an) (((bs ^ (wv dd nn / 2 ^ (28 * i + 4 * t)) % md : Nat) : Int)) → zN (v b) (((md : Nat) : Int)) → (∀ j, j < 22 → v j = v0 j) → zD E B v (zo E B o an sp) H → va_S (zA B 80) s.heap H locs → lv_has ls 7 [(0, .ref (B + 22)), (2, .ref (B + ke)), (3, .ref (B + b)), (4, .int (iZ (↑i))), (5, .int (iZ (4 * ↑t - 4)))] → W p l e R s m args below meth c H locs cs sl Q (F0 m 57 ls []) := by
            intro fu
            induction fu with
            | zero => intro t an sp v H locs ls hm; exact absurd hm (Nat.not_lt_zero _)
            | succ fu ihL57 =>
              intro t an sp v H locs ls hm hA9 ht7 hPw hNan hVmd fr hZ hS hl
              have hl_sw1 : lp an = true := (swp_lp hA9 (by decide) (by decide)).1
              have hl_sw2 : lp sp = true := (swp_lp hA9 (by decide) (by decide)).2
              have n_sw : nA an sp := swp_as hA9 (by decide)
              have n_sw_a := swp_ne (o := a) hA9 ne_2_7 ne_2_8
              have n_sw_ke := swp_ne (o := ke) hA9 ne_3_7 ne_3_8
              have n_sw_b := swp_ne (o := b) hA9 ne_4_7 ne_4_8
              have hsw_sw := hA9
              refine lv_iload hx hb dK_raisedModulo_57 (lv_at hl 4 rfl) ?_
              refine zr_if_lt (tgt := 124) hx hb (by omega) dK_raisedModulo_59 (by decide) (fun c_2 => ?_) (fun c_2 => ?_)
              · refine lv_iinc (v := iZ (↑i - 1)) (lv' := [(4, .int (iZ (↑i - 1))), (0, .ref (B + 22)), (2, .ref (B + ke)), (3, .ref (B + b)), (5, .int (iZ (4 * ↑t - 4)))]) hx hb dK_raisedModulo_124 hl (k := 3) rfl (iZ_dec _ _) (by decide) rfl (fun ls hl => ?_)
                refine lv_goto (tgt := 48) hx hb dK_raisedModulo_127 (by decide) ?_
                exact ihL48 i an sp v _ _ _ (by omega) hA9 (by omega) (hPw) (by have e9 : 28 * i + 4 * t = 28 * i := (by omega); rw [e9] at hNan; exact hNan) hVmd fr hZ hS (lv_sub hl [1, 2, 3, 0] rfl)
              · refine lv_iconst (v := iZ (0)) hx hb dK_raisedModulo_62 (by decide) ?_
                refine lv_istore (lv' := [(6, .int (iZ (0))), (0, .ref (B + 22)), (2, .ref (B + ke)), (3, .ref (B + b)), (4, .int (iZ (↑i))), (5, .int (iZ (4 * ↑t - 4)))]) hx hb dK_raisedModulo_63 hl (by decide) rfl (fun ls hl => ?_)
                have L65 : ∀ (fu : Nat) (q : Nat) (an sp : Nat) (v : Nat → zV) (H : Heap) (locs : List Loc) (ls : Array Slot), 4 - q < fu → swp 27 29 an sp → (q ≤ 4) → (∀ j, j < 16 → zN (v (40 + 2 * j)) ((bs ^ j % md : Nat) : Int)) → zN (v an) (((bs ^ (2 ^ q * (wv dd nn / 2 ^ (28 * i + 4 * t))) % md : Nat) : Int)) → zN (v b) (((md : Nat) : Int)) → (∀ j, j < 22 → v j = v0 j) → zD E B v (zo E B o an sp) H → va_S (zA B 80) s.heap H locs → lv_has ls 7 [(0, .ref (B + 22)), (2, .ref (B + ke)), (3, .ref (B + b)), (4, .int (iZ (↑i))), (5, .int (iZ (4 * ↑t - 4))), (6, .int (iZ (↑q)))] → W p l e R s m args below meth c H locs cs sl Q (F0 m 65 ls []) := by
                  intro fu
                  induction fu with
                  | zero => intro q an sp v H locs ls hm; exact absurd hm (Nat.not_lt_zero _)
                  | succ fu ihL65 =>
                    intro q an sp v H locs ls hm hA9 hq4 hPw hNan hVmd fr hZ hS hl
                    have hl_sw1 : lp an = true := (swp_lp hA9 (by decide) (by decide)).1
                    have hl_sw2 : lp sp = true := (swp_lp hA9 (by decide) (by decide)).2
                    have n_sw : nA an sp := swp_as hA9 (by decide)
                    have n_sw_a := swp_ne (o := a) hA9 ne_2_7 ne_2_8
                    have n_sw_ke := swp_ne (o := ke) hA9 ne_3_7 ne_3_8
                    have n_sw_b := swp_ne (o := b) hA9 ne_4_7 ne_4_8
                    have hsw_sw := hA9
                    refine lv_iload hx hb dK_raisedModulo_65 (lv_at hl 5 rfl) ?_
                    refine lv_iconst (v := iZ (4)) hx hb dK_raisedModulo_67 (by decide) ?_
                    refine zr_icmp_ge (tgt := 86) hx hb (by omega) (by omega) dK_raisedModulo_68 (by decide) (fun c_3 => ?_) (fun c_3 => ?_)
                    · have hq9 : q = 4 := by omega
                      rw [hq9] at hNan
                      have hke : v ke = v0 ke := fr ke he9
                      have hwin := win_e hdd (n := nn) (i := i) (t := t) (by omega) (by omega)
                      have hdi := hdd i
                      refine lv_aload_n hx hb dK_raisedModulo_86 rfl (lv_at hl 1 rfl) ?_
                      refine lv_iload hx hb dK_raisedModulo_87 (lv_at hl 3 rfl) ?_
                      refine zcV_l 1 (As := [.int (iZ (↑i))]) (rest := []) rfl ⟨hx, hb, hml, hown, ht⟩ (mW_limb l E B v (zo E B o an sp) ke hlke (v ke).1 (v ke).2.1 (v ke).2.2 rfl (↑i) (by unfold zi; omega)) tw_322 tw_544 tw_320 tw_321 tw_2 qW_limb (by rw [hR]; decide) (zW_recv hK hZ hlke) hZ hK hl.1 rfl rfl (Nat.le_of_ble_eq_true rfl) dK_raisedModulo_89 (by rw [hR]; exact hcs) hS (fun r_4 v1 H locs hp hZ _ hS => ?_)
                      obtain ⟨hv1, hr1⟩ := hp
                      rw [hv1] at hZ
                      subst hr1
                      clear hv1 v1
                      rw [hke, ← hde, ← hne, wz_in (d := dd) (n := nn) (by omega) (by omega), Int.toNat_natCast]
                      refine lv_iload hx hb dK_raisedModulo_92 (lv_at hl 4 rfl) ?_
                      refine zc_i (y := iZ ↑(4 * t - 4)) (congrArg iZ (by omega)) ?_
                      refine zr_lushr (n := 4 * t - 4) (P := ((2 ^ (4 * t - 4) : Nat) : Int)) hx hb (by unfold zl; omega) (by omega) (by omega) (rfl) dK_raisedModulo_94 ?_
                      refine zc_l (y := lZ (↑(dd i / 2 ^ (4 * t - 4)))) (congrArg lZ (Int.natCast_ediv _ _).symm) ?_
                      refine zr_l2i hx hb dK_raisedModulo_95 ?_
                      refine lv_bipush (v := iZ (15)) hx hb dK_raisedModulo_96 (by decide) ?_
                      have hle9 := Nat.div_le_self (dd i) (2 ^ (4 * t - 4))
                      refine zr_iand hx hb 4 (by omega) rfl dK_raisedModulo_98 ?_
                      rw [show (2 : Nat) ^ 4 = 16 from rfl]
                      generalize hdg9 : dd i / 2 ^ (4 * t - 4) % 16 = dg at hwin ⊢
                      have hdg : dg < 16 := by rw [← hdg9]; exact Nat.mod_lt _ (by decide)
                      clear hdg9 hle9
                      refine lv_istore (lv' := [(6, .int (iZ (↑dg))), (0, .ref (B + 22)), (2, .ref (B + ke)), (3, .ref (B + b)), (4, .int (iZ (↑i))), (5, .int (iZ (4 * ↑t - 4)))]) hx hb dK_raisedModulo_99 hl (by decide) rfl (fun ls hl => ?_)
                      refine lv_iload hx hb dK_raisedModulo_101 (lv_at hl 0 rfl) ?_
                      refine zr_if_eq (tgt := 118) hx hb (by omega) dK_raisedModulo_103 (by decide) (fun c_5 => ?_) (fun c_5 => ?_)
                      · have hd0 : dg = 0 := by omega
                        rw [hd0, Nat.add_zero] at hwin
                        refine lv_iinc (v := iZ (4 * ↑t - 4 - 4)) (lv' := [(5, .int (iZ (4 * ↑t - 4 - 4))), (6, .int (iZ (↑dg))), (0, .ref (B + 22)), (2, .ref (B + ke)), (3, .ref (B + b)), (4, .int (iZ (↑i)))]) hx hb dK_raisedModulo_118 hl (k := 5) rfl (iZ_dec _ _) (by decide) rfl (fun ls hl => ?_)
                        refine lv_goto (tgt := 57) hx hb dK_raisedModulo_121 (by decide) ?_
                        rw [show (4 * ↑t - 4 - 4 : Int) = 4 * ↑(t - 1) - 4 from by omega] at hl
                        exact ihL57 (t - 1) an sp v _ _ _ (by omega) hA9 (by omega) (hPw) (by rw [show 28 * i + 4 * (t - 1) = 28 * i + (4 * t - 4) by omega, ← hwin]; exact hNan) hVmd fr hZ hS (lv_sub hl [2, 3, 4, 5, 0] rfl)
                      · refine lv_aload_n hx hb dK_raisedModulo_106 rfl (lv_at hl 1 rfl) ?_
                        refine lv_aload_n hx hb dK_raisedModulo_107 rfl (lv_at hl 1 rfl) ?_
                        refine zk_powers hx hb ht hown hK hZ tw_69 dK_raisedModulo_108 ?_
                        refine lv_iload hx hb dK_raisedModulo_111 (lv_at hl 0 rfl) ?_
                        refine zk_pw (i := dg) hx hb hK hZ (by omega) dK_raisedModulo_113 ?_
                        have hNpw := hPw dg hdg
                        refine lv_aload_n hx hb dK_raisedModulo_114 rfl (lv_at hl 3 rfl) ?_
                        refine zcV_v 2 (As := [.ref (B + (40 + 2 * dg)), .ref (B + b)]) (rest := []) rfl ⟨hx, hb, hml, hown, ht⟩ (mK_timesModulo l E B v o an sp hA9 (((bs ^ (2 ^ 4 * (wv dd nn / 2 ^ (28 * i + 4 * t))) % md : Nat) : Int)) hNan (40 + 2 * dg) (by rw [lp_iff]; omega) (((bs ^ (dg) % md : Nat) : Int)) hNpw b hlb (((md : Nat) : Int)) hVmd (swp_ne hsw_sw (by omega) (by omega)).2 ⟨by omega, by omega, by omega⟩ (by omega) (pm_smm hmd hXm)) tw_543 tw_540 tw_542 tp_9 tw_3 qK_timesModulo (by rw [hR]; decide) (zK_recv hK hZ) hZ hK hl.1 rfl rfl (Nat.le_of_ble_eq_true rfl) dK_raisedModulo_115 (by rw [hR]; exact hcs) hS (fun u H locs hp hZ _ hS => ?_)
                        obtain ⟨v, a9, s9, o9⟩ := u
                        obtain ⟨ho, ⟨e8, e9⟩, hN9⟩ := hp
                        dsimp only at ho e8 e9 hN9 hZ
                        rw [e8, e9] at hZ
                        have hVmd : zN (v b) (((md : Nat) : Int)) := by rw [ho _ ne_4_5 ne_4_7 ne_4_8]; exact hVmd
                        have fr : ∀ j, j < 22 → v j = v0 j := fun j h0 => (ho j (by omega) (by omega) (by omega)).trans (fr j h0)
                        have hPw : ∀ j, j < 16 → zN (v (40 + 2 * j)) ((bs ^ j % md : Nat) : Int) := fun j hj => by rw [ho _ (by omega) (by omega) (by omega)]; exact hPw j hj
                        have hNan : zN (v sp) (((((bs ^ (2 ^ 4 * (wv dd nn / 2 ^ (28 * i + 4 * t))) % md : Nat) : Int)) * (((bs ^ (dg) % md : Nat) : Int))).tmod (((md : Nat) : Int))) := hN9
                        have hA9 : swp 27 29 sp an := swp_sym hA9
                        rw [pm_mul] at hNan
                        refine lv_iinc (v := iZ (4 * ↑t - 4 - 4)) (lv' := [(5, .int (iZ (4 * ↑t - 4 - 4))), (6, .int (iZ (↑dg))), (0, .ref (B + 22)), (2, .ref (B + ke)), (3, .ref (B + b)), (4, .int (iZ (↑i)))]) hx hb dK_raisedModulo_118 hl (k := 5) rfl (iZ_dec _ _) (by decide) rfl (fun ls hl => ?_)
                        refine lv_goto (tgt := 57) hx hb dK_raisedModulo_121 (by decide) ?_
                        rw [show (4 * ↑t - 4 - 4 : Int) = 4 * ↑(t - 1) - 4 from by omega] at hl
                        exact ihL57 (t - 1) sp an v _ _ _ (by omega) hA9 (by omega) (hPw) (by rw [show 28 * i + 4 * (t - 1) = 28 * i + (4 * t - 4) by omega, ← hwin]; exact hNan) hVmd fr hZ hS (lv_sub hl [2, 3, 4, 5, 0] rfl)
                    · refine lv_aload_n hx hb dK_raisedModulo_71 rfl (lv_at hl 0 rfl) ?_
                      refine lv_aload_n hx hb dK_raisedModulo_72 rfl (lv_at hl 0 rfl) ?_
                      refine zk_answer hx hb ht hown hK hZ tw_63 dK_raisedModulo_73 ?_
                      refine lv_aload_n hx hb dK_raisedModulo_76 rfl (lv_at hl 2 rfl) ?_
                      refine zcV_v 2 (As := [.ref (B + an), .ref (B + b)]) (rest := []) rfl ⟨hx, hb, hml, hown, ht⟩ (mK_timesModulo l E B v o an sp hA9 (((bs ^ (2 ^ q * (wv dd nn / 2 ^ (28 * i + 4 * t))) % md : Nat) : Int)) hNan an hl_sw1 (((bs ^ (2 ^ q * (wv dd nn / 2 ^ (28 * i + 4 * t))) % md : Nat) : Int)) hNan b hlb (((md : Nat) : Int)) hVmd n_sw ⟨by omega, by omega, by omega⟩ (by omega) (pm_smm hmd hXm)) tw_543 tw_540 tw_542 tp_9 tw_3 qK_timesModulo (by rw [hR]; decide) (zK_recv hK hZ) hZ hK hl.1 rfl rfl (Nat.le_of_ble_eq_true rfl) dK_raisedModulo_77 (by rw [hR]; exact hcs) hS (fun u H locs hp hZ _ hS => ?_)
                      obtain ⟨v, a9, s9, o9⟩ := u
                      obtain ⟨ho, ⟨e8, e9⟩, hN9⟩ := hp
                      dsimp only at ho e8 e9 hN9 hZ
                      rw [e8, e9] at hZ
                      have hVmd : zN (v b) (((md : Nat) : Int)) := by rw [ho _ ne_4_5 ne_4_7 ne_4_8]; exact hVmd
                      have fr : ∀ j, j < 22 → v j = v0 j := fun j h0 => (ho j (by omega) (by omega) (by omega)).trans (fr j h0)
                      have hPw : ∀ j, j < 16 → zN (v (40 + 2 * j)) ((bs ^ j % md : Nat) : Int) := fun j hj => by rw [ho _ (by omega) (by omega) (by omega)]; exact hPw j hj
                      have hNan : zN (v sp) (((((bs ^ (2 ^ q * (wv dd nn / 2 ^ (28 * i + 4 * t))) % md : Nat) : Int)) * (((bs ^ (2 ^ q * (wv dd nn / 2 ^ (28 * i + 4 * t))) % md : Nat) : Int))).tmod (((md : Nat) : Int))) := hN9
                      have hA9 : swp 27 29 sp an := swp_sym hA9
                      refine lv_iinc (v := iZ (↑q + 1)) (lv' := [(6, .int (iZ (↑q + 1))), (0, .ref (B + 22)), (2, .ref (B + ke)), (3, .ref (B + b)), (4, .int (iZ (↑i))), (5, .int (iZ (4 * ↑t - 4)))]) hx hb dK_raisedModulo_80 hl (k := 5) rfl (iZ_add _ _) (by decide) rfl (fun ls hl => ?_)
                      refine lv_goto (tgt := 65) hx hb dK_raisedModulo_83 (by decide) ?_
                      rw [show (↑q + 1 : Int) = ↑(q + 1) from by omega] at hl
                      exact ihL65 (q + 1) sp an v _ _ _ (by omega) hA9 (by omega) (hPw) (by rw [pm_mul, ← Nat.two_mul, ← Nat.mul_assoc, ← Nat.pow_succ'] at hNan; exact hNan) hVmd fr hZ hS (lv_sub hl [1, 2, 3, 4, 5, 0] rfl)
                exact L65 _ 0 an sp v _ _ _ (Nat.lt_succ_self _) hA9 (by decide) (hPw) (by rw [Nat.pow_zero, Nat.one_mul]; exact hNan) hVmd fr hZ hS (lv_sub hl [1, 2, 3, 4, 5, 0] rfl)
          rw [show (24 : Int) = 4 * ↑(7 : Nat) - 4 from by omega] at hl
          exact L57 _ 7 an sp v _ _ _ (Nat.lt_succ_self _) hA9 (by decide) (hPw) (by rw [show 28 * i + 4 * 7 = 28 * (i + 1) by omega]; exact hNan) hVmd fr hZ hS (lv_sub hl [1, 2, 3, 4, 0] rfl)
    exact L48 _ nn an sp v _ _ _ (Nat.lt_succ_self _) hA9 (Nat.le_refl _) (hPw) (by rw [Nat.div_eq_of_lt (by rw [← wP_two]; exact wv_lt hdd nn)]; exact hNan) hVmd fr hZ hS (lv_sub hl [1, 2, 3, 0] rfl)
  refine lv_aload_n hx hb dK_raisedModulo_0 rfl (lv_at hl 0 rfl) ?_
  refine lv_aload_n hx hb dK_raisedModulo_1 rfl (lv_at hl 2 rfl) ?_
  refine zw_below (d := (v0 ke).1) (n := (v0 ke).2.1) (b := (v0 ke).2.2) hx hb ht hown hK hZ hlke rfl tw_38 dK_raisedModulo_2 ?_
  refine zr_if_eq (tgt := 17) hx hb (by have := bZ_01 (v0 ke).2.2; omega) dK_raisedModulo_5 (by decide) (fun c_6 => ?_) (fun c_6 => ?_)
  · have h0e : 0 ≤ ee := Int.not_lt.mp (fun h9 => absurd ((zN_neg hVee).mpr h9) (by rw [show (v0 ke).2.2 = false from bZ_f.mp (by assumption)]; decide))
    refine lv_aload_n hx hb dK_raisedModulo_17 rfl (lv_at hl 0 rfl) ?_
    refine lv_aload_n hx hb dK_raisedModulo_18 rfl (lv_at hl 1 rfl) ?_
    refine lv_aload_n hx hb dK_raisedModulo_19 rfl (lv_at hl 3 rfl) ?_
    refine zcV_r (P' := fun (u : (Nat → zV) × Nat × Nat × Nat) a H => a = B + u.2.2.2 ∧ zD E B u.1 (zo E B o u.2.1 u.2.2.1) H) 2 (As := [.ref (B + a), .ref (B + b)]) (rest := [.ref (B + 22)]) rfl ⟨hx, hb, hml, hown, ht⟩ (mK_residue l E B v0 o an0 sp0 hA0 a hla (x) hVx b hlb (((md : Nat) : Int)) hVmd ⟨ne_2_5, ne_2_6⟩ ⟨ne_4_5, ne_4_6⟩ (by omega) (zX_sm hXx)) tw_443 tw_512 tw_441 tw_442 tw_3 qK_residue (by rw [hR]; decide) (zK_recv hK hZ) hZ hK hl.1 rfl rfl (Nat.le_of_ble_eq_true rfl) dK_raisedModulo_20 ⟨Nat.zero_le _, Nat.zero_le _⟩ hS (fun u r9 H locs hp hZ _ hS => ?_)
    obtain ⟨v, a9, s9, o9⟩ := u
    obtain ⟨ho, ⟨e8, e9⟩, e7, hN9⟩ := hp
    obtain ⟨er9, hZ⟩ := hZ
    dsimp only at ho e8 e9 e7 hN9 er9 hZ
    rw [e7] at er9
    subst er9
    rw [e8, e9] at hZ
    have hVx : zN (v a) (x) := by rw [ho _ ne_2_5 ne_2_6]; exact hVx
    have hVee : zN (v ke) (ee) := by rw [ho _ ne_3_5 ne_3_6]; exact hVee
    have hVmd : zN (v b) (((md : Nat) : Int)) := by rw [ho _ ne_4_5 ne_4_6]; exact hVmd
    have fr : ∀ j, j < 22 → v j = v0 j := fun j h0 => (ho j (by omega) (by omega)).trans (fr j h0)
    exact J23 0 0 25 (x % ((md : Nat) : Int)).toNat v _ _ _ (by decide) (Or.inl rfl) (by rw [Int.toNat_of_nonneg (Int.emod_nonneg _ (by omega))]; exact hN9) (by have := Int.emod_lt_of_pos x (show (0 : Int) < md by omega); omega) (Or.inr ⟨h0e, Int.toNat_of_nonneg (Int.emod_nonneg _ (by omega))⟩) (fun h9 => absurd h9 (Int.not_lt.mpr h0e)) fr hZ hS (lv_sub hl [0, 2, 3] rfl)
  · have h0e : ee < 0 := (zN_neg hVee).mp (bZ_nf.mp (by assumption))
    refine lv_aload_n hx hb dK_raisedModulo_8 rfl (lv_at hl 0 rfl) ?_
    refine lv_aload_n hx hb dK_raisedModulo_9 rfl (lv_at hl 1 rfl) ?_
    refine lv_aload_n hx hb dK_raisedModulo_10 rfl (lv_at hl 3 rfl) ?_
    refine zxV_r (P' := fun (u : (Nat → zV) × Nat × Nat × Nat) a H => a = B + u.2.2.2 ∧ zD E B u.1 (zo E B o u.2.1 u.2.2.1) H)  (BX := fun (C : String) (u : (Nat → zV) × Nat × Nat) (H : Heap) => C = "java/lang/ArithmeticException" ∧ zD E B u.1 (zo E B o u.2.1 u.2.2) H) 2 (As := [.ref (B + a), .ref (B + b)]) (rest := [.ref (B + 22)]) rfl ⟨hx, hb, hml, hown, ht⟩ (mK_inverted l hl0 E B v0 o an0 sp0 hA0 a hla x hVx hXx b hlb md hVmd hmd hXm ⟨by omega, by omega, by omega⟩ ⟨by omega, by omega, by omega, by omega, by omega, by omega⟩) tw_511 tw_535 tw_509 tw_510 tw_3 qK_inverted (by rw [hR]; decide) (zK_recv hK hZ) hZ hK hH hl.1 rfl rfl (Nat.le_of_ble_eq_true rfl) dK_raisedModulo_11 (by rw [hR]; decide) hS (fun C ce q9 u H locs hp hZ hS hce hcv hcl => hpas C ce q9 _ u H locs _ _ _ _ (by decide) (⟨fun j hj => hp.1 j (by omega) (by omega) (by omega) (by omega) (by omega) (by omega), by rw [hp.2.1.1, hp.2.1.2]; exact hA0, h0e, hp.2.2⟩) hZ hS hce hcv hcl) (fun u r9 H locs hp hZ _ hS => ?_)
    obtain ⟨v, a9, s9, o9⟩ := u
    obtain ⟨ho, ⟨e8, e9⟩, hkc, hgc, bs, hNb, hbs, hdv⟩ := hp
    obtain ⟨er9, hZ⟩ := hZ
    dsimp only at ho e8 e9 hkc hNb er9 hZ
    subst er9
    rw [e8, e9] at hZ
    refine lv_goto (tgt := 23) hx hb dK_raisedModulo_14 (by decide) ?_
    exact J23 (0 + 1) (0 + 6) o9 bs v _ _ _ (by decide) (Or.inr hkc) hNb hbs (Or.inl ⟨h0e, hdv⟩) (fun _ => hgc) (fun j hj => (ho j (by omega) (by omega) (by omega) (by omega) (by omega) (by omega)).trans (fr j hj)) hZ hS (lv_sub hl [0, 2, 3] rfl)
