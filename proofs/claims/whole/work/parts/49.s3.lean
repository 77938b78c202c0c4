theorem pow_big {x : Int} {q n : Nat} (hb : bl x.natAbs q) (hq : 1 < q) (h : 2048 ≤ (q - 1) * n) : ¬ zX (x ^ n) := by
  intro h9
  have h9 : (x ^ n).natAbs < 2 ^ 2048 := h9
  rw [Int.natAbs_pow] at h9
  have h1 := Nat.pow_le_pow_left (hb.2 (by omega)) n
  rw [← Nat.pow_mul] at h1
  have h2 := Nat.pow_le_pow_right (show 0 < 2 by decide) h
  omega
theorem pow_room {x : Int} {q n : Nat} (hb : bl x.natAbs q) (h : q ≤ 1 ∨ (q - 1) * n < 2048) : smp x n := by
  unfold smp
  rcases h with h | h
  · have h1 : x.natAbs ≤ 1 := by
      have h2 := hb.1
      have h3 := Nat.pow_le_pow_right (show 0 < 2 by decide) h
      omega
    have h4 := Nat.pow_le_pow_left h1 n
    rw [Nat.one_pow] at h4
    exact Nat.lt_of_le_of_lt h4 (Nat.lt_of_lt_of_le (show 1 < wP 1 by decide) (wP_mono (by decide)))
  · rcases Nat.lt_or_ge 1 q with h1 | h1
    · have h2 : x.natAbs ^ n ≤ (2 ^ q) ^ n := Nat.pow_le_pow_left (Nat.le_of_lt hb.1) n
      rw [← Nat.pow_mul] at h2
      refine Nat.lt_of_le_of_lt h2 ?_
      rw [wP_two]
      apply Nat.pow_lt_pow_right (by decide)
      have h3 : q * n ≤ 2 * (q - 1) * n := Nat.mul_le_mul_right n (by omega)
      rw [Nat.mul_assoc] at h3
      omega
    · have h4 : x.natAbs ≤ 1 := by
        have h2 := hb.1
        have h3 := Nat.pow_le_pow_right (show 0 < 2 by decide) h1
        omega
      have h5 := Nat.pow_le_pow_left h4 n
      rw [Nat.one_pow] at h5
      exact Nat.lt_of_le_of_lt h5 (Nat.lt_of_lt_of_le (show 1 < wP 1 by decide) (wP_mono (by decide)))
theorem nroot_ex (xa k : Nat) : ∃ r, r ^ (k + 1) ≤ xa ∧ xa < (r + 1) ^ (k + 1) := by
  have main : ∀ m, xa < (m + 1) ^ (k + 1) → ∃ r, r ^ (k + 1) ≤ xa ∧ xa < (r + 1) ^ (k + 1) := by
    intro m
    induction m with
    | zero => intro h; exact ⟨0, by rw [Nat.zero_pow (by omega)]; exact Nat.zero_le _, h⟩
    | succ m ih =>
      intro h
      rcases Nat.lt_or_ge xa ((m + 1) ^ (k + 1)) with h9 | h9
      · exact ih h9
      · exact ⟨m + 1, h9, h⟩
  refine main xa ?_
  have := Nat.le_self_pow (show k + 1 ≠ 0 by omega) (xa + 1)
  omega
theorem root_le {r k xa : Nat} (h : r ^ (k + 1) ≤ xa) : r ≤ xa := Nat.le_trans (Nat.le_self_pow (by omega) r) h
theorem zX_nat {a b : Nat} (h : zX ((b : Nat) : Int)) (hab : a ≤ b) : zX ((a : Nat) : Int) := zX_le h (by rw [Int.natAbs_natCast, Int.natAbs_natCast]; exact hab)
def shz (x n : Int) : Int := if 0 < n then x * ((2 ^ n.toNat : Nat) : Int) else x / ((2 ^ (min (-n).toNat 2048) : Nat) : Int)
theorem shl_big {x : Int} {q n : Nat} (hb : bl x.natAbs q) (h0 : x ≠ 0) (h : 2048 < q + n) : ¬ zX (x * ((2 ^ n : Nat) : Int)) := by
  intro h9
  have h9 : (x * ((2 ^ n : Nat) : Int)).natAbs < 2 ^ 2048 := h9
  rw [Int.natAbs_mul, Int.natAbs_natCast] at h9
  have hq : q ≠ 0 := by
    rintro rfl
    have := hb.1
    omega
  have h1 := Nat.mul_le_mul_right (2 ^ n) (hb.2 hq)
  rw [← Nat.pow_add] at h1
  have h2 := Nat.pow_le_pow_right (show 0 < 2 by decide) (show 2048 ≤ q - 1 + n by omega)
  omega
set_option maxHeartbeats 4000000 in
set_option maxRecDepth 100000 in
theorem mS_power (l : Launch) (hl0 : l.stackTraces = false) (E : zE) (B : Nat) (rg : Nat → Int) (ct : Nat) (f : Nat → Nat) (st : Nat) (g : Nat → Nat) (a : Int) (hz_a : zi a) (n : Int) (hz_n : zi n) (to : Int) (hz_to : zi to) :
    vx_Met l yS_power (zws yS_power cS_power 5 none) { frames := 7, cells := 8, slots := 48, locals := 150 } (zPx E (zA B 80) (zQ E B (rg, ct, f, st, g)) [.ref (B), .int (iZ (a)), .int (iZ (n)), .int (iZ (to))]) (va_Qv (fun (u : zS) => SP (rok a ∧ rok to ∧ 0 ≤ n) (False) (¬ zX ((rg a.toNat) ^ n.toNat)) (fun τ => zX ((rg a.toNat) ^ n.toNat) ∧ τ = (va_up rg to.toNat ((rg a.toNat) ^ n.toNat), ct, f, st, g)) (rg, ct, f, st, g) 0 u) (fun u t => zQ E B u t.heap ∧ zK E t) (zA B 80)) (vx_X (fun u : Nat × zS => SP (rok a ∧ rok to ∧ 0 ≤ n) (False) (¬ zX ((rg a.toNat) ^ n.toNat)) (fun τ => zX ((rg a.toNat) ^ n.toNat) ∧ τ = (va_up rg to.toNat ((rg a.toNat) ^ n.toNat), ct, f, st, g)) (rg, ct, f, st, g) u.1 u.2 ∧ u.1 ≠ 0) (fun C u t => (fun (C : String) (u : Nat × zS) (H : Heap) => C = zcl u.1 ∧ zQ E B u.2 H) C u t.heap ∧ zK E t) (zA B 80)) 8 48 (zA B 80) := by
  refine zox_v (P' := fun (u : zS) H => zQ E B u H) (BX := fun (C : String) (u : Nat × zS) (H : Heap) => C = zcl u.1 ∧ zQ E B u.2 H) hl0 (fun C u H H1 _ hq h => ⟨h.1, zQ_grow hq h.2⟩) (by decide) (Nat.le_of_ble_eq_true rfl) fun p e R s m args below meth c Q ls hR hx hb hml ht hown hK hZ hH hl hend hthr hpas => ?_
  have hS : va_S (zA B 80) s.heap s.heap [] := va_S.rf
  have hown : s.vm.findClass "WholeDesk" = some m.cls := hown
  have hl : lv_has ls 5 [(0, .ref (B)), (1, .int (iZ (a))), (2, .int (iZ (n))), (3, .int (iZ (to)))] := hl
  obtain ⟨hok, v0, an0, sp0, hZ, hA0, hr⟩ := hZ
  dsimp only at hZ hr
  have fr : ∀ j, j < 22 → v0 j = v0 j := fun j _ => rfl
  refine lv_iload_n hx hb dS_power_0 rfl (lv_at hl 1 rfl) ?_
  refine zxS_v (P' := fun (u : Unit) H => zD E B v0 (zF E B an0 sp0 ct f st g) H) (BX := fun (C : String) (u : Unit) (H : Heap) => C = "java/lang/IllegalArgumentException" ∧ zD E B v0 (zF E B an0 sp0 ct f st g) H) 1 (As := [.int (iZ (a))]) (rest := []) ⟨hx, hb, hml, hown, ht⟩ (mS_testRegister l hl0 E B v0 (zF E B an0 sp0 ct f st g) (a) (hz_a)) tw_246 tw_244 tw_245 tw_1 qS_testRegister (by rw [hR]; decide) hZ hK hH hl.1 rfl rfl (Nat.le_of_ble_eq_true rfl) dS_power_1 (by rw [hR]; decide) hS (fun C ce q9 u H locs hp hZ hS hce hcv hcl => hpas C ce q9 _ (1, (rg, ct, f, st, g)) H locs _ _ _ _ (by decide) (⟨Or.inl ⟨rfl, fun h9 => hp (by first | exact h9 | exact h9.1 | exact h9.2.1 | exact h9.2.2.1 | exact h9.2.2.2.1 | exact h9.2.2.2 | exact h9.2.2 | exact h9.2), rfl⟩, by show 1 ≠ 0; decide⟩) (⟨hZ.1, ⟨hok, v0, an0, sp0, hZ.2, hA0, zR_same fr hr⟩⟩) hS hce hcv hcl) (fun u H locs hp hZ _ hS => ?_)
  obtain ⟨na, rfl⟩ : ∃ n : Nat, a = (n : Int) := ⟨a.toNat, by have := hp.1; omega⟩
  have hk_na : rok ↑na := hp
  have h10_na : na < 10 := by have := hp.2; omega
  refine lv_iload_n hx hb dS_power_4 rfl (lv_at hl 3 rfl) ?_
  refine zxS_v (P' := fun (u : Unit) H => zD E B v0 (zF E B an0 sp0 ct f st g) H) (BX := fun (C : String) (u : Unit) (H : Heap) => C = "java/lang/IllegalArgumentException" ∧ zD E B v0 (zF E B an0 sp0 ct f st g) H) 1 (As := [.int (iZ (to))]) (rest := []) ⟨hx, hb, hml, hown, ht⟩ (mS_testRegister l hl0 E B v0 (zF E B an0 sp0 ct f st g) (to) (hz_to)) tw_246 tw_244 tw_245 tw_1 qS_testRegister (by rw [hR]; decide) hZ hK hH hl.1 rfl rfl (Nat.le_of_ble_eq_true rfl) dS_power_5 (by rw [hR]; decide) hS (fun C ce q9 u H locs hp hZ hS hce hcv hcl => hpas C ce q9 _ (1, (rg, ct, f, st, g)) H locs _ _ _ _ (by decide) (⟨Or.inl ⟨rfl, fun h9 => hp (by first | exact h9 | exact h9.1 | exact h9.2.1 | exact h9.2.2.1 | exact h9.2.2.2.1 | exact h9.2.2.2 | exact h9.2.2 | exact h9.2), rfl⟩, by show 1 ≠ 0; decide⟩) (⟨hZ.1, ⟨hok, v0, an0, sp0, hZ.2, hA0, zR_same fr hr⟩⟩) hS hce hcv hcl) (fun u H locs hp hZ _ hS => ?_)
  obtain ⟨nto, rfl⟩ : ∃ n : Nat, to = (n : Int) := ⟨to.toNat, by have := hp.1; omega⟩
  have hk_nto : rok ↑nto := hp
  have h10_nto : nto < 10 := by have := hp.2; omega
  refine lv_iload_n hx hb dS_power_8 rfl (lv_at hl 2 rfl) ?_
  refine zr_if_ge (tgt := 22) hx hb (hz_n) dS_power_9 (by decide) (fun c_1 => ?_) (fun c_1 => ?_)
  · have h0n : 0 ≤ n := by omega
    obtain ⟨nn, rfl⟩ : ∃ q : Nat, n = (q : Int) := ⟨n.toNat, by omega⟩
    have hn31 : nn < 2147483648 := by unfold zi at hz_n; omega
    refine lv_aload_n hx hb dS_power_22 rfl (lv_at hl 0 rfl) ?_
    refine zs_registers hx hb ht hown hK hZ tw_127 dS_power_23 ?_
    refine lv_iload_n hx hb dS_power_26 rfl (lv_at hl 1 rfl) ?_
    refine zs_reg (i := na) hx hb hK hZ h10_na dS_power_27 ?_
    have hN_na : zN (v0 (2 + 2 * na)) (rg na) := zR_same fr hr na h10_na
    have hX_na : zX (rg na) := hok.1 na h10_na
    refine zcV_i  0 (As := []) (rest := []) rfl ⟨hx, hb, hml, hown, ht⟩ (mW_bits l E B v0 (zF E B an0 sp0 ct f st g) (2 + 2 * na) (lp_reg h10_na) (v0 (2 + 2 * na)).1 (v0 (2 + 2 * na)).2.1 (v0 (2 + 2 * na)).2.2 rfl) tw_318 tw_315 tw_316 tw_317 tw_2 qW_bits (by rw [hR]; decide) (zW_recv hK hZ (lp_reg h10_na)) hZ hK hl.1 rfl rfl (Nat.le_of_ble_eq_true rfl) dS_power_28 (by rw [hR]; decide) hS (fun r9 v1 H locs hp hZ _ hS => ?_)
    obtain ⟨hv1, q, hr1, hq8, hq9⟩ := hp
    rw [hv1] at hZ
    subst hr1
    clear hv1 v1
    have hbl : bl (rg na).natAbs q := zN_bl (hZ.2 (2 + 2 * na) (lp_reg h10_na)).1 hN_na hq8 hq9
    clear hq8 hq9
    have hbz : q ≤ 4256 := (bl_le hbl).mpr (by rw [zN_abs hN_na]; have h9 := wv_lt (hZ.2 (2 + 2 * na) (lp_reg h10_na)).1 (v0 (2 + 2 * na)).2.1; rw [wP_two] at h9; exact Nat.lt_of_lt_of_le h9 (Nat.pow_le_pow_right (by decide) (by have := (hZ.2 (2 + 2 * na) (lp_reg h10_na)).2; omega)))
    refine lv_istore (lv' := [(4, .int (iZ (↑q))), (0, .ref (B)), (1, .int (iZ (↑na))), (2, .int (iZ (↑nn))), (3, .int (iZ (↑nto)))]) hx hb dS_power_31 hl (by decide) rfl (fun ls hl => ?_)
    refine lv_iload hx hb dS_power_33 (lv_at hl 0 rfl) ?_
    refine lv_iconst (v := iZ (1)) hx hb dS_power_35 (by decide) ?_
    refine zr_icmp_le (tgt := 64) hx hb (by unfold zi; omega) (by unfold zi; omega) dS_power_36 (by decide) (fun c_2 => ?_) (fun c_2 => ?_)
    · have hsp := pow_room (n := nn) hbl (Or.inl (by omega))
      refine lv_aload_n hx hb dS_power_64 rfl (lv_at hl 1 rfl) ?_
      refine lv_aload_n hx hb dS_power_65 rfl (lv_at hl 1 rfl) ?_
      refine zs_reckoner hx hb ht hown hK hZ tw_128 dS_power_66 ?_
      refine lv_aload_n hx hb dS_power_69 rfl (lv_at hl 1 rfl) ?_
      refine zs_registers hx hb ht hown hK hZ tw_127 dS_power_70 ?_
      refine lv_iload_n hx hb dS_power_73 rfl (lv_at hl 2 rfl) ?_
      refine zs_reg (i := na) hx hb hK hZ h10_na dS_power_74 ?_
      refine lv_iload_n hx hb dS_power_75 rfl (lv_at hl 3 rfl) ?_
      refine zcV_r (P' := fun (u : (Nat → zV) × Nat × Nat × Nat) a H => a = B + u.2.2.2 ∧ zD E B u.1 (zo E B (zd E B (zg E B (zs E B) st g) ct f) u.2.1 u.2.2.1) H) 2 (As := [.ref (B + (2 + 2 * na)), .int (iZ (↑nn))]) (rest := [.ref (B)]) rfl ⟨hx, hb, hml, hown, ht⟩ (mK_raised l E B v0 (zd E B (zg E B (zs E B) st g) ct f) an0 sp0 hA0 (2 + 2 * na) (lp_reg h10_na) (rg na) hN_na ⟨by omega, by omega⟩ nn hn31 hsp) tw_457 tw_454 tw_455 tw_456 tw_3 qK_raised (by rw [hR]; decide) (zK_recv hK hZ) hZ hK hl.1 rfl rfl (Nat.le_of_ble_eq_true rfl) dS_power_76 (by rw [hR]; decide) hS (fun u r9 H locs hp hZ _ hS => ?_)
      obtain ⟨v, a9, s9, o9⟩ := u
      obtain ⟨er9, hZ⟩ := hZ
      obtain ⟨ho, hA9, e7, hN9⟩ := hp
      dsimp only at *
      rw [e7] at er9
      subst er9
      have fr : ∀ j, j < 22 → v j = v0 j := fun j hj => (ho j (by omega) (by omega)).trans (fr j hj)
      have hZ : zD E B v (zF E B a9 s9 ct f st g) H := by exact hZ
      refine lv_iload_n hx hb dS_power_79 rfl (lv_at hl 4 rfl) ?_
      refine zxV_v (P' := fun (u : Nat → zV) H => zD E B u (zF E B a9 s9 ct f st g) H) (BX := fun (C : String) (u : Unit) (H : Heap) => C = "java/lang/ArithmeticException" ∧ zD E B v (zF E B a9 s9 ct f st g) H) 2 (As := [.ref (B + a9), .int (iZ (↑nto))]) (rest := []) rfl ⟨hx, hb, hml, hown, ht⟩ (mS_keep l hl0 E B v a9 s9 ct f st g a9 (swp_lp hA9 (by decide) (by decide)).1 ((rg na) ^ nn) hN9 nto h10_nto (Ne.symm (swp_ne (show swp 27 29 a9 s9 from hA9) (by omega) (by omega)).1)) tw_314 tw_311 tw_313 tp_4 tw_1 qS_keep (by rw [hR]; decide) (zs_recv hK hZ) hZ hK hH hl.1 rfl rfl (Nat.le_of_ble_eq_true rfl) dS_power_80 (by rw [hR]; decide) hS (fun C ce q9 u H locs hp hZ hS hce hcv hcl => hpas C ce q9 _ (3, (rg, ct, f, st, g)) H locs _ _ _ _ (by decide) (⟨Or.inr (Or.inr (Or.inl ⟨rfl, by repeat (first | assumption | constructor), by first | exact hp | exact Or.inl hp | exact Or.inr hp, rfl⟩)), by show 3 ≠ 0; decide⟩) (⟨hZ.1, ⟨hok, v, a9, s9, hZ.2, hA9, zR_same fr hr⟩⟩) hS hce hcv hcl) (fun v H locs hp hZ _ hS => ?_)
      obtain ⟨ho, hNk, hXk⟩ := hp
      have hQ9 : zR10 v (va_up rg nto ((rg na) ^ nn)) := zR_up fr hr ho hNk
      have hok9 : okS (va_up rg nto ((rg na) ^ nn), ct, f, st, g) := okS_up hok hXk
      exact hend 83 (va_up rg nto ((rg na) ^ nn), ct, f, st, g) _ _ _ _ _ (by decide) dS_power_83 (Or.inr (Or.inr (Or.inr ⟨rfl, by repeat (first | assumption | constructor), hXk, rfl⟩))) (⟨hok9, v, a9, s9, hZ, hA9, hQ9⟩) hS
    · refine lv_iload hx hb dS_power_39 (lv_at hl 0 rfl) ?_
      refine lv_iconst (v := iZ (1)) hx hb dS_power_41 (by decide) ?_
      refine zr_isub hx hb dS_power_42 ?_
      refine zr_i2l hx hb (by unfold zi; omega) dS_power_43 ?_
      refine lv_iload_n hx hb dS_power_44 rfl (lv_at hl 3 rfl) ?_
      refine zr_i2l hx hb (by unfold zi; omega) dS_power_45 ?_
      refine zr_lmul hx hb dS_power_46 ?_
      refine zc_l (y := lZ ((((q - 1) * nn : Nat) : Int))) (congrArg lZ (by rw [Int.natCast_mul]; congr 1; omega)) ?_
      refine lv_ldc2 (v := lZ (2048)) hx hb hown (ht _ tw_452) dS_power_47 ?_
      have hqn : (q - 1) * nn ≤ 4256 * nn := Nat.mul_le_mul_right _ (by omega)
      refine zr_lcmp_lt (tgt := 64) hx hb (by unfold zl; omega) (by unfold zl; omega) dS_power_50 dS_power_51 (by decide) (fun c_3 => ?_) (fun c_3 => ?_)
      · have hsp := pow_room (n := nn) hbl (Or.inr (by omega))
        refine lv_aload_n hx hb dS_power_64 rfl (lv_at hl 1 rfl) ?_
        refine lv_aload_n hx hb dS_power_65 rfl (lv_at hl 1 rfl) ?_
        refine zs_reckoner hx hb ht hown hK hZ tw_128 dS_power_66 ?_
        refine lv_aload_n hx hb dS_power_69 rfl (lv_at hl 1 rfl) ?_
        refine zs_registers hx hb ht hown hK hZ tw_127 dS_power_70 ?_
        refine lv_iload_n hx hb dS_power_73 rfl (lv_at hl 2 rfl) ?_
        refine zs_reg (i := na) hx hb hK hZ h10_na dS_power_74 ?_
        refine lv_iload_n hx hb dS_power_75 rfl (lv_at hl 3 rfl) ?_
        refine zcV_r (P' := fun (u : (Nat → zV) × Nat × Nat × Nat) a H => a = B + u.2.2.2 ∧ zD E B u.1 (zo E B (zd E B (zg E B (zs E B) st g) ct f) u.2.1 u.2.2.1) H) 2 (As := [.ref (B + (2 + 2 * na)), .int (iZ (↑nn))]) (rest := [.ref (B)]) rfl ⟨hx, hb, hml, hown, ht⟩ (mK_raised l E B v0 (zd E B (zg E B (zs E B) st g) ct f) an0 sp0 hA0 (2 + 2 * na) (lp_reg h10_na) (rg na) hN_na ⟨by omega, by omega⟩ nn hn31 hsp) tw_457 tw_454 tw_455 tw_456 tw_3 qK_raised (by rw [hR]; decide) (zK_recv hK hZ) hZ hK hl.1 rfl rfl (Nat.le_of_ble_eq_true rfl) dS_power_76 (by rw [hR]; decide) hS (fun u r9 H locs hp hZ _ hS => ?_)
        obtain ⟨v, a9, s9, o9⟩ := u
        obtain ⟨er9, hZ⟩ := hZ
        obtain ⟨ho, hA9, e7, hN9⟩ := hp
        dsimp only at *
        rw [e7] at er9
        subst er9
        have fr : ∀ j, j < 22 → v j = v0 j := fun j hj => (ho j (by omega) (by omega)).trans (fr j hj)
        have hZ : zD E B v (zF E B a9 s9 ct f st g) H := by exact hZ
        refine lv_iload_n hx hb dS_power_79 rfl (lv_at hl 4 rfl) ?_
        refine zxV_v (P' := fun (u : Nat → zV) H => zD E B u (zF E B a9 s9 ct f st g) H) (BX := fun (C : String) (u : Unit) (H : Heap) => C = "java/lang/ArithmeticException" ∧ zD E B v (zF E B a9 s9 ct f st g) H) 2 (As := [.ref (B + a9), .int (iZ (↑nto))]) (rest := []) rfl ⟨hx, hb, hml, hown, ht⟩ (mS_keep l hl0 E B v a9 s9 ct f st g a9 (swp_lp hA9 (by decide) (by decide)).1 ((rg na) ^ nn) hN9 nto h10_nto (Ne.symm (swp_ne (show swp 27 29 a9 s9 from hA9) (by omega) (by omega)).1)) tw_314 tw_311 tw_313 tp_4 tw_1 qS_keep (by rw [hR]; decide) (zs_recv hK hZ) hZ hK hH hl.1 rfl rfl (Nat.le_of_ble_eq_true rfl) dS_power_80 (by rw [hR]; decide) hS (fun C ce q9 u H locs hp hZ hS hce hcv hcl => hpas C ce q9 _ (3, (rg, ct, f, st, g)) H locs _ _ _ _ (by decide) (⟨Or.inr (Or.inr (Or.inl ⟨rfl, by repeat (first | assumption | constructor), by first | exact hp | exact Or.inl hp | exact Or.inr hp, rfl⟩)), by show 3 ≠ 0; decide⟩) (⟨hZ.1, ⟨hok, v, a9, s9, hZ.2, hA9, zR_same fr hr⟩⟩) hS hce hcv hcl) (fun v H locs hp hZ _ hS => ?_)
        obtain ⟨ho, hNk, hXk⟩ := hp
        have hQ9 : zR10 v (va_up rg nto ((rg na) ^ nn)) := zR_up fr hr ho hNk
        have hok9 : okS (va_up rg nto ((rg na) ^ nn), ct, f, st, g) := okS_up hok hXk
        exact hend 83 (va_up rg nto ((rg na) ^ nn), ct, f, st, g) _ _ _ _ _ (by decide) dS_power_83 (Or.inr (Or.inr (Or.inr ⟨rfl, by repeat (first | assumption | constructor), hXk, rfl⟩))) (⟨hok9, v, a9, s9, hZ, hA9, hQ9⟩) hS
      · exact hthr _ _ _ _ _ _ 54 (3, (rg, ct, f, st, g)) _ _ _ _ _ _ zs_S_power_54 hown dS_power_54 dS_power_57 dS_power_58 dS_power_60 dS_power_63 hl.1 (by rw [hR]; decide) (by decide) (⟨Or.inr (Or.inr (Or.inl ⟨rfl, by repeat (first | assumption | constructor), pow_big (n := nn) hbl (by omega) (by omega), rfl⟩)), by show 3 ≠ 0; decide⟩) (⟨rfl, ⟨hok, v0, an0, sp0, hZ, hA0, zR_same fr hr⟩⟩) hS
  · exact hthr _ _ _ _ _ _ 12 (1, (rg, ct, f, st, g)) _ _ _ _ _ _ zs_S_power_12 hown dS_power_12 dS_power_15 dS_power_16 dS_power_18 dS_power_21 hl.1 (by rw [hR]; decide) (by decide) (⟨Or.inl ⟨rfl, fun h9 => absurd h9.2.2 (by omega), rfl⟩, by show 1 ≠ 0; decide⟩) (⟨rfl, ⟨hok, v0, an0, sp0, hZ, hA0, zR_same fr hr⟩⟩) hS

set_option maxHeartbeats 4000000 in
set_option maxRecDepth 100000 in
theorem mS_root (l : Launch) (hl0 : l.stackTraces = false) (E : zE) (B : Nat) (rg : Nat → Int) (ct : Nat) (f : Nat → Nat) (st : Nat) (g : Nat → Nat) (a : Int) (hz_a : zi a) (n : Int) (hz_n : zi n) (to : Int) (hz_to : zi to) :
    vx_Met l yS_root (zws yS_root cS_root 4 none) { frames := 7, cells := 8, slots := 48, locals := 210 } (zPx E (zA B 80) (zQ E B (rg, ct, f, st, g)) [.ref (B), .int (iZ (a)), .int (iZ (n)), .int (iZ (to))]) (va_Qv (fun (u : zS) => SP (rok a ∧ rok to ∧ 1 ≤ n ∧ n ≤ 64) (False) (rg a.toNat < 0) (fun τ => 0 ≤ rg a.toNat ∧ ∃ r : Nat, r ^ n.toNat ≤ (rg a.toNat).natAbs ∧ (rg a.toNat).natAbs < (r + 1) ^ n.toNat ∧ τ = (va_up rg to.toNat (((r : Nat) : Int)), ct, f, st, g)) (rg, ct, f, st, g) 0 u) (fun u t => zQ E B u t.heap ∧ zK E t) (zA B 80)) (vx_X (fun u : Nat × zS => SP (rok a ∧ rok to ∧ 1 ≤ n ∧ n ≤ 64) (False) (rg a.toNat < 0) (fun τ => 0 ≤ rg a.toNat ∧ ∃ r : Nat, r ^ n.toNat ≤ (rg a.toNat).natAbs ∧ (rg a.toNat).natAbs < (r + 1) ^ n.toNat ∧ τ = (va_up rg to.toNat (((r : Nat) : Int)), ct, f, st, g)) (rg, ct, f, st, g) u.1 u.2 ∧ u.1 ≠ 0) (fun C u t => (fun (C : String) (u : Nat × zS) (H : Heap) => C = zcl u.1 ∧ zQ E B u.2 H) C u t.heap ∧ zK E t) (zA B 80)) 8 48 (zA B 80) := by
  refine zox_v (P' := fun (u : zS) H => zQ E B u H) (BX := fun (C : String) (u : Nat × zS) (H : Heap) => C = zcl u.1 ∧ zQ E B u.2 H) hl0 (fun C u H H1 _ hq h => ⟨h.1, zQ_grow hq h.2⟩) (by decide) (Nat.le_of_ble_eq_true rfl) fun p e R s m args below meth c Q ls hR hx hb hml ht hown hK hZ hH hl hend hthr hpas => ?_
  have hS : va_S (zA B 80) s.heap s.heap [] := va_S.rf
  have hown : s.vm.findClass "WholeDesk" = some m.cls := hown
  have hl : lv_has ls 4 [(0, .ref (B)), (1, .int (iZ (a))), (2, .int (iZ (n))), (3, .int (iZ (to)))] := hl
  obtain ⟨hok, v0, an0, sp0, hZ, hA0, hr⟩ := hZ
  dsimp only at hZ hr
  have fr : ∀ j, j < 22 → v0 j = v0 j := fun j _ => rfl
  refine lv_iload_n hx hb dS_root_0 rfl (lv_at hl 1 rfl) ?_
  refine zxS_v (P' := fun (u : Unit) H => zD E B v0 (zF E B an0 sp0 ct f st g) H) (BX := fun (C : String) (u : Unit) (H : Heap) => C = "java/lang/IllegalArgumentException" ∧ zD E B v0 (zF E B an0 sp0 ct f st g) H) 1 (As := [.int (iZ (a))]) (rest := []) ⟨hx, hb, hml, hown, ht⟩ (mS_testRegister l hl0 E B v0 (zF E B an0 sp0 ct f st g) (a) (hz_a)) tw_246 tw_244 tw_245 tw_1 qS_testRegister (by rw [hR]; decide) hZ hK hH hl.1 rfl rfl (Nat.le_of_ble_eq_true rfl) dS_root_1 (by rw [hR]; decide) hS (fun C ce q9 u H locs hp hZ hS hce hcv hcl => hpas C ce q9 _ (1, (rg, ct, f, st, g)) H locs _ _ _ _ (by decide) (⟨Or.inl ⟨rfl, fun h9 => hp (by first | exact h9 | exact h9.1 | exact h9.2.1 | exact h9.2.2.1 | exact h9.2.2.2.1 | exact h9.2.2.2 | exact h9.2.2 | exact h9.2), rfl⟩, by show 1 ≠ 0; decide⟩) (⟨hZ.1, ⟨hok, v0, an0, sp0, hZ.2, hA0, zR_same fr hr⟩⟩) hS hce hcv hcl) (fun u H locs hp hZ _ hS => ?_)
  obtain ⟨na, rfl⟩ : ∃ n : Nat, a = (n : Int) := ⟨a.toNat, by have := hp.1; omega⟩
  have hk_na : rok ↑na := hp
  have h10_na : na < 10 := by have := hp.2; omega
  refine lv_iload_n hx hb dS_root_4 rfl (lv_at hl 3 rfl) ?_
  refine zxS_v (P' := fun (u : Unit) H => zD E B v0 (zF E B an0 sp0 ct f st g) H) (BX := fun (C : String) (u : Unit) (H : Heap) => C = "java/lang/IllegalArgumentException" ∧ zD E B v0 (zF E B an0 sp0 ct f st g) H) 1 (As := [.int (iZ (to))]) (rest := []) ⟨hx, hb, hml, hown, ht⟩ (mS_testRegister l hl0 E B v0 (zF E B an0 sp0 ct f st g) (to) (hz_to)) tw_246 tw_244 tw_245 tw_1 qS_testRegister (by rw [hR]; decide) hZ hK hH hl.1 rfl rfl (Nat.le_of_ble_eq_true rfl) dS_root_5 (by rw [hR]; decide) hS (fun C ce q9 u H locs hp hZ hS hce hcv hcl => hpas C ce q9 _ (1, (rg, ct, f, st, g)) H locs _ _ _ _ (by decide) (⟨Or.inl ⟨rfl, fun h9 => hp (by first | exact h9 | exact h9.1 | exact h9.2.1 | exact h9.2.2.1 | exact h9.2.2.2.1 | exact h9.2.2.2 | exact h9.2.2 | exact h9.2), rfl⟩, by show 1 ≠ 0; decide⟩) (⟨hZ.1, ⟨hok, v0, an0, sp0, hZ.2, hA0, zR_same fr hr⟩⟩) hS hce hcv hcl) (fun u H locs hp hZ _ hS => ?_)
  obtain ⟨nto, rfl⟩ : ∃ n : Nat, to = (n : Int) := ⟨to.toNat, by have := hp.1; omega⟩
  have hk_nto : rok ↑nto := hp
  have h10_nto : nto < 10 := by have := hp.2; omega
  refine lv_iload_n hx hb dS_root_8 rfl (lv_at hl 2 rfl) ?_
  refine lv_iconst (v := iZ (1)) hx hb dS_root_9 (by decide) ?_
  refine zr_icmp_lt (tgt := 19) hx hb hz_n (by unfold zi; omega) dS_root_10 (by decide) (fun c_1 => ?_) (fun c_1 => ?_)
  · exact hthr _ _ _ _ _ _ 19 (1, (rg, ct, f, st, g)) _ _ _ _ _ _ zs_S_root_19 hown dS_root_19 dS_root_22 dS_root_23 dS_root_25 dS_root_28 hl.1 (by rw [hR]; decide) (by decide) (⟨Or.inl ⟨rfl, fun h9 => by have h8 := h9.2.2; omega, rfl⟩, by show 1 ≠ 0; decide⟩) (⟨rfl, ⟨hok, v0, an0, sp0, hZ, hA0, zR_same fr hr⟩⟩) hS
  · refine lv_iload_n hx hb dS_root_13 rfl (lv_at hl 2 rfl) ?_
    refine lv_bipush (v := iZ (64)) hx hb dS_root_14 (by decide) ?_
    refine zr_icmp_le (tgt := 29) hx hb hz_n (by unfold zi; omega) dS_root_16 (by decide) (fun c_2 => ?_) (fun c_2 => ?_)
    · have h1n : 1 ≤ n := by omega
      have h64n : n ≤ 64 := by omega
      obtain ⟨nk, rfl⟩ : ∃ q : Nat, n = ((q + 1 : Nat) : Int) := ⟨n.toNat - 1, by omega⟩
      refine lv_aload_n hx hb dS_root_29 rfl (lv_at hl 0 rfl) ?_
      refine zs_registers hx hb ht hown hK hZ tw_127 dS_root_30 ?_
      refine lv_iload_n hx hb dS_root_33 rfl (lv_at hl 1 rfl) ?_
      refine zs_reg (i := na) hx hb hK hZ h10_na dS_root_34 ?_
      have hN_na : zN (v0 (2 + 2 * na)) (rg na) := zR_same fr hr na h10_na
      have hX_na : zX (rg na) := hok.1 na h10_na
      refine zw_below (d := (v0 (2 + 2 * na)).1) (n := (v0 (2 + 2 * na)).2.1) (b := (v0 (2 + 2 * na)).2.2) hx hb ht hown hK hZ (lp_reg h10_na) rfl tw_42 dS_root_35 ?_
      refine zr_if_eq (tgt := 51) hx hb (by have := bZ_01 (v0 (2 + 2 * na)).2.2; omega) dS_root_38 (by decide) (fun c_3 => ?_) (fun c_3 => ?_)
      · have hx0 : 0 ≤ rg na := Int.not_lt.mp (fun h9 => absurd ((zN_neg hN_na).mpr h9) (by rw [show (v0 (2 + 2 * na)).2.2 = false from bZ_f.mp (by assumption)]; decide))
        obtain ⟨r, hr1, hr2⟩ := nroot_ex (rg na).natAbs nk
        have hNx : zN (v0 (2 + 2 * na)) (((rg na).natAbs : Nat) : Int) := by rw [show (((rg na).natAbs : Nat) : Int) = rg na by omega]; exact hN_na
        have hXx : zX (((rg na).natAbs : Nat) : Int) := by rw [show (((rg na).natAbs : Nat) : Int) = rg na by omega]; exact hX_na
        refine lv_aload_n hx hb dS_root_51 rfl (lv_at hl 0 rfl) ?_
        refine lv_aload_n hx hb dS_root_52 rfl (lv_at hl 0 rfl) ?_
        refine zs_reckoner hx hb ht hown hK hZ tw_128 dS_root_53 ?_
        refine lv_aload_n hx hb dS_root_56 rfl (lv_at hl 0 rfl) ?_
        refine zs_registers hx hb ht hown hK hZ tw_127 dS_root_57 ?_
        refine lv_iload_n hx hb dS_root_60 rfl (lv_at hl 1 rfl) ?_
        refine zs_reg (i := na) hx hb hK hZ h10_na dS_root_61 ?_
        refine lv_iload_n hx hb dS_root_62 rfl (lv_at hl 2 rfl) ?_
        refine zcV_r (P' := fun (u : (Nat → zV) × Nat × Nat × Nat) a H => a = B + u.2.2.2 ∧ zD E B u.1 (zo E B (zd E B (zg E B (zs E B) st g) ct f) u.2.1 u.2.2.1) H) 2 (As := [.ref (B + (2 + 2 * na)), .int (iZ (((nk + 1 : Nat) : Int)))]) (rest := [.ref (B)]) rfl ⟨hx, hb, hml, hown, ht⟩ (mK_rooted l E B v0 (zd E B (zg E B (zs E B) st g) ct f) an0 sp0 hA0 (2 + 2 * na) (lp_reg h10_na) (rg na).natAbs hNx nk (by omega) r hr1 hr2 hXx ⟨by omega, by omega, by omega, by omega, by omega⟩) tw_475 tw_472 tw_473 tw_474 tw_3 qK_rooted (by rw [hR]; decide) (zK_recv hK hZ) hZ hK hl.1 rfl rfl (Nat.le_of_ble_eq_true rfl) dS_root_63 (by rw [hR]; decide) hS (fun u r9 H locs hp hZ _ hS => ?_)
        obtain ⟨v, a9, s9, o9⟩ := u
        obtain ⟨er9, hZ⟩ := hZ
        obtain ⟨ho, hA9, ho9, hN9⟩ := hp
        dsimp only at *
        subst er9
        have fr : ∀ j, j < 22 → v j = v0 j := fun j hj => (ho j (by omega) (by omega) (by omega) (by omega) (by omega)).trans (fr j hj)
        have hZ : zD E B v (zF E B a9 s9 ct f st g) H := by exact hZ
        have hlo9 : lp o9 = true := by rcases ho9 with h | h <;> rw [h] <;> decide
        refine lv_iload_n hx hb dS_root_66 rfl (lv_at hl 3 rfl) ?_
        refine zxV_v (P' := fun (u : Nat → zV) H => zD E B u (zF E B a9 s9 ct f st g) H) (BX := fun (C : String) (u : Unit) (H : Heap) => C = "java/lang/ArithmeticException" ∧ zD E B v (zF E B a9 s9 ct f st g) H) 2 (As := [.ref (B + o9), .int (iZ (↑nto))]) (rest := []) rfl ⟨hx, hb, hml, hown, ht⟩ (mS_keep l hl0 E B v a9 s9 ct f st g o9 hlo9 (((r : Nat) : Int)) hN9 nto h10_nto (by omega)) tw_314 tw_311 tw_313 tp_4 tw_1 qS_keep (by rw [hR]; decide) (zs_recv hK hZ) hZ hK hH hl.1 rfl rfl (Nat.le_of_ble_eq_true rfl) dS_root_67 (by rw [hR]; decide) hS (fun C ce q9 u H locs hp hZ hS hce hcv hcl => hpas C ce q9 _ (3, (rg, ct, f, st, g)) H locs _ _ _ _ (by decide) (absurd (zX_nat hXx (root_le hr1)) hp) (⟨hZ.1, ⟨hok, v, a9, s9, hZ.2, hA9, zR_same fr hr⟩⟩) hS hce hcv hcl) (fun v H locs hp hZ _ hS => ?_)
        obtain ⟨ho, hNk, hXk⟩ := hp
        have hQ9 : zR10 v (va_up rg nto (((r : Nat) : Int))) := zR_up fr hr ho hNk
        have hok9 : okS (va_up rg nto (((r : Nat) : Int)), ct, f, st, g) := okS_up hok hXk
        exact hend 70 (va_up rg nto (((r : Nat) : Int)), ct, f, st, g) _ _ _ _ _ (by decide) dS_root_70 (Or.inr (Or.inr (Or.inr ⟨rfl, by repeat (first | assumption | constructor), hx0, r, hr1, hr2, rfl⟩))) (⟨hok9, v, a9, s9, hZ, hA9, hQ9⟩) hS
      · exact hthr _ _ _ _ _ _ 41 (3, (rg, ct, f, st, g)) _ _ _ _ _ _ zs_S_root_41 hown dS_root_41 dS_root_44 dS_root_45 dS_root_47 dS_root_50 hl.1 (by rw [hR]; decide) (by decide) (⟨Or.inr (Or.inr (Or.inl ⟨rfl, by repeat (first | assumption | constructor), (zN_neg hN_na).mp (bZ_nf.mp (by assumption)), rfl⟩)), by show 3 ≠ 0; decide⟩) (⟨rfl, ⟨hok, v0, an0, sp0, hZ, hA0, zR_same fr hr⟩⟩) hS
    · exact hthr _ _ _ _ _ _ 19 (1, (rg, ct, f, st, g)) _ _ _ _ _ _ zs_S_root_19 hown dS_root_19 dS_root_22 dS_root_23 dS_root_25 dS_root_28 hl.1 (by rw [hR]; decide) (by decide) (⟨Or.inl ⟨rfl, fun h9 => by have h8 := h9.2.2; omega, rfl⟩, by show 1 ≠ 0; decide⟩) (⟨rfl, ⟨hok, v0, an0, sp0, hZ, hA0, zR_same fr hr⟩⟩) hS

set_option maxHeartbeats 4000000 in
set_option maxRecDepth 100000 in
theorem mS_inverse (l : Launch) (hl0 : l.stackTraces = false) (E : zE) (B : Nat) (rg : Nat → Int) (ct : Nat) (f : Nat → Nat) (st : Nat) (g : Nat → Nat) (a : Int) (hz_a : zi a) (mm : Int) (hz_mm : zi mm) (to : Int) (hz_to : zi to) :
    vx_Met l yS_inverse (zws yS_inverse cS_inverse 4 none) { frames := 7, cells := 8, slots := 48, locals := 220 } (zPx E (zA B 80) (zQ E B (rg, ct, f, st, g)) [.ref (B), .int (iZ (a)), .int (iZ (mm)), .int (iZ (to))]) (va_Qv (fun (u : zS) => SP (rok a ∧ rok mm ∧ rok to) (False) (¬ 0 < rg mm.toNat ∨ Nat.gcd (rg mm.toNat).natAbs (rg a.toNat).natAbs ≠ 1) (fun τ => 0 < rg mm.toNat ∧ ∃ z : Nat, ((z : Nat) : Int) < rg mm.toNat ∧ (rg mm.toNat) ∣ (rg a.toNat) * ((z : Nat) : Int) - 1 ∧ τ = (va_up rg to.toNat (((z : Nat) : Int)), ct, f, st, g)) (rg, ct, f, st, g) 0 u) (fun u t => zQ E B u t.heap ∧ zK E t) (zA B 80)) (vx_X (fun u : Nat × zS => SP (rok a ∧ rok mm ∧ rok to) (False) (¬ 0 < rg mm.toNat ∨ Nat.gcd (rg mm.toNat).natAbs (rg a.toNat).natAbs ≠ 1) (fun τ => 0 < rg mm.toNat ∧ ∃ z : Nat, ((z : Nat) : Int) < rg mm.toNat ∧ (rg mm.toNat) ∣ (rg a.toNat) * ((z : Nat) : Int) - 1 ∧ τ = (va_up rg to.toNat (((z : Nat) : Int)), ct, f, st, g)) (rg, ct, f, st, g) u.1 u.2 ∧ u.1 ≠ 0) (fun C u t => (fun (C : String) (u : Nat × zS) (H : Heap) => C = zcl u.1 ∧ zQ E B u.2 H) C u t.heap ∧ zK E t) (zA B 80)) 8 48 (zA B 80) := by
  refine zox_v (P' := fun (u : zS) H => zQ E B u H) (BX := fun (C : String) (u : Nat × zS) (H : Heap) => C = zcl u.1 ∧ zQ E B u.2 H) hl0 (fun C u H H1 _ hq h => ⟨h.1, zQ_grow hq h.2⟩) (by decide) (Nat.le_of_ble_eq_true rfl) fun p e R s m args below meth c Q ls hR hx hb hml ht hown hK hZ hH hl hend hthr hpas => ?_
  have hS : va_S (zA B 80) s.heap s.heap [] := va_S.rf
  have hown : s.vm.findClass "WholeDesk" = some m.cls := hown
  have hl : lv_has ls 4 [(0, .ref (B)), (1, .int (iZ (a))), (2, .int (iZ (mm))), (3, .int (iZ (to)))] := hl
  obtain ⟨hok, v0, an0, sp0, hZ, hA0, hr⟩ := hZ
  dsimp only at hZ hr
  have fr : ∀ j, j < 22 → v0 j = v0 j := fun j _ => rfl
  refine lv_iload_n hx hb dS_inverse_0 rfl (lv_at hl 1 rfl) ?_
  refine zxS_v (P' := fun (u : Unit) H => zD E B v0 (zF E B an0 sp0 ct f st g) H) (BX := fun (C : String) (u : Unit) (H : Heap) => C = "java/lang/IllegalArgumentException" ∧ zD E B v0 (zF E B an0 sp0 ct f st g) H) 1 (As := [.int (iZ (a))]) (rest := []) ⟨hx, hb, hml, hown, ht⟩ (mS_testRegister l hl0 E B v0 (zF E B an0 sp0 ct f st g) (a) (hz_a)) tw_246 tw_244 tw_245 tw_1 qS_testRegister (by rw [hR]; decide) hZ hK hH hl.1 rfl rfl (Nat.le_of_ble_eq_true rfl) dS_inverse_1 (by rw [hR]; decide) hS (fun C ce q9 u H locs hp hZ hS hce hcv hcl => hpas C ce q9 _ (1, (rg, ct, f, st, g)) H locs _ _ _ _ (by decide) (⟨Or.inl ⟨rfl, fun h9 => hp (by first | exact h9 | exact h9.1 | exact h9.2.1 | exact h9.2.2.1 | exact h9.2.2.2.1 | exact h9.2.2.2 | exact h9.2.2 | exact h9.2), rfl⟩, by show 1 ≠ 0; decide⟩) (⟨hZ.1, ⟨hok, v0, an0, sp0, hZ.2, hA0, zR_same fr hr⟩⟩) hS hce hcv hcl) (fun u H locs hp hZ _ hS => ?_)
  obtain ⟨na, rfl⟩ : ∃ n : Nat, a = (n : Int) := ⟨a.toNat, by have := hp.1; omega⟩
  have hk_na : rok ↑na := hp
  have h10_na : na < 10 := by have := hp.2; omega
  refine lv_iload_n hx hb dS_inverse_4 rfl (lv_at hl 2 rfl) ?_
  refine zxS_v (P' := fun (u : Unit) H => zD E B v0 (zF E B an0 sp0 ct f st g) H) (BX := fun (C : String) (u : Unit) (H : Heap) => C = "java/lang/IllegalArgumentException" ∧ zD E B v0 (zF E B an0 sp0 ct f st g) H) 1 (As := [.int (iZ (mm))]) (rest := []) ⟨hx, hb, hml, hown, ht⟩ (mS_testRegister l hl0 E B v0 (zF E B an0 sp0 ct f st g) (mm) (hz_mm)) tw_246 tw_244 tw_245 tw_1 qS_testRegister (by rw [hR]; decide) hZ hK hH hl.1 rfl rfl (Nat.le_of_ble_eq_true rfl) dS_inverse_5 (by rw [hR]; decide) hS (fun C ce q9 u H locs hp hZ hS hce hcv hcl => hpas C ce q9 _ (1, (rg, ct, f, st, g)) H locs _ _ _ _ (by decide) (⟨Or.inl ⟨rfl, fun h9 => hp (by first | exact h9 | exact h9.1 | exact h9.2.1 | exact h9.2.2.1 | exact h9.2.2.2.1 | exact h9.2.2.2 | exact h9.2.2 | exact h9.2), rfl⟩, by show 1 ≠ 0; decide⟩) (⟨hZ.1, ⟨hok, v0, an0, sp0, hZ.2, hA0, zR_same fr hr⟩⟩) hS hce hcv hcl) (fun u H locs hp hZ _ hS => ?_)
  obtain ⟨nmm, rfl⟩ : ∃ n : Nat, mm = (n : Int) := ⟨mm.toNat, by have := hp.1; omega⟩
  have hk_nmm : rok ↑nmm := hp
  have h10_nmm : nmm < 10 := by have := hp.2; omega
  refine lv_iload_n hx hb dS_inverse_8 rfl (lv_at hl 3 rfl) ?_
  refine zxS_v (P' := fun (u : Unit) H => zD E B v0 (zF E B an0 sp0 ct f st g) H) (BX := fun (C : String) (u : Unit) (H : Heap) => C = "java/lang/IllegalArgumentException" ∧ zD E B v0 (zF E B an0 sp0 ct f st g) H) 1 (As := [.int (iZ (to))]) (rest := []) ⟨hx, hb, hml, hown, ht⟩ (mS_testRegister l hl0 E B v0 (zF E B an0 sp0 ct f st g) (to) (hz_to)) tw_246 tw_244 tw_245 tw_1 qS_testRegister (by rw [hR]; decide) hZ hK hH hl.1 rfl rfl (Nat.le_of_ble_eq_true rfl) dS_inverse_9 (by rw [hR]; decide) hS (fun C ce q9 u H locs hp hZ hS hce hcv hcl => hpas C ce q9 _ (1, (rg, ct, f, st, g)) H locs _ _ _ _ (by decide) (⟨Or.inl ⟨rfl, fun h9 => hp (by first | exact h9 | exact h9.1 | exact h9.2.1 | exact h9.2.2.1 | exact h9.2.2.2.1 | exact h9.2.2.2 | exact h9.2.2 | exact h9.2), rfl⟩, by show 1 ≠ 0; decide⟩) (⟨hZ.1, ⟨hok, v0, an0, sp0, hZ.2, hA0, zR_same fr hr⟩⟩) hS hce hcv hcl) (fun u H locs hp hZ _ hS => ?_)
  obtain ⟨nto, rfl⟩ : ∃ n : Nat, to = (n : Int) := ⟨to.toNat, by have := hp.1; omega⟩
  have hk_nto : rok ↑nto := hp
  have h10_nto : nto < 10 := by have := hp.2; omega
  refine lv_aload_n hx hb dS_inverse_12 rfl (lv_at hl 0 rfl) ?_
  refine zs_registers hx hb ht hown hK hZ tw_127 dS_inverse_13 ?_
  refine lv_iload_n hx hb dS_inverse_16 rfl (lv_at hl 2 rfl) ?_
  refine zs_reg (i := nmm) hx hb hK hZ h10_nmm dS_inverse_17 ?_
  have hN_nmm : zN (v0 (2 + 2 * nmm)) (rg nmm) := zR_same fr hr nmm h10_nmm
  have hX_nmm : zX (rg nmm) := hok.1 nmm h10_nmm
  refine zxS_v (P' := fun (u : Unit) H => zD E B v0 (zF E B an0 sp0 ct f st g) H) (BX := fun (C : String) (u : Unit) (H : Heap) => C = "java/lang/ArithmeticException" ∧ zD E B v0 (zF E B an0 sp0 ct f st g) H) 1 (As := [.ref (B + (2 + 2 * nmm))]) (rest := []) ⟨hx, hb, hml, hown, ht⟩ (mS_testModulus l hl0 E B v0 (zF E B an0 sp0 ct f st g) (2 + 2 * nmm) (lp_reg h10_nmm) (rg nmm) hN_nmm) tw_434 tw_432 tw_433 tw_1 qS_testModulus (by rw [hR]; decide) hZ hK hH hl.1 rfl rfl (Nat.le_of_ble_eq_true rfl) dS_inverse_18 (by rw [hR]; decide) hS (fun C ce q9 u H locs hp hZ hS hce hcv hcl => hpas C ce q9 _ (3, (rg, ct, f, st, g)) H locs _ _ _ _ (by decide) (⟨Or.inr (Or.inr (Or.inl ⟨rfl, by repeat (first | assumption | constructor), by first | exact hp | exact Or.inl hp | exact Or.inr hp, rfl⟩)), by show 3 ≠ 0; decide⟩) (⟨hZ.1, ⟨hok, v0, an0, sp0, hZ.2, hA0, zR_same fr hr⟩⟩) hS hce hcv hcl) (fun u H locs hp hZ _ hS => ?_)
  have hmod := hp
  refine lv_aload_n hx hb dS_inverse_21 rfl (lv_at hl 0 rfl) ?_
  refine lv_aload_n hx hb dS_inverse_22 rfl (lv_at hl 0 rfl) ?_
  refine zs_reckoner hx hb ht hown hK hZ tw_128 dS_inverse_23 ?_
  refine lv_aload_n hx hb dS_inverse_26 rfl (lv_at hl 0 rfl) ?_
  refine zs_registers hx hb ht hown hK hZ tw_127 dS_inverse_27 ?_
  refine lv_iload_n hx hb dS_inverse_30 rfl (lv_at hl 1 rfl) ?_
  refine zs_reg (i := na) hx hb hK hZ h10_na dS_inverse_31 ?_
  have hN_na : zN (v0 (2 + 2 * na)) (rg na) := zR_same fr hr na h10_na
  have hX_na : zX (rg na) := hok.1 na h10_na
  refine lv_aload_n hx hb dS_inverse_32 rfl (lv_at hl 0 rfl) ?_
  refine zs_registers hx hb ht hown hK hZ tw_127 dS_inverse_33 ?_
  refine lv_iload_n hx hb dS_inverse_36 rfl (lv_at hl 2 rfl) ?_
  refine zs_reg (i := nmm) hx hb hK hZ h10_nmm dS_inverse_37 ?_
  have hmd : 0 < (rg nmm).natAbs := by omega
  have hNm : zN (v0 (2 + 2 * nmm)) (((rg nmm).natAbs : Nat) : Int) := by rw [show (((rg nmm).natAbs : Nat) : Int) = rg nmm by omega]; exact hN_nmm
  have hXm : zX (((rg nmm).natAbs : Nat) : Int) := by rw [show (((rg nmm).natAbs : Nat) : Int) = rg nmm by omega]; exact hX_nmm
  refine zxV_r (P' := fun (u : (Nat → zV) × Nat × Nat × Nat) a H => a = B + u.2.2.2 ∧ zD E B u.1 (zo E B (zd E B (zg E B (zs E B) st g) ct f) u.2.1 u.2.2.1) H) (BX := fun (C : String) (u : (Nat → zV) × Nat × Nat) (H : Heap) => C = "java/lang/ArithmeticException" ∧ zD E B u.1 (zo E B (zd E B (zg E B (zs E B) st g) ct f) u.2.1 u.2.2) H) 2 (As := [.ref (B + (2 + 2 * na)), .ref (B + (2 + 2 * nmm))]) (rest := [.ref (B)]) rfl ⟨hx, hb, hml, hown, ht⟩ (mK_inverted l hl0 E B v0 (zd E B (zg E B (zs E B) st g) ct f) an0 sp0 hA0 (2 + 2 * na) (lp_reg h10_na) (rg na) hN_na hX_na (2 + 2 * nmm) (lp_reg h10_nmm) (rg nmm).natAbs hNm hmd hXm ⟨by omega, by omega, by omega⟩ ⟨by omega, by omega, by omega, by omega, by omega, by omega⟩) tw_511 tw_508 tw_509 tw_510 tw_3 qK_inverted (by rw [hR]; decide) (zK_recv hK hZ) hZ hK hH hl.1 rfl rfl (Nat.le_of_ble_eq_true rfl) dS_inverse_38 (by rw [hR]; decide) hS (fun C ce q9 u H locs hp hZ hS hce hcv hcl => hpas C ce q9 _ (3, rg, ct, f, st, g) H locs _ _ _ _ (by decide) (⟨Or.inr (Or.inr (Or.inl ⟨rfl, by repeat (first | assumption | constructor), Or.inr hp.2.2, rfl⟩)), by show 3 ≠ 0; decide⟩) (⟨hZ.1, ⟨hok, u.1, u.2.1, u.2.2, hZ.2, by rw [hp.2.1.1, hp.2.1.2]; exact hA0, zR_same (fun j hj => (hp.1 j (by omega) (by omega) (by omega) (by omega) (by omega) (by omega)).trans (fr j hj)) hr⟩⟩) hS hce hcv hcl) (fun u r9 H locs hp hZ _ hS => ?_)
  obtain ⟨v, a9, s9, o9⟩ := u
  obtain ⟨er9, hZ⟩ := hZ
  obtain ⟨ho, ⟨e8, e9⟩, ho9, hgc, z9, hN9, hz9, hdv⟩ := hp
  dsimp only at *
  subst er9
  have fr : ∀ j, j < 22 → v j = v0 j := fun j hj => (ho j (by omega) (by omega) (by omega) (by omega) (by omega) (by omega)).trans (fr j hj)
  rw [e8, e9] at hZ
  have hZ : zD E B v (zF E B an0 sp0 ct f st g) H := by exact hZ
  have hlo9 : lp o9 = true := by rcases ho9 with h | h <;> rw [h] <;> decide
  refine lv_iload_n hx hb dS_inverse_41 rfl (lv_at hl 3 rfl) ?_
  refine zxV_v (P' := fun (u : Nat → zV) H => zD E B u (zF E B an0 sp0 ct f st g) H) (BX := fun (C : String) (u : Unit) (H : Heap) => C = "java/lang/ArithmeticException" ∧ zD E B v (zF E B an0 sp0 ct f st g) H) 2 (As := [.ref (B + o9), .int (iZ (↑nto))]) (rest := []) rfl ⟨hx, hb, hml, hown, ht⟩ (mS_keep l hl0 E B v an0 sp0 ct f st g o9 hlo9 (((z9 : Nat) : Int)) hN9 nto h10_nto (by omega)) tw_314 tw_311 tw_313 tp_4 tw_1 qS_keep (by rw [hR]; decide) (zs_recv hK hZ) hZ hK hH hl.1 rfl rfl (Nat.le_of_ble_eq_true rfl) dS_inverse_42 (by rw [hR]; decide) hS (fun C ce q9 u H locs hp hZ hS hce hcv hcl => hpas C ce q9 _ (3, (rg, ct, f, st, g)) H locs _ _ _ _ (by decide) (absurd (zX_nat hXm (Nat.le_of_lt hz9)) hp) (⟨hZ.1, ⟨hok, v, an0, sp0, hZ.2, hA0, zR_same fr hr⟩⟩) hS hce hcv hcl) (fun v H locs hp hZ _ hS => ?_)
  obtain ⟨ho, hNk, hXk⟩ := hp
  have hQ9 : zR10 v (va_up rg nto (((z9 : Nat) : Int))) := zR_up fr hr ho hNk
  have hok9 : okS (va_up rg nto (((z9 : Nat) : Int)), ct, f, st, g) := okS_up hok hXk
  exact hend 45 (va_up rg nto (((z9 : Nat) : Int)), ct, f, st, g) _ _ _ _ _ (by decide) dS_inverse_45 (Or.inr (Or.inr (Or.inr ⟨rfl, by repeat (first | assumption | constructor), hmod, z9, by show ((z9 : Nat) : Int) < rg nmm; omega, by rw [show (((rg nmm).natAbs : Nat) : Int) = rg nmm by omega] at hdv; exact hdv, rfl⟩))) (⟨hok9, v, an0, sp0, hZ, hA0, hQ9⟩) hS

set_option maxHeartbeats 4000000 in
set_option maxRecDepth 100000 in
theorem mS_powerModulo (l : Launch) (hl0 : l.stackTraces = false) (E : zE) (B : Nat) (rg : Nat → Int) (ct : Nat) (f : Nat → Nat) (st : Nat) (g : Nat → Nat) (a : Int) (hz_a : zi a) (xe : Int) (hz_xe : zi xe) (mm : Int) (hz_mm : zi mm) (to : Int) (hz_to : zi to) :
    vx_Met l yS_powerModulo (zws yS_powerModulo cS_powerModulo 5 none) { frames := 8, cells := 8, slots := 48, locals := 240 } (zPx E (zA B 80) (zQ E B (rg, ct, f, st, g)) [.ref (B), .int (iZ (a)), .int (iZ (xe)), .int (iZ (mm)), .int (iZ (to))]) (va_Qv (fun (u : zS) => SP (rok a ∧ rok xe ∧ rok mm ∧ rok to) (False) (¬ 0 < rg mm.toNat ∨ (rg xe.toNat < 0 ∧ Nat.gcd (rg mm.toNat).natAbs (rg a.toNat).natAbs ≠ 1)) (fun τ => 0 < rg mm.toNat ∧ (rg xe.toNat < 0 → Nat.gcd (rg mm.toNat).natAbs (rg a.toNat).natAbs = 1) ∧ ∃ bs : Nat, ((bs : Nat) : Int) < rg mm.toNat ∧ ((rg xe.toNat < 0 ∧ (rg mm.toNat) ∣ (rg a.toNat) * ((bs : Nat) : Int) - 1) ∨ (0 ≤ rg xe.toNat ∧ ((bs : Nat) : Int) = (rg a.toNat) % (rg mm.toNat))) ∧ τ = (va_up rg to.toNat (((bs ^ (rg xe.toNat).natAbs % (rg mm.toNat).natAbs : Nat) : Int)), ct, f, st, g)) (rg, ct, f, st, g) 0 u) (fun u t => zQ E B u t.heap ∧ zK E t) (zA B 80)) (vx_X (fun u : Nat × zS => SP (rok a ∧ rok xe ∧ rok mm ∧ rok to) (False) (¬ 0 < rg mm.toNat ∨ (rg xe.toNat < 0 ∧ Nat.gcd (rg mm.toNat).natAbs (rg a.toNat).natAbs ≠ 1)) (fun τ => 0 < rg mm.toNat ∧ (rg xe.toNat < 0 → Nat.gcd (rg mm.toNat).natAbs (rg a.toNat).natAbs = 1) ∧ ∃ bs : Nat, ((bs : Nat) : Int) < rg mm.toNat ∧ ((rg xe.toNat < 0 ∧ (rg mm.toNat) ∣ (rg a.toNat) * ((bs : Nat) : Int) - 1) ∨ (0 ≤ rg xe.toNat ∧ ((bs : Nat) : Int) = (rg a.toNat) % (rg mm.toNat))) ∧ τ = (va_up rg to.toNat (((bs ^ (rg xe.toNat).natAbs % (rg mm.toNat).natAbs : Nat) : Int)), ct, f, st, g)) (rg, ct, f, st, g) u.1 u.2 ∧ u.1 ≠ 0) (fun C u t => (fun (C : String) (u : Nat × zS) (H : Heap) => C = zcl u.1 ∧ zQ E B u.2 H) C u t.heap ∧ zK E t) (zA B 80)) 8 48 (zA B 80) := by
  refine zox_v (P' := fun (u : zS) H => zQ E B u H) (BX := fun (C : String) (u : Nat × zS) (H : Heap) => C = zcl u.1 ∧ zQ E B u.2 H) hl0 (fun C u H H1 _ hq h => ⟨h.1, zQ_grow hq h.2⟩) (by decide) (Nat.le_of_ble_eq_true rfl) fun p e R s m args below meth c Q ls hR hx hb hml ht hown hK hZ hH hl hend hthr hpas => ?_
  have hS : va_S (zA B 80) s.heap s.heap [] := va_S.rf
  have hown : s.vm.findClass "WholeDesk" = some m.cls := hown
  have hl : lv_has ls 5 [(0, .ref (B)), (1, .int (iZ (a))), (2, .int (iZ (xe))), (3, .int (iZ (mm))), (4, .int (iZ (to)))] := hl
  obtain ⟨hok, v0, an0, sp0, hZ, hA0, hr⟩ := hZ
  dsimp only at hZ hr
  have fr : ∀ j, j < 22 → v0 j = v0 j := fun j _ => rfl
  refine lv_iload_n hx hb dS_powerModulo_0 rfl (lv_at hl 1 rfl) ?_
  refine zxS_v (P' := fun (u : Unit) H => zD E B v0 (zF E B an0 sp0 ct f st g) H) (BX := fun (C : String) (u : Unit) (H : Heap) => C = "java/lang/IllegalArgumentException" ∧ zD E B v0 (zF E B an0 sp0 ct f st g) H) 1 (As := [.int (iZ (a))]) (rest := []) ⟨hx, hb, hml, hown, ht⟩ (mS_testRegister l hl0 E B v0 (zF E B an0 sp0 ct f st g) (a) (hz_a)) tw_246 tw_244 tw_245 tw_1 qS_testRegister (by rw [hR]; decide) hZ hK hH hl.1 rfl rfl (Nat.le_of_ble_eq_true rfl) dS_powerModulo_1 (by rw [hR]; decide) hS (fun C ce q9 u H locs hp hZ hS hce hcv hcl => hpas C ce q9 _ (1, (rg, ct, f, st, g)) H locs _ _ _ _ (by decide) (⟨Or.inl ⟨rfl, fun h9 => hp (by first | exact h9 | exact h9.1 | exact h9.2.1 | exact h9.2.2.1 | exact h9.2.2.2.1 | exact h9.2.2.2 | exact h9.2.2 | exact h9.2), rfl⟩, by show 1 ≠ 0; decide⟩) (⟨hZ.1, ⟨hok, v0, an0, sp0, hZ.2, hA0, zR_same fr hr⟩⟩) hS hce hcv hcl) (fun u H locs hp hZ _ hS => ?_)
  obtain ⟨na, rfl⟩ : ∃ n : Nat, a = (n : Int) := ⟨a.toNat, by have := hp.1; omega⟩
  have hk_na : rok ↑na := hp
  have h10_na : na < 10 := by have := hp.2; omega
  refine lv_iload_n hx hb dS_powerModulo_4 rfl (lv_at hl 2 rfl) ?_
  refine zxS_v (P' := fun (u : Unit) H => zD E B v0 (zF E B an0 sp0 ct f st g) H) (BX := fun (C : String) (u : Unit) (H : Heap) => C = "java/lang/IllegalArgumentException" ∧ zD E B v0 (zF E B an0 sp0 ct f st g) H) 1 (As := [.int (iZ (xe))]) (rest := []) ⟨hx, hb, hml, hown, ht⟩ (mS_testRegister l hl0 E B v0 (zF E B an0 sp0 ct f st g) (xe) (hz_xe)) tw_246 tw_244 tw_245 tw_1 qS_testRegister (by rw [hR]; decide) hZ hK hH hl.1 rfl rfl (Nat.le_of_ble_eq_true rfl) dS_powerModulo_5 (by rw [hR]; decide) hS (fun C ce q9 u H locs hp hZ hS hce hcv hcl => hpas C ce q9 _ (1, (rg, ct, f, st, g)) H locs _ _ _ _ (by decide) (⟨Or.inl ⟨rfl, fun h9 => hp (by first | exact h9 | exact h9.1 | exact h9.2.1 | exact h9.2.2.1 | exact h9.2.2.2.1 | exact h9.2.2.2 | exact h9.2.2 | exact h9.2), rfl⟩, by show 1 ≠ 0; decide⟩) (⟨hZ.1, ⟨hok, v0, an0, sp0, hZ.2, hA0, zR_same fr hr⟩⟩) hS hce hcv hcl) (fun u H locs hp hZ _ hS => ?_)
  obtain ⟨nxe, rfl⟩ : ∃ n : Nat, xe = (n : Int) := ⟨xe.toNat, by have := hp.1; omega⟩
  have hk_nxe : rok ↑nxe := hp
  have h10_nxe : nxe < 10 := by have := hp.2; omega
  refine lv_iload_n hx hb dS_powerModulo_8 rfl (lv_at hl 3 rfl) ?_
  refine zxS_v (P' := fun (u : Unit) H => zD E B v0 (zF E B an0 sp0 ct f st g) H) (BX := fun (C : String) (u : Unit) (H : Heap) => C = "java/lang/IllegalArgumentException" ∧ zD E B v0 (zF E B an0 sp0 ct f st g) H) 1 (As := [.int (iZ (mm))]) (rest := []) ⟨hx, hb, hml, hown, ht⟩ (mS_testRegister l hl0 E B v0 (zF E B an0 sp0 ct f st g) (mm) (hz_mm)) tw_246 tw_244 tw_245 tw_1 qS_testRegister (by rw [hR]; decide) hZ hK hH hl.1 rfl rfl (Nat.le_of_ble_eq_true rfl) dS_powerModulo_9 (by rw [hR]; decide) hS (fun C ce q9 u H locs hp hZ hS hce hcv hcl => hpas C ce q9 _ (1, (rg, ct, f, st, g)) H locs _ _ _ _ (by decide) (⟨Or.inl ⟨rfl, fun h9 => hp (by first | exact h9 | exact h9.1 | exact h9.2.1 | exact h9.2.2.1 | exact h9.2.2.2.1 | exact h9.2.2.2 | exact h9.2.2 | exact h9.2), rfl⟩, by show 1 ≠ 0; decide⟩) (⟨hZ.1, ⟨hok, v0, an0, sp0, hZ.2, hA0, zR_same fr hr⟩⟩) hS hce hcv hcl) (fun u H locs hp hZ _ hS => ?_)
  obtain ⟨nmm, rfl⟩ : ∃ n : Nat, mm = (n : Int) := ⟨mm.toNat, by have := hp.1; omega⟩
  have hk_nmm : rok ↑nmm := hp
  have h10_nmm : nmm < 10 := by have := hp.2; omega
  refine lv_iload hx hb dS_powerModulo_12 (lv_at hl 4 rfl) ?_
  refine zxS_v (P' := fun (u : Unit) H => zD E B v0 (zF E B an0 sp0 ct f st g) H) (BX := fun (C : String) (u : Unit) (H : Heap) => C = "java/lang/IllegalArgumentException" ∧ zD E B v0 (zF E B an0 sp0 ct f st g) H) 1 (As := [.int (iZ (to))]) (rest := []) ⟨hx, hb, hml, hown, ht⟩ (mS_testRegister l hl0 E B v0 (zF E B an0 sp0 ct f st g) (to) (hz_to)) tw_246 tw_244 tw_245 tw_1 qS_testRegister (by rw [hR]; decide) hZ hK hH hl.1 rfl rfl (Nat.le_of_ble_eq_true rfl) dS_powerModulo_14 (by rw [hR]; decide) hS (fun C ce q9 u H locs hp hZ hS hce hcv hcl => hpas C ce q9 _ (1, (rg, ct, f, st, g)) H locs _ _ _ _ (by decide) (⟨Or.inl ⟨rfl, fun h9 => hp (by first | exact h9 | exact h9.1 | exact h9.2.1 | exact h9.2.2.1 | exact h9.2.2.2.1 | exact h9.2.2.2 | exact h9.2.2 | exact h9.2), rfl⟩, by show 1 ≠ 0; decide⟩) (⟨hZ.1, ⟨hok, v0, an0, sp0, hZ.2, hA0, zR_same fr hr⟩⟩) hS hce hcv hcl) (fun u H locs hp hZ _ hS => ?_)
  obtain ⟨nto, rfl⟩ : ∃ n : Nat, to = (n : Int) := ⟨to.toNat, by have := hp.1; omega⟩
  have hk_nto : rok ↑nto := hp
  have h10_nto : nto < 10 := by have := hp.2; omega
  refine lv_aload_n hx hb dS_powerModulo_17 rfl (lv_at hl 0 rfl) ?_
  refine zs_registers hx hb ht hown hK hZ tw_127 dS_powerModulo_18 ?_
  refine lv_iload_n hx hb dS_powerModulo_21 rfl (lv_at hl 3 rfl) ?_
  refine zs_reg (i := nmm) hx hb hK hZ h10_nmm dS_powerModulo_22 ?_
  have hN_nmm : zN (v0 (2 + 2 * nmm)) (rg nmm) := zR_same fr hr nmm h10_nmm
  have hX_nmm : zX (rg nmm) := hok.1 nmm h10_nmm
  refine zxS_v (P' := fun (u : Unit) H => zD E B v0 (zF E B an0 sp0 ct f st g) H) (BX := fun (C : String) (u : Unit) (H : Heap) => C = "java/lang/ArithmeticException" ∧ zD E B v0 (zF E B an0 sp0 ct f st g) H) 1 (As := [.ref (B + (2 + 2 * nmm))]) (rest := []) ⟨hx, hb, hml, hown, ht⟩ (mS_testModulus l hl0 E B v0 (zF E B an0 sp0 ct f st g) (2 + 2 * nmm) (lp_reg h10_nmm) (rg nmm) hN_nmm) tw_434 tw_432 tw_433 tw_1 qS_testModulus (by rw [hR]; decide) hZ hK hH hl.1 rfl rfl (Nat.le_of_ble_eq_true rfl) dS_powerModulo_23 (by rw [hR]; decide) hS (fun C ce q9 u H locs hp hZ hS hce hcv hcl => hpas C ce q9 _ (3, (rg, ct, f, st, g)) H locs _ _ _ _ (by decide) (⟨Or.inr (Or.inr (Or.inl ⟨rfl, by repeat (first | assumption | constructor), by first | exact hp | exact Or.inl hp | exact Or.inr hp, rfl⟩)), by show 3 ≠ 0; decide⟩) (⟨hZ.1, ⟨hok, v0, an0, sp0, hZ.2, hA0, zR_same fr hr⟩⟩) hS hce hcv hcl) (fun u H locs hp hZ _ hS => ?_)
  have hmod := hp
  refine lv_aload_n hx hb dS_powerModulo_26 rfl (lv_at hl 0 rfl) ?_
  refine lv_aload_n hx hb dS_powerModulo_27 rfl (lv_at hl 0 rfl) ?_
  refine zs_reckoner hx hb ht hown hK hZ tw_128 dS_powerModulo_28 ?_
  refine lv_aload_n hx hb dS_powerModulo_31 rfl (lv_at hl 0 rfl) ?_
  refine zs_registers hx hb ht hown hK hZ tw_127 dS_powerModulo_32 ?_
  refine lv_iload_n hx hb dS_powerModulo_35 rfl (lv_at hl 1 rfl) ?_
  refine zs_reg (i := na) hx hb hK hZ h10_na dS_powerModulo_36 ?_
  have hN_na : zN (v0 (2 + 2 * na)) (rg na) := zR_same fr hr na h10_na
  have hX_na : zX (rg na) := hok.1 na h10_na
  refine lv_aload_n hx hb dS_powerModulo_37 rfl (lv_at hl 0 rfl) ?_
  refine zs_registers hx hb ht hown hK hZ tw_127 dS_powerModulo_38 ?_
  refine lv_iload_n hx hb dS_powerModulo_41 rfl (lv_at hl 2 rfl) ?_
  refine zs_reg (i := nxe) hx hb hK hZ h10_nxe dS_powerModulo_42 ?_
  have hN_nxe : zN (v0 (2 + 2 * nxe)) (rg nxe) := zR_same fr hr nxe h10_nxe
  have hX_nxe : zX (rg nxe) := hok.1 nxe h10_nxe
  refine lv_aload_n hx hb dS_powerModulo_43 rfl (lv_at hl 0 rfl) ?_
  refine zs_registers hx hb ht hown hK hZ tw_127 dS_powerModulo_44 ?_
  refine lv_iload_n hx hb dS_powerModulo_47 rfl (lv_at hl 3 rfl) ?_
  refine zs_reg (i := nmm) hx hb hK hZ h10_nmm dS_powerModulo_48 ?_
  have hmd : 0 < (rg nmm).natAbs := by omega
  have hNm : zN (v0 (2 + 2 * nmm)) (((rg nmm).natAbs : Nat) : Int) := by rw [show (((rg nmm).natAbs : Nat) : Int) = rg nmm by omega]; exact hN_nmm
  have hXm : zX (((rg nmm).natAbs : Nat) : Int) := by rw [show (((rg nmm).natAbs : Nat) : Int) = rg nmm by omega]; exact hX_nmm
  refine zxV_r (P' := fun (u : (Nat → zV) × Nat × Nat × Nat) a H => a = B + u.2.2.2 ∧ zD E B u.1 (zo E B (zd E B (zg E B (zs E B) st g) ct f) u.2.1 u.2.2.1) H) (BX := fun (C : String) (u : (Nat → zV) × Nat × Nat) (H : Heap) => C = "java/lang/ArithmeticException" ∧ zD E B u.1 (zo E B (zd E B (zg E B (zs E B) st g) ct f) u.2.1 u.2.2) H) 3 (As := [.ref (B + (2 + 2 * na)), .ref (B + (2 + 2 * nxe)), .ref (B + (2 + 2 * nmm))]) (rest := [.ref (B)]) rfl ⟨hx, hb, hml, hown, ht⟩ (mK_raisedModulo l hl0 E B v0 (zd E B (zg E B (zs E B) st g) ct f) an0 sp0 hA0 (2 + 2 * na) (lp_reg h10_na) (rg na) hN_na hX_na (2 + 2 * nxe) (lp_reg h10_nxe) (rg nxe) hN_nxe (2 + 2 * nmm) (lp_reg h10_nmm) (rg nmm).natAbs hNm hmd hXm (by omega) (by omega) (by omega)) tw_534 tw_531 tw_532 tw_533 tw_3 qK_raisedModulo (by rw [hR]; decide) (zK_recv hK hZ) hZ hK hH hl.1 rfl rfl (Nat.le_of_ble_eq_true rfl) dS_powerModulo_49 (by rw [hR]; decide) hS (fun C ce q9 u H locs hp hZ hS hce hcv hcl => hpas C ce q9 _ (3, rg, ct, f, st, g) H locs _ _ _ _ (by decide) (⟨Or.inr (Or.inr (Or.inl ⟨rfl, by repeat (first | assumption | constructor), Or.inr hp.2.2, rfl⟩)), by show 3 ≠ 0; decide⟩) (⟨hZ.1, ⟨hok, u.1, u.2.1, u.2.2, hZ.2, hp.2.1, zR_same (fun j hj => (hp.1 j hj).trans (fr j hj)) hr⟩⟩) hS hce hcv hcl) (fun u r9 H locs hp hZ _ hS => ?_)
  obtain ⟨v, a9, s9, o9⟩ := u
  obtain ⟨er9, hZ⟩ := hZ
  obtain ⟨ho, hA9, e7, hgc, bs, hbs, hrel, hN9⟩ := hp
  dsimp only at *
  rw [e7] at er9
  subst er9
  have fr : ∀ j, j < 22 → v j = v0 j := fun j hj => (ho j hj).trans (fr j hj)
  have hZ : zD E B v (zF E B a9 s9 ct f st g) H := by exact hZ
  have hme : (((rg nmm).natAbs : Nat) : Int) = rg nmm := by omega
  refine lv_iload hx hb dS_powerModulo_52 (lv_at hl 4 rfl) ?_
  refine zxV_v (P' := fun (u : Nat → zV) H => zD E B u (zF E B a9 s9 ct f st g) H) (BX := fun (C : String) (u : Unit) (H : Heap) => C = "java/lang/ArithmeticException" ∧ zD E B v (zF E B a9 s9 ct f st g) H) 2 (As := [.ref (B + a9), .int (iZ (↑nto))]) (rest := []) rfl ⟨hx, hb, hml, hown, ht⟩ (mS_keep l hl0 E B v a9 s9 ct f st g a9 (swp_lp hA9 (by decide) (by decide)).1 (((bs ^ (rg nxe).natAbs % (rg nmm).natAbs : Nat) : Int)) hN9 nto h10_nto (Ne.symm (swp_ne hA9 (by omega) (by omega)).1)) tw_314 tw_311 tw_313 tp_4 tw_1 qS_keep (by rw [hR]; decide) (zs_recv hK hZ) hZ hK hH hl.1 rfl rfl (Nat.le_of_ble_eq_true rfl) dS_powerModulo_54 (by rw [hR]; decide) hS (fun C ce q9 u H locs hp hZ hS hce hcv hcl => hpas C ce q9 _ (3, (rg, ct, f, st, g)) H locs _ _ _ _ (by decide) (absurd (zX_nat hXm (Nat.le_of_lt (Nat.mod_lt _ hmd))) hp) (⟨hZ.1, ⟨hok, v, a9, s9, hZ.2, hA9, zR_same fr hr⟩⟩) hS hce hcv hcl) (fun v H locs hp hZ _ hS => ?_)
  obtain ⟨ho, hNk, hXk⟩ := hp
  have hQ9 : zR10 v (va_up rg nto (((bs ^ (rg nxe).natAbs % (rg nmm).natAbs : Nat) : Int))) := zR_up fr hr ho hNk
  have hok9 : okS (va_up rg nto (((bs ^ (rg nxe).natAbs % (rg nmm).natAbs : Nat) : Int)), ct, f, st, g) := okS_up hok hXk
  exact hend 57 (va_up rg nto (((bs ^ (rg nxe).natAbs % (rg nmm).natAbs : Nat) : Int)), ct, f, st, g) _ _ _ _ _ (by decide) dS_powerModulo_57 (Or.inr (Or.inr (Or.inr ⟨rfl, by repeat (first | assumption | constructor), hmod, hgc, bs, by show ((bs : Nat) : Int) < rg nmm; omega, by rw [hme] at hrel; exact hrel, rfl⟩))) (⟨hok9, v, a9, s9, hZ, hA9, hQ9⟩) hS

set_option maxHeartbeats 4000000 in
set_option maxRecDepth 100000 in
theorem mS_combine (l : Launch) (hl0 : l.stackTraces = false) (E : zE) (B : Nat) (rg : Nat → Int) (ct : Nat) (f : Nat → Nat) (st : Nat) (g : Nat → Nat) (a : Int) (hz_a : zi a) (b : Int) (hz_b : zi b) (to : Int) (hz_to : zi to) (how : Int) (hz_how : zi how) :
    vx_Met l yS_combine (zws yS_combine cS_combine 5 none) { frames := 7, cells := 8, slots := 48, locals := 140 } (zPx E (zA B 80) (zQ E B (rg, ct, f, st, g)) [.ref (B), .int (iZ (a)), .int (iZ (b)), .int (iZ (to)), .int (iZ (how))]) (va_Qv (fun (u : zS) => SP (rok a ∧ rok b ∧ rok to ∧ 0 ≤ how ∧ how ≤ 3) (False) (∃ zc : Int, (∀ i, tbz zc i = bop how.toNat (tbz (rg a.toNat) i) (tbz (rg b.toNat) i)) ∧ ¬ zX zc) (fun τ => ∃ zc : Int, (∀ i, tbz zc i = bop how.toNat (tbz (rg a.toNat) i) (tbz (rg b.toNat) i)) ∧ zX zc ∧ τ = (va_up rg to.toNat (zc), ct, f, st, g)) (rg, ct, f, st, g) 0 u) (fun u t => zQ E B u t.heap ∧ zK E t) (zA B 80)) (vx_X (fun u : Nat × zS => SP (rok a ∧ rok b ∧ rok to ∧ 0 ≤ how ∧ how ≤ 3) (False) (∃ zc : Int, (∀ i, tbz zc i = bop how.toNat (tbz (rg a.toNat) i) (tbz (rg b.toNat) i)) ∧ ¬ zX zc) (fun τ => ∃ zc : Int, (∀ i, tbz zc i = bop how.toNat (tbz (rg a.toNat) i) (tbz (rg b.toNat) i)) ∧ zX zc ∧ τ = (va_up rg to.toNat (zc), ct, f, st, g)) (rg, ct, f, st, g) u.1 u.2 ∧ u.1 ≠ 0) (fun C u t => (fun (C : String) (u : Nat × zS) (H : Heap) => C = zcl u.1 ∧ zQ E B u.2 H) C u t.heap ∧ zK E t) (zA B 80)) 8 48 (zA B 80) := by
  refine zox_v (P' := fun (u : zS) H => zQ E B u H) (BX := fun (C : String) (u : Nat × zS) (H : Heap) => C = zcl u.1 ∧ zQ E B u.2 H) hl0 (fun C u H H1 _ hq h => ⟨h.1, zQ_grow hq h.2⟩) (by decide) (Nat.le_of_ble_eq_true rfl) fun p e R s m args below meth c Q ls hR hx hb hml ht hown hK hZ hH hl hend hthr hpas => ?_
  have hS : va_S (zA B 80) s.heap s.heap [] := va_S.rf
  have hown : s.vm.findClass "WholeDesk" = some m.cls := hown
  have hl : lv_has ls 5 [(0, .ref (B)), (1, .int (iZ (a))), (2, .int (iZ (b))), (3, .int (iZ (to))), (4, .int (iZ (how)))] := hl
  obtain ⟨hok, v0, an0, sp0, hZ, hA0, hr⟩ := hZ
  dsimp only at hZ hr
  have fr : ∀ j, j < 22 → v0 j = v0 j := fun j _ => rfl
  refine lv_iload_n hx hb dS_combine_0 rfl (lv_at hl 1 rfl) ?_
  refine zxS_v (P' := fun (u : Unit) H => zD E B v0 (zF E B an0 sp0 ct f st g) H) (BX := fun (C : String) (u : Unit) (H : Heap) => C = "java/lang/IllegalArgumentException" ∧ zD E B v0 (zF E B an0 sp0 ct f st g) H) 1 (As := [.int (iZ (a))]) (rest := []) ⟨hx, hb, hml, hown, ht⟩ (mS_testRegister l hl0 E B v0 (zF E B an0 sp0 ct f st g) (a) (hz_a)) tw_246 tw_244 tw_245 tw_1 qS_testRegister (by rw [hR]; decide) hZ hK hH hl.1 rfl rfl (Nat.le_of_ble_eq_true rfl) dS_combine_1 (by rw [hR]; decide) hS (fun C ce q9 u H locs hp hZ hS hce hcv hcl => hpas C ce q9 _ (1, (rg, ct, f, st, g)) H locs _ _ _ _ (by decide) (⟨Or.inl ⟨rfl, fun h9 => hp (by first | exact h9 | exact h9.1 | exact h9.2.1 | exact h9.2.2.1 | exact h9.2.2.2.1 | exact h9.2.2.2 | exact h9.2.2 | exact h9.2), rfl⟩, by show 1 ≠ 0; decide⟩) (⟨hZ.1, ⟨hok, v0, an0, sp0, hZ.2, hA0, zR_same fr hr⟩⟩) hS hce hcv hcl) (fun u H locs hp hZ _ hS => ?_)
  obtain ⟨na, rfl⟩ : ∃ n : Nat, a = (n : Int) := ⟨a.toNat, by have := hp.1; omega⟩
  have hk_na : rok ↑na := hp
  have h10_na : na < 10 := by have := hp.2; omega
  refine lv_iload_n hx hb dS_combine_4 rfl (lv_at hl 2 rfl) ?_
  refine zxS_v (P' := fun (u : Unit) H => zD E B v0 (zF E B an0 sp0 ct f st g) H) (BX := fun (C : String) (u : Unit) (H : Heap) => C = "java/lang/IllegalArgumentException" ∧ zD E B v0 (zF E B an0 sp0 ct f st g) H) 1 (As := [.int (iZ (b))]) (rest := []) ⟨hx, hb, hml, hown, ht⟩ (mS_testRegister l hl0 E B v0 (zF E B an0 sp0 ct f st g) (b) (hz_b)) tw_246 tw_244 tw_245 tw_1 qS_testRegister (by rw [hR]; decide) hZ hK hH hl.1 rfl rfl (Nat.le_of_ble_eq_true rfl) dS_combine_5 (by rw [hR]; decide) hS (fun C ce q9 u H locs hp hZ hS hce hcv hcl => hpas C ce q9 _ (1, (rg, ct, f, st, g)) H locs _ _ _ _ (by decide) (⟨Or.inl ⟨rfl, fun h9 => hp (by first | exact h9 | exact h9.1 | exact h9.2.1 | exact h9.2.2.1 | exact h9.2.2.2.1 | exact h9.2.2.2 | exact h9.2.2 | exact h9.2), rfl⟩, by show 1 ≠ 0; decide⟩) (⟨hZ.1, ⟨hok, v0, an0, sp0, hZ.2, hA0, zR_same fr hr⟩⟩) hS hce hcv hcl) (fun u H locs hp hZ _ hS => ?_)
  obtain ⟨nb, rfl⟩ : ∃ n : Nat, b = (n : Int) := ⟨b.toNat, by have := hp.1; omega⟩
  have hk_nb : rok ↑nb := hp
  have h10_nb : nb < 10 := by have := hp.2; omega
  refine lv_iload_n hx hb dS_combine_8 rfl (lv_at hl 3 rfl) ?_
  refine zxS_v (P' := fun (u : Unit) H => zD E B v0 (zF E B an0 sp0 ct f st g) H) (BX := fun (C : String) (u : Unit) (H : Heap) => C = "java/lang/IllegalArgumentException" ∧ zD E B v0 (zF E B an0 sp0 ct f st g) H) 1 (As := [.int (iZ (to))]) (rest := []) ⟨hx, hb, hml, hown, ht⟩ (mS_testRegister l hl0 E B v0 (zF E B an0 sp0 ct f st g) (to) (hz_to)) tw_246 tw_244 tw_245 tw_1 qS_testRegister (by rw [hR]; decide) hZ hK hH hl.1 rfl rfl (Nat.le_of_ble_eq_true rfl) dS_combine_9 (by rw [hR]; decide) hS (fun C ce q9 u H locs hp hZ hS hce hcv hcl => hpas C ce q9 _ (1, (rg, ct, f, st, g)) H locs _ _ _ _ (by decide) (⟨Or.inl ⟨rfl, fun h9 => hp (by first | exact h9 | exact h9.1 | exact h9.2.1 | exact h9.2.2.1 | exact h9.2.2.2.1 | exact h9.2.2.2 | exact h9.2.2 | exact h9.2), rfl⟩, by show 1 ≠ 0; decide⟩) (⟨hZ.1, ⟨hok, v0, an0, sp0, hZ.2, hA0, zR_same fr hr⟩⟩) hS hce hcv hcl) (fun u H locs hp hZ _ hS => ?_)
  obtain ⟨nto, rfl⟩ : ∃ n : Nat, to = (n : Int) := ⟨to.toNat, by have := hp.1; omega⟩
  have hk_nto : rok ↑nto := hp
  have h10_nto : nto < 10 := by have := hp.2; omega
  refine lv_iload hx hb dS_combine_12 (lv_at hl 4 rfl) ?_
  refine zr_if_lt (tgt := 23) hx hb (hz_how) dS_combine_14 (by decide) (fun c_1 => ?_) (fun c_1 => ?_)
  · exact hthr _ _ _ _ _ _ 23 (1, (rg, ct, f, st, g)) _ _ _ _ _ _ zs_S_combine_23 hown dS_combine_23 dS_combine_26 dS_combine_27 dS_combine_29 dS_combine_32 hl.1 (by rw [hR]; decide) (by decide) (⟨Or.inl ⟨rfl, fun h9 => by have h8 := h9.2.2.2; omega, rfl⟩, by show 1 ≠ 0; decide⟩) (⟨rfl, ⟨hok, v0, an0, sp0, hZ, hA0, zR_same fr hr⟩⟩) hS
  · refine lv_iload hx hb dS_combine_17 (lv_at hl 4 rfl) ?_
    refine lv_iconst (v := iZ (3)) hx hb dS_combine_19 (by decide) ?_
    refine zr_icmp_le (tgt := 33) hx hb hz_how (by unfold zi; omega) dS_combine_20 (by decide) (fun c_2 => ?_) (fun c_2 => ?_)
    · have h0h : 0 ≤ how := by omega
      have h3h : how ≤ 3 := by omega
      obtain ⟨nh, rfl⟩ : ∃ q : Nat, how = (q : Int) := ⟨how.toNat, by omega⟩
      refine lv_aload_n hx hb dS_combine_33 rfl (lv_at hl 0 rfl) ?_
      refine lv_aload_n hx hb dS_combine_34 rfl (lv_at hl 0 rfl) ?_
      refine zs_reckoner hx hb ht hown hK hZ tw_128 dS_combine_35 ?_
      refine lv_aload_n hx hb dS_combine_38 rfl (lv_at hl 0 rfl) ?_
      refine zs_registers hx hb ht hown hK hZ tw_127 dS_combine_39 ?_
      refine lv_iload_n hx hb dS_combine_42 rfl (lv_at hl 1 rfl) ?_
      refine zs_reg (i := na) hx hb hK hZ h10_na dS_combine_43 ?_
      have hN_na : zN (v0 (2 + 2 * na)) (rg na) := zR_same fr hr na h10_na
      have hX_na : zX (rg na) := hok.1 na h10_na
      refine lv_aload_n hx hb dS_combine_44 rfl (lv_at hl 0 rfl) ?_
      refine zs_registers hx hb ht hown hK hZ tw_127 dS_combine_45 ?_
      refine lv_iload_n hx hb dS_combine_48 rfl (lv_at hl 2 rfl) ?_
      refine zs_reg (i := nb) hx hb hK hZ h10_nb dS_combine_49 ?_
      have hN_nb : zN (v0 (2 + 2 * nb)) (rg nb) := zR_same fr hr nb h10_nb
      have hX_nb : zX (rg nb) := hok.1 nb h10_nb
      refine lv_iload hx hb dS_combine_50 (lv_at hl 4 rfl) ?_
      refine zcV_r (P' := fun (u : (Nat → zV) × Nat × Nat × Nat) a H => a = B + u.2.2.2 ∧ zD E B u.1 (zo E B (zd E B (zg E B (zs E B) st g) ct f) u.2.1 u.2.2.1) H) 3 (As := [.ref (B + (2 + 2 * na)), .ref (B + (2 + 2 * nb)), .int (iZ (↑nh))]) (rest := [.ref (B)]) rfl ⟨hx, hb, hml, hown, ht⟩ (mK_combined l E B v0 (zd E B (zg E B (zs E B) st g) ct f) an0 sp0 hA0 (2 + 2 * na) (lp_reg h10_na) (rg na) hN_na hX_na (2 + 2 * nb) (lp_reg h10_nb) (rg nb) hN_nb hX_nb nh (by omega) (by omega) (by omega)) tw_556 tw_553 tw_554 tw_555 tw_3 qK_combined (by rw [hR]; decide) (zK_recv hK hZ) hZ hK hl.1 rfl rfl (Nat.le_of_ble_eq_true rfl) dS_combine_52 (by rw [hR]; decide) hS (fun u r9 H locs hp hZ _ hS => ?_)
      obtain ⟨v, a9, s9, o9⟩ := u
      obtain ⟨er9, hZ⟩ := hZ
      obtain ⟨ho, ⟨e8, e9⟩, e7, zc, hN9, hbits⟩ := hp
      dsimp only at *
      rw [e7] at er9
      subst er9
      have fr : ∀ j, j < 22 → v j = v0 j := fun j hj => (ho j ((swp_ne hA0 (by omega) (by omega)).1) ((swp_ne hA0 (by omega) (by omega)).2)).trans (fr j hj)
      rw [e8, e9] at hZ
      have hZ : zD E B v (zF E B an0 sp0 ct f st g) H := by exact hZ
      refine lv_iload_n hx hb dS_combine_55 rfl (lv_at hl 3 rfl) ?_
      refine zxV_v (P' := fun (u : Nat → zV) H => zD E B u (zF E B an0 sp0 ct f st g) H) (BX := fun (C : String) (u : Unit) (H : Heap) => C = "java/lang/ArithmeticException" ∧ zD E B v (zF E B an0 sp0 ct f st g) H) 2 (As := [.ref (B + an0), .int (iZ (↑nto))]) (rest := []) rfl ⟨hx, hb, hml, hown, ht⟩ (mS_keep l hl0 E B v an0 sp0 ct f st g an0 (swp_lp hA0 (by decide) (by decide)).1 (zc) hN9 nto h10_nto (Ne.symm (swp_ne hA0 (by omega) (by omega)).1)) tw_314 tw_311 tw_313 tp_4 tw_1 qS_keep (by rw [hR]; decide) (zs_recv hK hZ) hZ hK hH hl.1 rfl rfl (Nat.le_of_ble_eq_true rfl) dS_combine_56 (by rw [hR]; decide) hS (fun C ce q9 u H locs hp hZ hS hce hcv hcl => hpas C ce q9 _ (3, (rg, ct, f, st, g)) H locs _ _ _ _ (by decide) (⟨Or.inr (Or.inr (Or.inl ⟨rfl, by repeat (first | assumption | constructor), ⟨zc, hbits, hp⟩, rfl⟩)), by show 3 ≠ 0; decide⟩) (⟨hZ.1, ⟨hok, v, an0, sp0, hZ.2, hA0, zR_same fr hr⟩⟩) hS hce hcv hcl) (fun v H locs hp hZ _ hS => ?_)
      obtain ⟨ho, hNk, hXk⟩ := hp
      have hQ9 : zR10 v (va_up rg nto (zc)) := zR_up fr hr ho hNk
      have hok9 : okS (va_up rg nto (zc), ct, f, st, g) := okS_up hok hXk
      exact hend 59 (va_up rg nto (zc), ct, f, st, g) _ _ _ _ _ (by decide) dS_combine_59 (Or.inr (Or.inr (Or.inr ⟨rfl, by repeat (first | assumption | constructor), zc, hbits, hXk, rfl⟩))) (⟨hok9, v, an0, sp0, hZ, hA0, hQ9⟩) hS
    · exact hthr _ _ _ _ _ _ 23 (1, (rg, ct, f, st, g)) _ _ _ _ _ _ zs_S_combine_23 hown dS_combine_23 dS_combine_26 dS_combine_27 dS_combine_29 dS_combine_32 hl.1 (by rw [hR]; decide) (by decide) (⟨Or.inl ⟨rfl, fun h9 => by have h8 := h9.2.2.2; omega, rfl⟩, by show 1 ≠ 0; decide⟩) (⟨rfl, ⟨hok, v0, an0, sp0, hZ, hA0, zR_same fr hr⟩⟩) hS

set_option maxHeartbeats 4000000 in
set_option maxRecDepth 100000 in
theorem mS_shift (l : Launch) (hl0 : l.stackTraces = false) (E : zE) (B : Nat) (rg : Nat → Int) (ct : Nat) (f : Nat → Nat) (st : Nat) (g : Nat → Nat) (a : Int) (hz_a : zi a) (n : Int) (hz_n : zi n) (to : Int) (hz_to : zi to) :
    vx_Met l yS_shift (zws yS_shift cS_shift 5 none) { frames := 7, cells := 8, slots := 48, locals := 140 } (zPx E (zA B 80) (zQ E B (rg, ct, f, st, g)) [.ref (B), .int (iZ (a)), .int (iZ (n)), .int (iZ (to))]) (va_Qv (fun (u : zS) => SP (rok a ∧ rok to) (False) (¬ zX (shz (rg a.toNat) n)) (fun τ => zX (shz (rg a.toNat) n) ∧ τ = (va_up rg to.toNat (shz (rg a.toNat) n), ct, f, st, g)) (rg, ct, f, st, g) 0 u) (fun u t => zQ E B u t.heap ∧ zK E t) (zA B 80)) (vx_X (fun u : Nat × zS => SP (rok a ∧ rok to) (False) (¬ zX (shz (rg a.toNat) n)) (fun τ => zX (shz (rg a.toNat) n) ∧ τ = (va_up rg to.toNat (shz (rg a.toNat) n), ct, f, st, g)) (rg, ct, f, st, g) u.1 u.2 ∧ u.1 ≠ 0) (fun C u t => (fun (C : String) (u : Nat × zS) (H : Heap) => C = zcl u.1 ∧ zQ E B u.2 H) C u t.heap ∧ zK E t) (zA B 80)) 8 48 (zA B 80) := by
  refine zox_v (P' := fun (u : zS) H => zQ E B u H) (BX := fun (C : String) (u : Nat × zS) (H : Heap) => C = zcl u.1 ∧ zQ E B u.2 H) hl0 (fun C u H H1 _ hq h => ⟨h.1, zQ_grow hq h.2⟩) (by decide) (Nat.le_of_ble_eq_true rfl) fun p e R s m args below meth c Q ls hR hx hb hml ht hown hK hZ hH hl hend hthr hpas => ?_
  have hS : va_S (zA B 80) s.heap s.heap [] := va_S.rf
  have hown : s.vm.findClass "WholeDesk" = some m.cls := hown
  have hl : lv_has ls 5 [(0, .ref (B)), (1, .int (iZ (a))), (2, .int (iZ (n))), (3, .int (iZ (to)))] := hl
  obtain ⟨hok, v0, an0, sp0, hZ, hA0, hr⟩ := hZ
  dsimp only at hZ hr
  have fr : ∀ j, j < 22 → v0 j = v0 j := fun j _ => rfl
  refine lv_iload_n hx hb dS_shift_0 rfl (lv_at hl 1 rfl) ?_
  refine zxS_v (P' := fun (u : Unit) H => zD E B v0 (zF E B an0 sp0 ct f st g) H) (BX := fun (C : String) (u : Unit) (H : Heap) => C = "java/lang/IllegalArgumentException" ∧ zD E B v0 (zF E B an0 sp0 ct f st g) H) 1 (As := [.int (iZ (a))]) (rest := []) ⟨hx, hb, hml, hown, ht⟩ (mS_testRegister l hl0 E B v0 (zF E B an0 sp0 ct f st g) (a) (hz_a)) tw_246 tw_244 tw_245 tw_1 qS_testRegister (by rw [hR]; decide) hZ hK hH hl.1 rfl rfl (Nat.le_of_ble_eq_true rfl) dS_shift_1 (by rw [hR]; decide) hS (fun C ce q9 u H locs hp hZ hS hce hcv hcl => hpas C ce q9 _ (1, (rg, ct, f, st, g)) H locs _ _ _ _ (by decide) (⟨Or.inl ⟨rfl, fun h9 => hp (by first | exact h9 | exact h9.1 | exact h9.2.1 | exact h9.2.2.1 | exact h9.2.2.2.1 | exact h9.2.2.2 | exact h9.2.2 | exact h9.2), rfl⟩, by show 1 ≠ 0; decide⟩) (⟨hZ.1, ⟨hok, v0, an0, sp0, hZ.2, hA0, zR_same fr hr⟩⟩) hS hce hcv hcl) (fun u H locs hp hZ _ hS => ?_)
  obtain ⟨na, rfl⟩ : ∃ n : Nat, a = (n : Int) := ⟨a.toNat, by have := hp.1; omega⟩
  have hk_na : rok ↑na := hp
  have h10_na : na < 10 := by have := hp.2; omega
  refine lv_iload_n hx hb dS_shift_4 rfl (lv_at hl 3 rfl) ?_
  refine zxS_v (P' := fun (u : Unit) H => zD E B v0 (zF E B an0 sp0 ct f st g) H) (BX := fun (C : String) (u : Unit) (H : Heap) => C = "java/lang/IllegalArgumentException" ∧ zD E B v0 (zF E B an0 sp0 ct f st g) H) 1 (As := [.int (iZ (to))]) (rest := []) ⟨hx, hb, hml, hown, ht⟩ (mS_testRegister l hl0 E B v0 (zF E B an0 sp0 ct f st g) (to) (hz_to)) tw_246 tw_244 tw_245 tw_1 qS_testRegister (by rw [hR]; decide) hZ hK hH hl.1 rfl rfl (Nat.le_of_ble_eq_true rfl) dS_shift_5 (by rw [hR]; decide) hS (fun C ce q9 u H locs hp hZ hS hce hcv hcl => hpas C ce q9 _ (1, (rg, ct, f, st, g)) H locs _ _ _ _ (by decide) (⟨Or.inl ⟨rfl, fun h9 => hp (by first | exact h9 | exact h9.1 | exact h9.2.1 | exact h9.2.2.1 | exact h9.2.2.2.1 | exact h9.2.2.2 | exact h9.2.2 | exact h9.2), rfl⟩, by show 1 ≠ 0; decide⟩) (⟨hZ.1, ⟨hok, v0, an0, sp0, hZ.2, hA0, zR_same fr hr⟩⟩) hS hce hcv hcl) (fun u H locs hp hZ _ hS => ?_)
  obtain ⟨nto, rfl⟩ : ∃ n : Nat, to = (n : Int) := ⟨to.toNat, by have := hp.1; omega⟩
  have hk_nto : rok ↑nto := hp
  have h10_nto : nto < 10 := by have := hp.2; omega
  refine lv_aload_n hx hb dS_shift_8 rfl (lv_at hl 0 rfl) ?_
  refine zs_registers hx hb ht hown hK hZ tw_127 dS_shift_9 ?_
  refine lv_iload_n hx hb dS_shift_12 rfl (lv_at hl 1 rfl) ?_
  refine zs_reg (i := na) hx hb hK hZ h10_na dS_shift_13 ?_
  have hN_na : zN (v0 (2 + 2 * na)) (rg na) := zR_same fr hr na h10_na
  have hX_na : zX (rg na) := hok.1 na h10_na
  refine lv_astore (lv' := [(4, .ref (B + (2 + 2 * na))), (0, .ref (B)), (1, .int (iZ (↑na))), (2, .int (iZ (n))), (3, .int (iZ (↑nto)))]) hx hb dS_shift_14 hl (by decide) rfl (fun ls hl => ?_)
  have J54 : ∀ (H : Heap) (locs : List Loc) (ls : Array Slot), (0 < n → rg na ≠ 0 → n ≤ 2048) → zD E B v0 (zF E B an0 sp0 ct f st g) H → va_S (zA B 80) s.heap H locs → lv_has ls 5 [(0, .ref (B)), (2, .int (iZ (n))), (3, .int (iZ (↑nto))), (4, .ref (B + (2 + 2 * na)))] → W p l e R s m args below meth c H locs (0 + 1 + 1) (0 + 6 + 6) Q (F0 m 54 ls []) := by
    intro H locs ls hfit hZ hS hl
    refine lv_aload_n hx hb dS_shift_54 rfl (lv_at hl 0 rfl) ?_
    refine lv_iload_n hx hb dS_shift_55 rfl (lv_at hl 1 rfl) ?_
    refine zr_if_le (tgt := 72) hx hb (hz_n) dS_shift_56 (by decide) (fun c_1 => ?_) (fun c_1 => ?_)
    · obtain ⟨sn, hsn⟩ : ∃ q : Nat, -n = (q : Int) := ⟨(-n).toNat, by omega⟩
      have hzn := hz_n
      unfold zi at hzn
      refine lv_aload_n hx hb dS_shift_72 rfl (lv_at hl 0 rfl) ?_
      refine zs_reckoner hx hb ht hown hK hZ tw_128 dS_shift_73 ?_
      refine lv_aload hx hb dS_shift_76 (lv_at hl 3 rfl) ?_
      refine lv_iload_n hx hb dS_shift_78 rfl (lv_at hl 1 rfl) ?_
      refine zr_i2l hx hb (hz_n) dS_shift_79 ?_
      refine zr_lneg hx hb dS_shift_80 ?_
      rw [hsn]
      refine zcV_r (P' := fun (u : (Nat → zV) × Nat × Nat × Nat) a H => a = B + u.2.2.2 ∧ zD E B u.1 (zo E B (zd E B (zg E B (zs E B) st g) ct f) u.2.1 u.2.2.1) H) 2 (As := [.ref (B + (2 + 2 * na)), .long (lZ (↑sn))]) (rest := [.ref (B)]) rfl ⟨hx, hb, hml, hown, ht⟩ (mK_shiftedDown l E B v0 (zd E B (zg E B (zs E B) st g) ct f) an0 sp0 hA0 (2 + 2 * na) (lp_reg h10_na) (rg na) hN_na hX_na sn (by omega) (by omega)) tw_583 tw_580 tw_581 tw_582 tw_3 qK_shiftedDown (by rw [hR]; decide) (zK_recv hK hZ) hZ hK hl.1 rfl rfl (Nat.le_of_ble_eq_true rfl) dS_shift_81 (by rw [hR]; decide) hS (fun u r9 H locs hp hZ _ hS => ?_)
      obtain ⟨v, a9, s9, o9⟩ := u
      obtain ⟨er9, hZ⟩ := hZ
      obtain ⟨ho, ⟨e8, e9⟩, e7, hN9⟩ := hp
      dsimp only at *
      rw [e7] at er9
      subst er9
      have fr : ∀ j, j < 22 → v j = v0 j := fun j hj => (ho j ((swp_ne hA0 (by omega) (by omega)).1)).trans (fr j hj)
      rw [e8, e9] at hZ
      have hZ : zD E B v (zF E B an0 sp0 ct f st g) H := by exact hZ
      have hsh : shz (rg na) n = rg na / ((2 ^ (min sn 2048) : Nat) : Int) := by unfold shz; rw [if_neg (by omega), hsn]; rfl
      rw [← hsh] at hN9
      refine lv_iload_n hx hb dS_shift_84 rfl (lv_at hl 2 rfl) ?_
      refine zxV_v (P' := fun (u : Nat → zV) H => zD E B u (zF E B an0 sp0 ct f st g) H) (BX := fun (C : String) (u : Unit) (H : Heap) => C = "java/lang/ArithmeticException" ∧ zD E B v (zF E B an0 sp0 ct f st g) H) 2 (As := [.ref (B + an0), .int (iZ (↑nto))]) (rest := []) rfl ⟨hx, hb, hml, hown, ht⟩ (mS_keep l hl0 E B v an0 sp0 ct f st g an0 (swp_lp hA0 (by decide) (by decide)).1 (shz (rg na) n) hN9 nto h10_nto (Ne.symm (swp_ne hA0 (by omega) (by omega)).1)) tw_314 tw_311 tw_313 tp_4 tw_1 qS_keep (by rw [hR]; decide) (zs_recv hK hZ) hZ hK hH hl.1 rfl rfl (Nat.le_of_ble_eq_true rfl) dS_shift_85 (by rw [hR]; decide) hS (fun C ce q9 u H locs hp hZ hS hce hcv hcl => hpas C ce q9 _ (3, (rg, ct, f, st, g)) H locs _ _ _ _ (by decide) (⟨Or.inr (Or.inr (Or.inl ⟨rfl, by repeat (first | assumption | constructor), by first | exact hp | exact Or.inl hp | exact Or.inr hp, rfl⟩)), by show 3 ≠ 0; decide⟩) (⟨hZ.1, ⟨hok, v, an0, sp0, hZ.2, hA0, zR_same fr hr⟩⟩) hS hce hcv hcl) (fun v H locs hp hZ _ hS => ?_)
      obtain ⟨ho, hNk, hXk⟩ := hp
      have hQ9 : zR10 v (va_up rg nto (shz (rg na) n)) := zR_up fr hr ho hNk
      have hok9 : okS (va_up rg nto (shz (rg na) n), ct, f, st, g) := okS_up hok hXk
      exact hend 88 (va_up rg nto (shz (rg na) n), ct, f, st, g) _ _ _ _ _ (by decide) dS_shift_88 (Or.inr (Or.inr (Or.inr ⟨rfl, by repeat (first | assumption | constructor), hXk, rfl⟩))) (⟨hok9, v, an0, sp0, hZ, hA0, hQ9⟩) hS
    · obtain ⟨sn, hsn⟩ : ∃ q : Nat, n = (q : Int) := ⟨n.toNat, by omega⟩
      have hzn := hz_n
      unfold zi at hzn
      refine lv_aload_n hx hb dS_shift_59 rfl (lv_at hl 0 rfl) ?_
      refine zs_reckoner hx hb ht hown hK hZ tw_128 dS_shift_60 ?_
      refine lv_aload hx hb dS_shift_63 (lv_at hl 3 rfl) ?_
      refine lv_iload_n hx hb dS_shift_65 rfl (lv_at hl 1 rfl) ?_
      rw [hsn]
      refine zcV_r (P' := fun (u : (Nat → zV) × Nat × Nat × Nat) a H => a = B + u.2.2.2 ∧ zD E B u.1 (zo E B (zd E B (zg E B (zs E B) st g) ct f) u.2.1 u.2.2.1) H) 2 (As := [.ref (B + (2 + 2 * na)), .int (iZ (↑sn))]) (rest := [.ref (B)]) rfl ⟨hx, hb, hml, hown, ht⟩ (mK_shiftedUp l E B v0 (zd E B (zg E B (zs E B) st g) ct f) an0 sp0 hA0 (2 + 2 * na) (lp_reg h10_na) (rg na) hN_na hX_na sn (by omega) (fun h9 => by have h8 := hfit (by omega) h9; omega) (by omega)) tw_578 tw_575 tw_576 tw_577 tw_3 qK_shiftedUp (by rw [hR]; decide) (zK_recv hK hZ) hZ hK hl.1 rfl rfl (Nat.le_of_ble_eq_true rfl) dS_shift_66 (by rw [hR]; decide) hS (fun u r9 H locs hp hZ _ hS => ?_)
      obtain ⟨v, a9, s9, o9⟩ := u
      obtain ⟨er9, hZ⟩ := hZ
      obtain ⟨ho, ⟨e8, e9⟩, e7, hN9⟩ := hp
      dsimp only at *
      rw [e7] at er9
      subst er9
      have fr : ∀ j, j < 22 → v j = v0 j := fun j hj => (ho j ((swp_ne hA0 (by omega) (by omega)).1)).trans (fr j hj)
      rw [e8, e9] at hZ
      have hZ : zD E B v (zF E B an0 sp0 ct f st g) H := by exact hZ
      have hsh : shz (rg na) n = rg na * ((2 ^ sn : Nat) : Int) := by unfold shz; rw [if_pos (by omega), hsn]; rfl
      rw [← hsh] at hN9
      refine lv_goto (tgt := 84) hx hb dS_shift_69 (by decide) ?_
      refine lv_iload_n hx hb dS_shift_84 rfl (lv_at hl 2 rfl) ?_
      refine zxV_v (P' := fun (u : Nat → zV) H => zD E B u (zF E B an0 sp0 ct f st g) H) (BX := fun (C : String) (u : Unit) (H : Heap) => C = "java/lang/ArithmeticException" ∧ zD E B v (zF E B an0 sp0 ct f st g) H) 2 (As := [.ref (B + an0), .int (iZ (↑nto))]) (rest := []) rfl ⟨hx, hb, hml, hown, ht⟩ (mS_keep l hl0 E B v an0 sp0 ct f st g an0 (swp_lp hA0 (by decide) (by decide)).1 (shz (rg na) n) hN9 nto h10_nto (Ne.symm (swp_ne hA0 (by omega) (by omega)).1)) tw_314 tw_311 tw_313 tp_4 tw_1 qS_keep (by rw [hR]; decide) (zs_recv hK hZ) hZ hK hH hl.1 rfl rfl (Nat.le_of_ble_eq_true rfl) dS_shift_85 (by rw [hR]; decide) hS (fun C ce q9 u H locs hp hZ hS hce hcv hcl => hpas C ce q9 _ (3, (rg, ct, f, st, g)) H locs _ _ _ _ (by decide) (⟨Or.inr (Or.inr (Or.inl ⟨rfl, by repeat (first | assumption | constructor), by first | exact hp | exact Or.inl hp | exact Or.inr hp, rfl⟩)), by show 3 ≠ 0; decide⟩) (⟨hZ.1, ⟨hok, v, an0, sp0, hZ.2, hA0, zR_same fr hr⟩⟩) hS hce hcv hcl) (fun v H locs hp hZ _ hS => ?_)
      obtain ⟨ho, hNk, hXk⟩ := hp
      have hQ9 : zR10 v (va_up rg nto (shz (rg na) n)) := zR_up fr hr ho hNk
      have hok9 : okS (va_up rg nto (shz (rg na) n), ct, f, st, g) := okS_up hok hXk
      exact hend 88 (va_up rg nto (shz (rg na) n), ct, f, st, g) _ _ _ _ _ (by decide) dS_shift_88 (Or.inr (Or.inr (Or.inr ⟨rfl, by repeat (first | assumption | constructor), hXk, rfl⟩))) (⟨hok9, v, an0, sp0, hZ, hA0, hQ9⟩) hS
  refine lv_iload_n hx hb dS_shift_16 rfl (lv_at hl 3 rfl) ?_
  refine zr_if_le (tgt := 54) hx hb (hz_n) dS_shift_17 (by decide) (fun c_2 => ?_) (fun c_2 => ?_)
  · exact J54 _ _ _ (fun h9 => absurd h9 (by omega)) hZ hS (lv_sub hl [1, 3, 4, 0] rfl)
  · refine lv_aload hx hb dS_shift_20 (lv_at hl 0 rfl) ?_
    refine zw_count (d := (v0 (2 + 2 * na)).1) (n := (v0 (2 + 2 * na)).2.1) (b := (v0 (2 + 2 * na)).2.2) hx hb ht hown hK hZ (lp_reg h10_na) rfl tw_37 dS_shift_22 ?_
    refine zr_if_le (tgt := 54) hx hb (by unfold zi; have := (hZ.2 _ (lp_reg h10_na)).2; omega) dS_shift_25 (by decide) (fun c_3 => ?_) (fun c_3 => ?_)
    · exact J54 _ _ _ (fun _ h9 => absurd ((zN_0 hN_na).mp (by omega)) h9) hZ hS (lv_sub hl [1, 3, 4, 0] rfl)
    · refine lv_aload hx hb dS_shift_28 (lv_at hl 0 rfl) ?_
      refine zcV_i  0 (As := []) (rest := []) rfl ⟨hx, hb, hml, hown, ht⟩ (mW_bits l E B v0 (zF E B an0 sp0 ct f st g) (2 + 2 * na) (lp_reg h10_na) (v0 (2 + 2 * na)).1 (v0 (2 + 2 * na)).2.1 (v0 (2 + 2 * na)).2.2 rfl) tw_318 tw_315 tw_316 tw_317 tw_2 qW_bits (by rw [hR]; decide) (zW_recv hK hZ (lp_reg h10_na)) hZ hK hl.1 rfl rfl (Nat.le_of_ble_eq_true rfl) dS_shift_30 (by rw [hR]; decide) hS (fun r9 v1 H locs hp hZ _ hS => ?_)
      obtain ⟨hv1, q, hr1, hq8, hq9⟩ := hp
      rw [hv1] at hZ
      subst hr1
      clear hv1 v1
      have hbl : bl (rg na).natAbs q := zN_bl (hZ.2 (2 + 2 * na) (lp_reg h10_na)).1 hN_na hq8 hq9
      clear hq8 hq9
      have hbz : q ≤ 4256 := (bl_le hbl).mpr (by rw [zN_abs hN_na]; have h9 := wv_lt (hZ.2 (2 + 2 * na) (lp_reg h10_na)).1 (v0 (2 + 2 * na)).2.1; rw [wP_two] at h9; exact Nat.lt_of_lt_of_le h9 (Nat.pow_le_pow_right (by decide) (by have := (hZ.2 (2 + 2 * na) (lp_reg h10_na)).2; omega)))
      refine zr_i2l hx hb (by unfold zi; omega) dS_shift_33 ?_
      refine lv_iload_n hx hb dS_shift_34 rfl (lv_at hl 3 rfl) ?_
      refine zr_i2l hx hb (hz_n) dS_shift_35 ?_
      refine zr_ladd hx hb dS_shift_36 ?_
      refine lv_ldc2 (v := lZ (2048)) hx hb hown (ht _ tw_452) dS_shift_37 ?_
      refine zr_lcmp_le (tgt := 54) hx hb (by unfold zl; unfold zi at hz_n; omega) (by unfold zl; omega) dS_shift_40 dS_shift_41 (by decide) (fun c_4 => ?_) (fun c_4 => ?_)
      · exact J54 _ _ _ (fun _ _ => by omega) hZ hS (lv_sub hl [1, 3, 4, 0] rfl)
      · exact hthr _ _ _ _ _ _ 44 (3, (rg, ct, f, st, g)) _ _ _ _ _ _ zs_S_shift_44 hown dS_shift_44 dS_shift_47 dS_shift_48 dS_shift_50 dS_shift_53 hl.1 (by rw [hR]; decide) (by decide) (⟨Or.inr (Or.inr (Or.inl ⟨rfl, by repeat (first | assumption | constructor), by show ¬ zX (shz (rg na) n); unfold shz; rw [if_pos (by omega)]; exact shl_big hbl (fun h9 => absurd ((zN_0 hN_na).mpr h9) (by omega)) (by omega), rfl⟩)), by show 3 ≠ 0; decide⟩) (⟨rfl, ⟨hok, v0, an0, sp0, hZ, hA0, zR_same fr hr⟩⟩) hS
