theorem ag1 {w1 w2 : zV} {x y : Int} (h1 : zN w1 x) (h2 : zN w2 y) (hb : w1.2.2 = true) (hb2 : w2.2.2 = false) : cmpZ x y = -1 := by
  have e1 := (zN_neg h1).mp hb
  have e2 := zN_neg h2
  unfold cmpZ
  rw [if_pos]
  rw [hb2] at e2
  have : ¬ y < 0 := fun h => by cases e2.mpr h
  omega
theorem ag2 {w1 w2 : zV} {x y : Int} (h1 : zN w1 x) (h2 : zN w2 y) (hb : w1.2.2 = false) (hb2 : w2.2.2 = true) : cmpZ x y = 1 := by
  have e1 := (zN_neg h2).mp hb2
  have e2 := zN_neg h1
  rw [hb] at e2
  have : ¬ x < 0 := fun h => by cases e2.mpr h
  unfold cmpZ
  rw [if_neg (by omega), if_neg (by omega)]
theorem ag3 {w1 w2 : zV} {x y : Int} (h1 : zN w1 x) (h2 : zN w2 y) (hb : w1.2.2 = true) (hb2 : w2.2.2 = true) : cmpZ (wv w2.1 w2.2.1) (wv w1.1 w1.2.1) = cmpZ x y := by
  have e1 := h1.2.2
  have e2 := h2.2.2
  rw [if_pos hb] at e1
  rw [if_pos hb2] at e2
  unfold cmpZ
  split <;> split <;> (try split) <;> (try split) <;> first | rfl | omega
theorem ag4 {w1 w2 : zV} {x y : Int} (h1 : zN w1 x) (h2 : zN w2 y) (hb : w1.2.2 = false) (hb2 : w2.2.2 = false) : cmpZ (wv w1.1 w1.2.1) (wv w2.1 w2.2.1) = cmpZ x y := by
  have e1 := h1.2.2
  have e2 := h2.2.2
  rw [if_neg (by rw [hb]; decide)] at e1
  rw [if_neg (by rw [hb2]; decide)] at e2
  rw [e1, e2]
set_option maxHeartbeats 4000000 in
set_option maxRecDepth 100000 in
theorem mW_against (l : Launch) (E : zE) (B : Nat) (v0 : Nat → zV) (o : Nat → va_E) (k : Nat) (hk : lp k = true) (d : Nat → Nat) (n : Nat) (b : Bool) (ev : v0 k = (d, n, b)) (j : Nat) (hj : lp j = true) (d2 : Nat → Nat) (n2 : Nat) (b2 : Bool) (ev2 : v0 j = (d2, n2, b2)) (x1 x2 : Int) (hN1 : zN (d, n, b) x1) (hN2 : zN (d2, n2, b2) x2) :
    Met l yW_against (zws yW_against cW_against 2 (some .int)) { frames := 1, cells := 0, slots := 0, locals := 24 } (zPc E (zD E B v0 o) [.ref (B + k), .ref (B + j)]) (va_Qi (fun (r : Int32) (v : Nat → zV) => v = v0 ∧ r = iZ (cmpZ x1 x2)) (fun v t => zD E B v o t.heap ∧ zK E t) (zA B 80)) 0 0 (zA B 80) := by
  refine zof_i (by decide) (Nat.le_of_ble_eq_true rfl) fun p e R s m args below meth c Q ls hR hx hb hml ht hown hK hZ hl hend => ?_
  have hS : va_S (zA B 80) s.heap s.heap [] := va_S.rf
  have hown : s.vm.findClass "WholeDesk$Whole" = some m.cls := hown
  have hl : lv_has ls 2 [(0, .ref (B + k)), (1, .ref (B + j))] := hl
  have hn : n ≤ 152 := by have := (hZ.2 k hk).2; rw [ev] at this; exact this
  have hn2 : n2 ≤ 152 := by have := (hZ.2 j hj).2; rw [ev2] at this; exact this
  refine lv_aload_n hx hb dW_against_0 rfl (lv_at hl 0 rfl) ?_
  refine zw_below hx hb ht hown hK hZ hk ev tw_39 dW_against_1 ?_
  refine lv_aload_n hx hb dW_against_4 rfl (lv_at hl 1 rfl) ?_
  refine zw_below hx hb ht hown hK hZ hj ev2 tw_39 dW_against_5 ?_
  refine zr_icmp_eq (tgt := 24) hx hb (by have := bZ_01 b; omega) (by have := bZ_01 b2; omega) dW_against_8 (by decide) (fun c_1 => ?_) (fun c_1 => ?_)
  · refine lv_aload_n hx hb dW_against_24 rfl (lv_at hl 0 rfl) ?_
    refine zw_below hx hb ht hown hK hZ hk ev tw_39 dW_against_25 ?_
    refine zr_if_eq (tgt := 39) hx hb (by have := bZ_01 b; omega) dW_against_28 (by decide) (fun c_2 => ?_) (fun c_2 => ?_)
    · refine lv_aload_n hx hb dW_against_39 rfl (lv_at hl 0 rfl) ?_
      refine lv_aload_n hx hb dW_against_40 rfl (lv_at hl 1 rfl) ?_
      refine zcV_i 1 (As := [.ref (B + j)]) (rest := []) rfl ⟨hx, hb, hml, hown, ht⟩ (mW_sizeAgainst l E B v0 o k hk d n b ev j hj d2 n2 b2 ev2 hN1.1 hN2.1) tw_378 tw_623 tw_376 tw_377 tw_2 qW_sizeAgainst (by rw [hR]; decide) (zW_recv hK hZ hk) hZ hK hl.1 rfl rfl (Nat.le_of_ble_eq_true rfl) dW_against_41 ⟨Nat.zero_le _, Nat.zero_le _⟩ hS (fun r_3 v1 H locs hp hZ _ hS => ?_)
      obtain ⟨hv1, hr1⟩ := hp
      rw [hv1] at hZ
      subst hr1
      clear hv1 v1
      exact hend 44 (_) v0 _ _ _ dW_against_44 (⟨rfl, congrArg iZ (by have hq1 := bZ_01 b; have hq2 := bZ_01 b2; exact ag4 hN1 hN2 (show b = false from bZ_f.mp (by omega)) (show b2 = false from bZ_f.mp (by omega)))⟩) hZ hS
    · refine lv_aload_n hx hb dW_against_31 rfl (lv_at hl 1 rfl) ?_
      refine lv_aload_n hx hb dW_against_32 rfl (lv_at hl 0 rfl) ?_
      refine zcV_i 1 (As := [.ref (B + k)]) (rest := []) rfl ⟨hx, hb, hml, hown, ht⟩ (mW_sizeAgainst l E B v0 o j hj d2 n2 b2 ev2 k hk d n b ev hN2.1 hN1.1) tw_378 tw_623 tw_376 tw_377 tw_2 qW_sizeAgainst (by rw [hR]; decide) (zW_recv hK hZ hj) hZ hK hl.1 rfl rfl (Nat.le_of_ble_eq_true rfl) dW_against_33 ⟨Nat.zero_le _, Nat.zero_le _⟩ hS (fun r_4 v1 H locs hp hZ _ hS => ?_)
      obtain ⟨hv1, hr1⟩ := hp
      rw [hv1] at hZ
      subst hr1
      clear hv1 v1
      refine lv_goto (tgt := 44) hx hb dW_against_36 (by decide) ?_
      exact hend 44 (_) v0 _ _ _ dW_against_44 (⟨rfl, congrArg iZ (by have hq1 := bZ_01 b; have hq2 := bZ_01 b2; exact ag3 hN1 hN2 (show b = true from bZ_t.mp (by omega)) (show b2 = true from bZ_t.mp (by omega)))⟩) hZ hS
  · refine lv_aload_n hx hb dW_against_11 rfl (lv_at hl 0 rfl) ?_
    refine zw_below hx hb ht hown hK hZ hk ev tw_39 dW_against_12 ?_
    refine zr_if_eq (tgt := 22) hx hb (by have := bZ_01 b; omega) dW_against_15 (by decide) (fun c_5 => ?_) (fun c_5 => ?_)
    · refine lv_iconst (v := iZ (1)) hx hb dW_against_22 (by decide) ?_
      exact hend 23 (_) v0 _ _ _ dW_against_23 (⟨rfl, congrArg iZ (by have hq1 := bZ_01 b; have hq2 := bZ_01 b2; exact (ag2 hN1 hN2 (show b = false from bZ_f.mp (by omega)) (show b2 = true from bZ_t.mp (by omega))).symm)⟩) hZ hS
    · refine lv_iconst (v := iZ (-1)) hx hb dW_against_18 (by decide) ?_
      refine lv_goto (tgt := 23) hx hb dW_against_19 (by decide) ?_
      exact hend 23 (_) v0 _ _ _ dW_against_23 (⟨rfl, congrArg iZ (by have hq1 := bZ_01 b; have hq2 := bZ_01 b2; exact (ag1 hN1 hN2 (show b = true from bZ_t.mp (by omega)) (show b2 = false from bZ_f.mp (by omega))).symm)⟩) hZ hS

theorem ga_step {d d1 d2 d3 : Nat → Nat} {n1 n3 i : Nat} {c : Int} {X : Nat} (hI : wv d1 n1 = X + wv d2 i * wv d3 n3) (h1 : ∀ i, d i < 268435456) (hk : (wv d n1 : Int) + c * wP n1 = wv d1 n1 + (d2 i : Int) * wP i * wv d3 n3) (hb : X + wv d2 (i + 1) * wv d3 n3 < wP n1) : wv d n1 = X + wv d2 (i + 1) * wv d3 n3 := by
  have e : (wv d1 n1 : Int) + (d2 i : Int) * wP i * wv d3 n3 = ((X + wv d2 (i + 1) * wv d3 n3 : Nat) : Int) := by
    rw [hI, wv_s, Nat.add_mul]
    simp only [Int.natCast_add, Int.natCast_mul]
    grind
  rw [e] at hk
  have h2 := wv_lt h1 n1
  have := (no_carry hk (by omega) (by omega) (by omega) (by omega)).2
  omega
theorem ga_bd {d d2 d3 : Nat → Nat} (hd : ∀ i, d i < 268435456) (hd2 : ∀ i, d2 i < 268435456) (hd3 : ∀ i, d3 i < 268435456) {n n1 n2 n3 i : Nat} (hi : i ≤ n2) (hn : max n (n2 + n3) + 1 ≤ n1) : wv d n + wv d2 i * wv d3 n3 < wP n1 := by
  have h1 := Nat.lt_of_lt_of_le (wv_lt hd n) (wP_mono (show n ≤ max n (n2 + n3) by omega))
  have h2 : wv d2 i * wv d3 n3 ≤ wP i * wP n3 := Nat.mul_le_mul (Nat.le_of_lt (wv_lt hd2 i)) (Nat.le_of_lt (wv_lt hd3 n3))
  rw [← wP_add] at h2
  have h3 := Nat.le_trans h2 (wP_mono (show i + n3 ≤ max n (n2 + n3) by omega))
  have h4 := wP_mono hn
  rw [wP_s] at h4
  omega
set_option maxHeartbeats 4000000 in
set_option maxRecDepth 100000 in
theorem mW_gather (l : Launch) (E : zE) (B : Nat) (v0 : Nat → zV) (o : Nat → va_E) (k : Nat) (hk : lp k = true) (d : Nat → Nat) (n : Nat) (b : Bool) (ev : v0 k = (d, n, b)) (j : Nat) (hj : lp j = true) (d2 : Nat → Nat) (n2 : Nat) (b2 : Bool) (ev2 : v0 j = (d2, n2, b2)) (t : Nat) (htt : lp t = true) (d3 : Nat → Nat) (n3 : Nat) (b3 : Bool) (ev3 : v0 t = (d3, n3, b3)) (hjk : j ≠ k) (htk : t ≠ k) (hnn : max n (n2 + n3) + 1 ≤ 152) :
    Met l yW_gather (zws yW_gather cW_gather 4 none) { frames := 2, cells := 0, slots := 0, locals := 68 } (zPc E (zD E B v0 o) [.ref (B + k), .ref (B + j), .ref (B + t)]) (va_Qv (fun v : Nat → zV => (∀ j, j ≠ k → v j = v0 j) ∧ zN (v k) (if b = true then -((wv d n + wv d2 n2 * wv d3 n3 : Nat) : Int) else ((wv d n + wv d2 n2 * wv d3 n3 : Nat) : Int))) (fun v t => zD E B v o t.heap ∧ zK E t) (zA B 80)) 0 0 (zA B 80) := by
  refine zof_v (by decide) (Nat.le_of_ble_eq_true rfl) fun p e R s m args below meth c Q ls hR hx hb hml ht hown hK hZ hl hend => ?_
  have hS : va_S (zA B 80) s.heap s.heap [] := va_S.rf
  have hown : s.vm.findClass "WholeDesk$Whole" = some m.cls := hown
  have hl : lv_has ls 4 [(0, .ref (B + k)), (1, .ref (B + j)), (2, .ref (B + t))] := hl
  have hn : n ≤ 152 := by have := (hZ.2 k hk).2; rw [ev] at this; exact this
  have hd0 : ∀ i, d i < 268435456 := by have := (hZ.2 k hk).1; rw [ev] at this; exact this
  have hn2 : n2 ≤ 152 := by have := (hZ.2 j hj).2; rw [ev2] at this; exact this
  have hd2 : ∀ i, d2 i < 268435456 := by have := (hZ.2 j hj).1; rw [ev2] at this; exact this
  have hn3 : n3 ≤ 152 := by have := (hZ.2 t htt).2; rw [ev3] at this; exact this
  have hd3 : ∀ i, d3 i < 268435456 := by have := (hZ.2 t htt).1; rw [ev3] at this; exact this
  have fr : ∀ j, j ≠ k → v0 j = v0 j := fun j _ => rfl
  refine lv_aload_n hx hb dW_gather_0 rfl (lv_at hl 0 rfl) ?_
  refine lv_aload_n hx hb dW_gather_1 rfl (lv_at hl 0 rfl) ?_
  refine zw_count hx hb ht hown hK hZ hk ev tw_34 dW_gather_2 ?_
  refine lv_aload_n hx hb dW_gather_5 rfl (lv_at hl 1 rfl) ?_
  refine zw_count hx hb ht hown hK hZ hj ev2 tw_34 dW_gather_6 ?_
  refine lv_aload_n hx hb dW_gather_9 rfl (lv_at hl 2 rfl) ?_
  refine zw_count hx hb ht hown hK hZ htt ev3 tw_34 dW_gather_10 ?_
  refine zr_iadd hx hb dW_gather_13 ?_
  refine zr_max hx hb (by rw [hml]; exact hl.1.symm) ht hown tw_308 (by rw [hR]; decide) (by rw [hR]; exact Nat.le_of_ble_eq_true rfl) (Nat.zero_le _) (Nat.zero_le _) (by omega) (by omega) dW_gather_14 ?_
  refine lv_iconst (v := iZ (1)) hx hb dW_gather_17 (by decide) ?_
  refine zr_iadd hx hb dW_gather_18 ?_
  refine zcV_v 1 (As := [.int (iZ ((max (↑n : Int) (↑n2 + ↑n3 : Int)) + 1))]) (rest := []) rfl ⟨hx, hb, hml, hown, ht⟩ (mW_stretch l E B v0 o k hk d n b ev ((max (↑n : Int) (↑n2 + ↑n3 : Int)) + 1) (by omega)) tw_304 tw_301 tw_302 tw_303 tw_2 qW_stretch (by rw [hR]; decide) (zW_recv hK hZ hk) hZ hK hl.1 rfl rfl (Nat.le_of_ble_eq_true rfl) dW_gather_19 ⟨Nat.zero_le _, Nat.zero_le _⟩ hS (fun  v H locs hp hZ _ hS => ?_)
  obtain ⟨ho, d_2, n_1, ev, hn_1, hd_2lo, hd_2hi⟩ := hp
  have ev2 := (ho j hjk).trans ev2
  have ev3 := (ho t htk).trans ev3
  have fr : ∀ j, j ≠ k → v j = v0 j := fun j h0 => (ho j h0).trans (fr j h0)
  have hS0 : wv d_2 n_1 = wv d n := by rw [wv_drop (show n ≤ n_1 by omega) hd_2hi]; exact wv_congr hd_2lo
  have hnS : max n (n2 + n3) + 1 ≤ n_1 := by omega
  refine lv_iconst (v := iZ (0)) hx hb dW_gather_22 (by decide) ?_
  refine lv_istore_n (lv' := [(3, .int (iZ (0))), (0, .ref (B + k)), (1, .ref (B + j)), (2, .ref (B + t))]) hx hb dW_gather_23 rfl hl (by decide) rfl (fun ls hl => ?_)
  have L24 : ∀ (fu : Nat) (i : Nat) (d1 : Nat → Nat) (v : Nat → zV) (H : Heap) (locs : List Loc) (ls : Array Slot), n2 - i < fu → (wv d1 n_1 = wv d n + wv d2 i * wv d3 n3) → (i ≤ n2) → v k = (d1, n_1, b) → v j = (d2, n2, b2) → v t = (d3, n3, b3) → (∀ j, j ≠ k → v j = v0 j) → zD E B v o H → va_S (zA B 80) s.heap H locs → lv_has ls 4 [(0, .ref (B + k)), (1, .ref (B + j)), (2, .ref (B + t)), (3, .int (iZ (↑i)))] → W p l e R s m args below meth c H locs 0 0 Q (F0 m 24 ls []) := by
    intro fu
    induction fu with
    | zero => intro i d1 v H locs ls hm; exact absurd hm (Nat.not_lt_zero _)
    | succ fu ihL24 =>
      intro i d1 v H locs ls hm hI hi ev ev2 ev3 fr hZ hS hl
      refine lv_iload_n hx hb dW_gather_24 rfl (lv_at hl 3 rfl) ?_
      refine lv_aload_n hx hb dW_gather_25 rfl (lv_at hl 1 rfl) ?_
      refine zw_count hx hb ht hown hK hZ hj ev2 tw_34 dW_gather_26 ?_
      refine zr_icmp_ge (tgt := 51) hx hb (by omega) (by omega) dW_gather_29 (by decide) (fun c_3 => ?_) (fun c_3 => ?_)
      · have hin : i = n2 := by omega
        rw [hin] at hI
        refine lv_aload_n hx hb dW_gather_51 rfl (lv_at hl 0 rfl) ?_
        refine zcV_v 0 (As := []) (rest := []) rfl ⟨hx, hb, hml, hown, ht⟩ (mW_trim l E B v o k hk d1 n_1 b ev) tw_295 tw_292 tw_293 tw_294 tw_2 qW_trim (by rw [hR]; decide) (zW_recv hK hZ hk) hZ hK hl.1 rfl rfl (Nat.le_of_ble_eq_true rfl) dW_gather_52 ⟨Nat.zero_le _, Nat.zero_le _⟩ hS (fun  v H locs hp hZ _ hS => ?_)
        obtain ⟨ho, n_4, ev, hn_4le, hn_4z, hn_4nz⟩ := hp
        have ev2 := (ho j hjk).trans ev2
        have ev3 := (ho t htk).trans ev3
        have fr : ∀ j, j ≠ k → v j = v0 j := fun j h0 => (ho j h0).trans (fr j h0)
        exact hend 55 v _ _ _ dW_gather_55 (⟨fr, by
          rw [ev]
          have h9 := zN_trim (b := b) hn_4le hn_4z hn_4nz
          rw [hI] at h9
          exact h9⟩) hZ hS
      · refine lv_aload_n hx hb dW_gather_32 rfl (lv_at hl 0 rfl) ?_
        refine lv_aload_n hx hb dW_gather_33 rfl (lv_at hl 2 rfl) ?_
        refine lv_aload_n hx hb dW_gather_34 rfl (lv_at hl 1 rfl) ?_
        refine zw_limbs hx hb ht hown hK hZ hj ev2 tw_31 dW_gather_35 ?_
        refine lv_iload_n hx hb dW_gather_38 rfl (lv_at hl 3 rfl) ?_
        refine zw_ld hx hb hK hZ hj ev2 (by omega) (by omega) dW_gather_39 ?_
        rw [show (↑i : Int).toNat = i from by omega]
        refine lv_iload_n hx hb dW_gather_40 rfl (lv_at hl 3 rfl) ?_
        refine zcV_l 3 (As := [.ref (B + t), .long (lZ (↑(d2 i))), .int (iZ (↑i))]) (rest := []) rfl ⟨hx, hb, hml, hown, ht⟩ (mW_mix l E B v o k hk d1 n_1 b ev t htt d3 n3 b3 ev3 htk (↑(d2 i)) (⟨by omega, by have := hd2 i; omega⟩) (i) (by omega)) tw_374 tw_424 tw_372 tw_373 tw_2 qW_mix (by rw [hR]; decide) (zW_recv hK hZ hk) hZ hK hl.1 rfl rfl (Nat.le_of_ble_eq_true rfl) dW_gather_41 ⟨Nat.zero_le _, Nat.zero_le _⟩ hS (fun r_7 v H locs hp hZ _ hS => ?_)
        obtain ⟨ho, d_5, k_6, ev, hr1, hk_6I, hk_6lo, hk_6hi⟩ := hp
        subst hr1
        have ev2 := (ho j hjk).trans ev2
        have ev3 := (ho t htk).trans ev3
        have fr : ∀ j, j ≠ k → v j = v0 j := fun j h0 => (ho j h0).trans (fr j h0)
        have hdb : ∀ i, d_5 i < 268435456 := by have := (hZ.2 k hk).1; rw [ev] at this; exact this
        have hk9 := hk_6I
        refine lv_pop2_2 hx hb dW_gather_44 rfl ?_
        refine lv_iinc (v := iZ (↑i + 1)) (lv' := [(3, .int (iZ (↑i + 1))), (0, .ref (B + k)), (1, .ref (B + j)), (2, .ref (B + t))]) hx hb dW_gather_45 hl (k := 3) rfl (iZ_add _ _) (by decide) rfl (fun ls hl => ?_)
        refine lv_goto (tgt := 24) hx hb dW_gather_48 (by decide) ?_
        exact ihL24 (i + 1) d_5 v _ _ _ (by omega) (ga_step hI hdb hk9 (ga_bd hd0 hd2 hd3 (by omega) hnS)) (by omega) ev ev2 ev3 fr hZ hS (lv_sub hl [1, 2, 3, 0] rfl)
  exact L24 _ 0 d_2 v _ _ _ (Nat.lt_succ_self _) (by rw [hS0, wv_0, Nat.zero_mul, Nat.add_zero]) (by omega) ev ev2 ev3 fr hZ hS (lv_sub hl [1, 2, 3, 0] rfl)
