set_option maxHeartbeats 4000000 in
set_option maxRecDepth 100000 in
theorem mK_separate (l : Launch) (E : zE) (B : Nat) (v0 : Nat → zV) (o : Nat → va_E) (an0 sp0 : Nat) (hA0 : (an0 = 27 ∧ sp0 = 29) ∨ (an0 = 29 ∧ sp0 = 27)) (a : Nat) (hla : lp a = true) (x : Int) (hVx : zN (v0 a) x) (b : Nat) (hlb : lp b = true) (y : Int) (hVy : zN (v0 b) y) (ha : a ≠ 23 ∧ a ≠ 25) (hb9 : b ≠ 23 ∧ b ≠ 25) (hy0 : y ≠ 0) (hxb : sm x) :
    Met l yK_separate (zws yK_separate cK_separate 3 none) { frames := 4, cells := 0, slots := 0, locals := 140 } (zPc E (zD E B v0 (zo E B o an0 sp0)) [.ref (B + 22), .ref (B + a), .ref (B + b)]) (va_Qv (fun u : (Nat → zV) × Nat × Nat × Nat => (∀ j, j ≠ 23 → j ≠ 25 → u.1 j = v0 j) ∧ (u.2.1 = an0 ∧ u.2.2.1 = sp0) ∧ zN (u.1 23) (x.tdiv y) ∧ zN (u.1 25) (x.tmod y)) (fun (u : (Nat → zV) × Nat × Nat × Nat) t => zD E B u.1 (zo E B o u.2.1 u.2.2.1) t.heap ∧ zK E t) (zA B 80)) 0 0 (zA B 80) := by
  refine zof_v (P' := fun (u : (Nat → zV) × Nat × Nat × Nat) H => zD E B u.1 (zo E B o u.2.1 u.2.2.1) H) (by decide) (Nat.le_of_ble_eq_true rfl) fun p e R s m args below meth c Q ls hR hx hb hml ht hown hK hZ hl hend => ?_
  have hS : va_S (zA B 80) s.heap s.heap [] := va_S.rf
  have hown : s.vm.findClass "WholeDesk$Reckoner" = some m.cls := hown
  have hl : lv_has ls 3 [(0, .ref (B + 22)), (1, .ref (B + a)), (2, .ref (B + b))] := hl
  have hlan : lp an0 = true := by rw [lp_iff]; omega
  have hlsp : lp sp0 = true := by rw [lp_iff]; omega
  have ne_0_2 : 25 ≠ a := by omega
  have ne_0_3 : 25 ≠ b := by omega
  have ne_1_2 : 23 ≠ a := by omega
  have ne_1_3 : 23 ≠ b := by omega
  have ne_2_0 : a ≠ 25 := by omega
  have ne_2_1 : a ≠ 23 := by omega
  have ne_3_0 : b ≠ 25 := by omega
  have ne_3_1 : b ≠ 23 := by omega
  have fr : ∀ j, j ≠ 23 → j ≠ 25 → v0 j = v0 j := fun j _ _ => rfl
  refine lv_aload_n hx hb dK_separate_0 rfl (lv_at hl 0 rfl) ?_
  refine zk_rest hx hb ht hown hK hZ tw_61 dK_separate_1 ?_
  refine lv_aload_n hx hb dK_separate_4 rfl (lv_at hl 1 rfl) ?_
  refine zcV_v 1 (As := [.ref (B + a)]) (rest := []) rfl ⟨hx, hb, hml, hown, ht⟩ (mW_copy l E B v0 (zo E B o an0 sp0) 25 (by decide) (v0 25).1 (v0 25).2.1 (v0 25).2.2 rfl a hla (v0 a).1 (v0 a).2.1 (v0 a).2.2 rfl ne_2_0) tw_345 tw_368 tw_343 tw_344 tw_2 qW_copy (by rw [hR]; decide) (zW_recv hK hZ (by decide)) hZ hK hl.1 rfl rfl (Nat.le_of_ble_eq_true rfl) dK_separate_5 ⟨Nat.zero_le _, Nat.zero_le _⟩ hS (fun v H locs hp hZ _ hS => ?_)
  obtain ⟨ho, d9, ev9, hd9⟩ := hp
  have hN9 : zN (v 25) (x) := by rw [ev9]; exact zN_copy hVx hd9
  have hVx : zN (v a) (x) := by rw [ho _ ne_2_0]; exact hVx
  have hVy : zN (v b) (y) := by rw [ho _ ne_3_0]; exact hVy
  have fr : ∀ j, j ≠ 23 → j ≠ 25 → v j = v0 j := fun j h0 h1 => (ho j h1).trans (fr j h0 h1)
  have hN25 : zN (v 25) (x) := hN9
  refine lv_aload_n hx hb dK_separate_8 rfl (lv_at hl 0 rfl) ?_
  refine zk_rest hx hb ht hown hK hZ tw_61 dK_separate_9 ?_
  refine lv_aload_n hx hb dK_separate_12 rfl (lv_at hl 2 rfl) ?_
  refine lv_aload_n hx hb dK_separate_13 rfl (lv_at hl 0 rfl) ?_
  refine zk_quotient hx hb ht hown hK hZ tw_59 dK_separate_14 ?_
  refine zcV_v 2 (As := [.ref (B + b), .ref (B + 23)]) (rest := []) rfl ⟨hx, hb, hml, hown, ht⟩ (mW_divideOut l E B v (zo E B o an0 sp0) 25 (by decide) (v 25).1 (v 25).2.1 (v 25).2.2 rfl b hlb (v b).1 (v b).2.1 (v b).2.2 rfl 23 (by decide) (v 23).1 (v 23).2.1 (v 23).2.2 rfl ne_3_0 (by decide) ne_1_3 hN25.1 hN25.2.1 ((zN_len (hZ.2 25 (by decide)).1 hN25).mpr (hxb)) (fun h9 => absurd ((zN_0 hVy).mp h9) (hy0)) hVy.1) tw_415 tw_412 tw_413 tw_414 tw_2 qW_divideOut (by rw [hR]; decide) (zW_recv hK hZ (by decide)) hZ hK hl.1 rfl rfl (Nat.le_of_ble_eq_true rfl) dK_separate_17 ⟨Nat.zero_le _, Nat.zero_le _⟩ hS (fun v H locs hp hZ _ hS => ?_)
  obtain ⟨ho, q9, r9, he9, hr9, hN8, hN9⟩ := hp
  obtain ⟨e8, e9⟩ := zN_div hN25 hVy he9 hr9
  rw [e8] at hN8
  rw [e9, zN_rest hN25] at hN9
  have hVx : zN (v a) (x) := by rw [ho _ ne_2_0 ne_2_1]; exact hVx
  have hVy : zN (v b) (y) := by rw [ho _ ne_3_0 ne_3_1]; exact hVy
  have fr : ∀ j, j ≠ 23 → j ≠ 25 → v j = v0 j := fun j h0 h1 => (ho j h1 h0).trans (fr j h0 h1)
  have hN23 : zN (v 23) ((((x).natAbs / (y).natAbs : Nat) : Int)) := hN8
  have hN25 : zN (v 25) ((x).tmod (y)) := hN9
  refine lv_aload_n hx hb dK_separate_20 rfl (lv_at hl 0 rfl) ?_
  refine zk_quotient hx hb ht hown hK hZ tw_59 dK_separate_21 ?_
  refine lv_aload_n hx hb dK_separate_24 rfl (lv_at hl 1 rfl) ?_
  refine zw_below (d := (v a).1) (n := (v a).2.1) (b := (v a).2.2) hx hb ht hown hK hZ hla rfl tw_38 dK_separate_25 ?_
  refine lv_aload_n hx hb dK_separate_28 rfl (lv_at hl 2 rfl) ?_
  refine zw_below (d := (v b).1) (n := (v b).2.1) (b := (v b).2.2) hx hb ht hown hK hZ hlb rfl tw_38 dK_separate_29 ?_
  refine zr_icmp_eq (tgt := 39) hx hb (by have := bZ_01 (v a).2.2; omega) (by have := bZ_01 (v b).2.2; omega) dK_separate_32 (by decide) (fun c_1 => ?_) (fun c_1 => ?_)
  · refine lv_iconst (v := iZ (0)) hx hb dK_separate_39 (by decide) ?_
    have hob : false = ((v a).2.2 != (v b).2.2) := by rw [bZ_eq.mp c_1]; simp
    have htd := tdiv_zN hVx hVy hob
    have hM_quo : zM (v 23) (v 23).2.1 ((((x).natAbs / (y).natAbs : Nat) : Int)).natAbs (v 23).2.2 := zN_M hN23
    obtain ⟨n_2, hnn_2⟩ : ∃ n9, n9 = (v 23).2.1 := ⟨_, rfl⟩
    obtain ⟨b_3, hbb_3⟩ : ∃ b9, b9 = (v 23).2.2 := ⟨_, rfl⟩
    rw [← hnn_2, ← hbb_3] at hM_quo
    refine W.eq (g2 := F0 m 40 ls (.int (iZ (bZ false)) :: .ref (B + 23) :: [])) rfl ?_
    refine zw_put_below (d := (v 23).1) (n := (v 23).2.1) (b := (v 23).2.2) (b1 := false) hx hb ht hown hK hZ (by decide) rfl hS tw_38 dK_separate_40 (fun v H locs ev ho hZ hS => ?_)
    have hN25 : zN (v 25) ((x).tmod (y)) := by rw [ho _ (by decide)]; exact hN25
    have hVx : zN (v a) (x) := by rw [ho _ ne_2_1]; exact hVx
    have hVy : zN (v b) (y) := by rw [ho _ ne_3_1]; exact hVy
    have fr : ∀ j, j ≠ 23 → j ≠ 25 → v j = v0 j := fun j h0 h1 => (ho j h0).trans (fr j h0 h1)
    have hM_quo : zM (v 23) (n_2) (((((x).natAbs / (y).natAbs : Nat) : Int)).natAbs) (false) := zM_b hM_quo ev
    refine lv_aload_n hx hb dK_separate_43 rfl (lv_at hl 0 rfl) ?_
    refine zk_quotient hx hb ht hown hK hZ tw_59 dK_separate_44 ?_
    refine zcV_v 0 (As := []) (rest := []) rfl ⟨hx, hb, hml, hown, ht⟩ (mW_trim l E B v (zo E B o an0 sp0) 23 (by decide) (v 23).1 (v 23).2.1 (v 23).2.2 rfl) tw_295 tw_384 tw_293 tw_294 tw_2 qW_trim (by rw [hR]; decide) (zW_recv hK hZ (by decide)) hZ hK hl.1 rfl rfl (Nat.le_of_ble_eq_true rfl) dK_separate_47 ⟨Nat.zero_le _, Nat.zero_le _⟩ hS (fun v H locs hp hZ _ hS => ?_)
    obtain ⟨ho, n9, ev9, hle9, hz9, hnz9⟩ := hp
    have hN9 := zM_trim hM_quo ev9 hle9 hz9 hnz9
    have hN25 : zN (v 25) ((x).tmod (y)) := by rw [ho _ (by decide)]; exact hN25
    have hVx : zN (v a) (x) := by rw [ho _ ne_2_1]; exact hVx
    have hVy : zN (v b) (y) := by rw [ho _ ne_3_1]; exact hVy
    have fr : ∀ j, j ≠ 23 → j ≠ 25 → v j = v0 j := fun j h0 h1 => (ho j h0).trans (fr j h0 h1)
    have hN23 : zN (v 23) (x.tdiv y) := (htd) ▸ hN9
    exact hend 50 (v, an0, sp0, 0) _ _ _ dK_separate_50 (⟨fr, ⟨rfl, rfl⟩, hN23, hN25⟩) hZ hS
  · refine lv_iconst (v := iZ (1)) hx hb dK_separate_35 (by decide) ?_
    refine lv_goto (tgt := 40) hx hb dK_separate_36 (by decide) ?_
    have hob : true = ((v a).2.2 != (v b).2.2) := by have h9 := fun h => c_1 (bZ_eq.mpr h); generalize (v a).2.2 = p1 at h9 ⊢; generalize (v b).2.2 = p2 at h9 ⊢; cases p1 <;> cases p2 <;> simp_all
    have htd := tdiv_zN hVx hVy hob
    have hM_quo : zM (v 23) (v 23).2.1 ((((x).natAbs / (y).natAbs : Nat) : Int)).natAbs (v 23).2.2 := zN_M hN23
    obtain ⟨n_4, hnn_4⟩ : ∃ n9, n9 = (v 23).2.1 := ⟨_, rfl⟩
    obtain ⟨b_5, hbb_5⟩ : ∃ b9, b9 = (v 23).2.2 := ⟨_, rfl⟩
    rw [← hnn_4, ← hbb_5] at hM_quo
    refine W.eq (g2 := F0 m 40 ls (.int (iZ (bZ true)) :: .ref (B + 23) :: [])) rfl ?_
    refine zw_put_below (d := (v 23).1) (n := (v 23).2.1) (b := (v 23).2.2) (b1 := true) hx hb ht hown hK hZ (by decide) rfl hS tw_38 dK_separate_40 (fun v H locs ev ho hZ hS => ?_)
    have hN25 : zN (v 25) ((x).tmod (y)) := by rw [ho _ (by decide)]; exact hN25
    have hVx : zN (v a) (x) := by rw [ho _ ne_2_1]; exact hVx
    have hVy : zN (v b) (y) := by rw [ho _ ne_3_1]; exact hVy
    have fr : ∀ j, j ≠ 23 → j ≠ 25 → v j = v0 j := fun j h0 h1 => (ho j h0).trans (fr j h0 h1)
    have hM_quo : zM (v 23) (n_4) (((((x).natAbs / (y).natAbs : Nat) : Int)).natAbs) (true) := zM_b hM_quo ev
    refine lv_aload_n hx hb dK_separate_43 rfl (lv_at hl 0 rfl) ?_
    refine zk_quotient hx hb ht hown hK hZ tw_59 dK_separate_44 ?_
    refine zcV_v 0 (As := []) (rest := []) rfl ⟨hx, hb, hml, hown, ht⟩ (mW_trim l E B v (zo E B o an0 sp0) 23 (by decide) (v 23).1 (v 23).2.1 (v 23).2.2 rfl) tw_295 tw_384 tw_293 tw_294 tw_2 qW_trim (by rw [hR]; decide) (zW_recv hK hZ (by decide)) hZ hK hl.1 rfl rfl (Nat.le_of_ble_eq_true rfl) dK_separate_47 ⟨Nat.zero_le _, Nat.zero_le _⟩ hS (fun v H locs hp hZ _ hS => ?_)
    obtain ⟨ho, n9, ev9, hle9, hz9, hnz9⟩ := hp
    have hN9 := zM_trim hM_quo ev9 hle9 hz9 hnz9
    have hN25 : zN (v 25) ((x).tmod (y)) := by rw [ho _ (by decide)]; exact hN25
    have hVx : zN (v a) (x) := by rw [ho _ ne_2_1]; exact hVx
    have hVy : zN (v b) (y) := by rw [ho _ ne_3_1]; exact hVy
    have fr : ∀ j, j ≠ 23 → j ≠ 25 → v j = v0 j := fun j h0 h1 => (ho j h0).trans (fr j h0 h1)
    have hN23 : zN (v 23) (x.tdiv y) := (htd) ▸ hN9
    exact hend 50 (v, an0, sp0, 0) _ _ _ dK_separate_50 (⟨fr, ⟨rfl, rfl⟩, hN23, hN25⟩) hZ hS

def zsum (x y : Int) (b : Bool) : Int := if b = true then x - y else x + y
theorem sum_1 {x y : Int} {b1 b2 lss ob : Bool} (h1 : b1 = true ↔ x < 0) (h2 : b2 = true ↔ y < 0) (ho : ob = (b2 != lss)) (e : b1 = ob) : (if b1 = true then -((x.natAbs + y.natAbs : Nat) : Int) else ((x.natAbs + y.natAbs : Nat) : Int)) = zsum x y lss := by
  subst e; subst ho
  cases b2 <;> cases lss <;> simp [zsum] at h1 h2 ⊢ <;> omega
theorem sum_2 {x y : Int} {b1 b2 lss ob : Bool} (h1 : b1 = true ↔ x < 0) (h2 : b2 = true ↔ y < 0) (ho : ob = (b2 != lss)) (e : b1 ≠ ob) (hge : y.natAbs ≤ x.natAbs) : (if b1 = true then -((x.natAbs - y.natAbs : Nat) : Int) else ((x.natAbs - y.natAbs : Nat) : Int)) = zsum x y lss := by
  have e1 : b1 = !ob := by cases b1 <;> cases ob <;> simp_all
  subst e1; subst ho
  cases b2 <;> cases lss <;> simp [zsum] at h1 h2 ⊢ <;> omega
theorem sum_3 {x y : Int} {b1 b2 lss ob : Bool} (h1 : b1 = true ↔ x < 0) (h2 : b2 = true ↔ y < 0) (ho : ob = (b2 != lss)) (e : b1 ≠ ob) (hge : x.natAbs < y.natAbs) : (if ob = true then -((((y.natAbs : Nat) : Int) - ((x.natAbs : Nat) : Int)).natAbs : Int) else ((((y.natAbs : Nat) : Int) - ((x.natAbs : Nat) : Int)).natAbs : Int)) = zsum x y lss := by
  have e1 : b1 = !ob := by cases b1 <;> cases ob <;> simp_all
  subst e1; subst ho
  cases b2 <;> cases lss <;> simp [zsum] at h1 h2 ⊢ <;> omega
theorem zN_cnt {w w' : zV} {x : Int} (hd : ∀ i, w.1 i < 268435456) (hd' : ∀ i, w'.1 i < 268435456) (h : zN w x) (h' : zN w' x) : w.2.1 = w'.2.1 := by
  have h1 := (zN_len hd h (k := w'.2.1)).mpr ((zN_len hd' h').mp (Nat.le_refl _))
  have h2 := (zN_len hd' h' (k := w.2.1)).mpr ((zN_len hd h).mp (Nat.le_refl _))
  omega
theorem zX_74 {x : Int} (h : zX x) : x.natAbs < wP 74 := Nat.lt_of_lt_of_le h (by rw [wP_two]; exact Nat.pow_le_pow_right (by decide) (by decide))
theorem sum_room {x y : Int} {w1 w2 : zV} (hd1 : ∀ i, w1.1 i < 268435456) (hd2 : ∀ i, w2.1 i < 268435456) (h1 : zN w1 x) (h2 : zN w2 y) (f : Nat) (hf : f + 1 ≤ 268435456) : x.natAbs + f * y.natAbs < wP (max w1.2.1 w2.2.1 + 1) := by
  have e1 := (zN_len hd1 h1).mp (Nat.le_max_left w1.2.1 w2.2.1)
  have e2 := (zN_len hd2 h2).mp (Nat.le_max_right w1.2.1 w2.2.1)
  rw [wP_s]
  have e3 := Nat.mul_le_mul_left f (Nat.le_of_lt e2)
  have e4 := Nat.mul_le_mul_right (wP (max w1.2.1 w2.2.1)) hf
  rw [Nat.add_mul, Nat.one_mul] at e4
  omega
theorem cmp_zi (a b : Int) : zi (cmpZ a b) := by
  unfold cmpZ zi; split
  · omega
  · split <;> omega
set_option maxHeartbeats 4000000 in
set_option maxRecDepth 100000 in
theorem mK_sum (l : Launch) (E : zE) (B : Nat) (v0 : Nat → zV) (o : Nat → va_E) (an0 sp0 : Nat) (hA0 : (an0 = 27 ∧ sp0 = 29) ∨ (an0 = 29 ∧ sp0 = 27)) (a : Nat) (hla : lp a = true) (x : Int) (hVx : zN (v0 a) x) (hXx : zX x) (b : Nat) (hlb : lp b = true) (y : Int) (hVy : zN (v0 b) y) (hXy : zX y) (lss : Bool) (ha : a ≠ an0) (hb9 : b ≠ an0) :
    Met l yK_sum (zws yK_sum cK_sum 5 (some (.object "WholeDesk$Whole"))) { frames := 3, cells := 0, slots := 0, locals := 92 } (zPc E (zD E B v0 (zo E B o an0 sp0)) [.ref (B + 22), .ref (B + a), .ref (B + b), .int (iZ (bZ lss))]) (va_Qr (fun u : (Nat → zV) × Nat × Nat × Nat => (∀ j, j ≠ an0 → u.1 j = v0 j) ∧ u.2.1 = an0 ∧ u.2.2.1 = sp0 ∧ u.2.2.2 = an0 ∧ zN (u.1 an0) (zsum x y lss)) (fun (u : (Nat → zV) × Nat × Nat × Nat) a t => (a = B + u.2.2.2 ∧ zD E B u.1 (zo E B o u.2.1 u.2.2.1) t.heap) ∧ zK E t) (zA B 80)) 0 0 (zA B 80) := by
  refine zof_r (P' := fun (u : (Nat → zV) × Nat × Nat × Nat) a H => a = B + u.2.2.2 ∧ zD E B u.1 (zo E B o u.2.1 u.2.2.1) H) (by decide) (Nat.le_of_ble_eq_true rfl) fun p e R s m args below meth c Q ls hR hx hb hml ht hown hK hZ hl hend => ?_
  have hS : va_S (zA B 80) s.heap s.heap [] := va_S.rf
  have hown : s.vm.findClass "WholeDesk$Reckoner" = some m.cls := hown
  have hl : lv_has ls 5 [(0, .ref (B + 22)), (1, .ref (B + a)), (2, .ref (B + b)), (3, .int (iZ (bZ lss)))] := hl
  have hlan : lp an0 = true := by rw [lp_iff]; omega
  have hlsp : lp sp0 = true := by rw [lp_iff]; omega
  have ne_0_1 : an0 ≠ a := by omega
  have ne_0_2 : an0 ≠ b := by omega
  have ne_1_0 : a ≠ an0 := by omega
  have ne_2_0 : b ≠ an0 := by omega
  have hca := (zN_len (hZ.2 a hla).1 hVx).mpr (zX_74 hXx)
  have hcb := (zN_len (hZ.2 b hlb).1 hVy).mpr (zX_74 hXy)
  have hsr := sum_room (hZ.2 a hla).1 (hZ.2 b hlb).1 hVx hVy 1 (by decide)
  have hnx := zN_neg hVx
  have hny := zN_neg hVy
  have fr : ∀ j, j ≠ an0 → v0 j = v0 j := fun j _ => rfl
  refine lv_aload_n hx hb dK_sum_0 rfl (lv_at hl 2 rfl) ?_
  refine zw_below (d := (v0 b).1) (n := (v0 b).2.1) (b := (v0 b).2.2) hx hb ht hown hK hZ hlb rfl tw_38 dK_sum_1 ?_
  refine lv_iload_n hx hb dK_sum_4 rfl (lv_at hl 3 rfl) ?_
  refine zr_icmp_eq (tgt := 12) hx hb (by have := bZ_01 (v0 b).2.2; omega) (by have := bZ_01 lss; omega) dK_sum_5 (by decide) (fun c_1 => ?_) (fun c_1 => ?_)
  · refine lv_iconst (v := iZ (0)) hx hb dK_sum_12 (by decide) ?_
    have hob : false = ((v0 b).2.2 != lss) := by rw [bZ_eq.mp c_1]; simp
    refine lv_istore (lv' := [(4, .int (iZ (0))), (0, .ref (B + 22)), (1, .ref (B + a)), (2, .ref (B + b)), (3, .int (iZ (bZ lss)))]) hx hb dK_sum_13 hl (by decide) rfl (fun ls hl => ?_)
    refine lv_aload_n hx hb dK_sum_15 rfl (lv_at hl 1 rfl) ?_
    refine zk_answer hx hb ht hown hK hZ tw_63 dK_sum_16 ?_
    refine lv_aload_n hx hb dK_sum_19 rfl (lv_at hl 2 rfl) ?_
    refine zcV_v 1 (As := [.ref (B + a)]) (rest := []) rfl ⟨hx, hb, hml, hown, ht⟩ (mW_copy l E B v0 (zo E B o an0 sp0) an0 hlan (v0 an0).1 (v0 an0).2.1 (v0 an0).2.2 rfl a hla (v0 a).1 (v0 a).2.1 (v0 a).2.2 rfl ne_1_0) tw_345 tw_368 tw_343 tw_344 tw_2 qW_copy (by rw [hR]; decide) (zW_recv hK hZ hlan) hZ hK hl.1 rfl rfl (Nat.le_of_ble_eq_true rfl) dK_sum_20 ⟨Nat.zero_le _, Nat.zero_le _⟩ hS (fun v H locs hp hZ _ hS => ?_)
    obtain ⟨ho, d9, ev9, hd9⟩ := hp
    have hN9 : zN (v an0) (x) := by rw [ev9]; exact zN_copy hVx hd9
    have hVx : zN (v a) (x) := by rw [ho _ ne_1_0]; exact hVx
    have hVy : zN (v b) (y) := by rw [ho _ ne_2_0]; exact hVy
    have fr : ∀ j, j ≠ an0 → v j = v0 j := fun j h0 => (ho j h0).trans (fr j h0)
    have hNan : zN (v an0) (x) := hN9
    refine lv_aload_n hx hb dK_sum_23 rfl (lv_at hl 2 rfl) ?_
    refine zw_below (d := (v a).1) (n := (v a).2.1) (b := (v a).2.2) hx hb ht hown hK hZ hla rfl tw_38 dK_sum_24 ?_
    refine lv_iload hx hb dK_sum_27 (lv_at hl 0 rfl) ?_
    refine zr_icmp_ne (tgt := 66) hx hb (by have := bZ_01 (v a).2.2; omega) (by omega) dK_sum_29 (by decide) (fun c_2 => ?_) (fun c_2 => ?_)
    · have hca9 : (v an0).2.1 = (v0 a).2.1 := by rw [← fr a ha]; exact zN_cnt (hZ.2 an0 hlan).1 (hZ.2 a hla).1 hNan hVx
      have hba9 : (v an0).2.2 = (v0 a).2.2 := by rw [Bool.eq_iff_iff, zN_neg hNan, hnx]
      have he9 : (v0 a).2.2 ≠ false := by rw [← fr a ha]; intro h9; have := bZ_f.mpr h9; omega
      refine lv_aload_n hx hb dK_sum_66 rfl (lv_at hl 2 rfl) ?_
      refine lv_aload_n hx hb dK_sum_67 rfl (lv_at hl 3 rfl) ?_
      refine zcV_i 1 (As := [.ref (B + b)]) (rest := []) rfl ⟨hx, hb, hml, hown, ht⟩ (mW_sizeAgainst l E B v (zo E B o an0 sp0) a hla (v a).1 (v a).2.1 (v a).2.2 rfl b hlb (v b).1 (v b).2.1 (v b).2.2 rfl hVx.1 hVy.1) tw_378 tw_375 tw_376 tw_377 tw_2 qW_sizeAgainst (by rw [hR]; decide) (zW_recv hK hZ hla) hZ hK hl.1 rfl rfl (Nat.le_of_ble_eq_true rfl) dK_sum_68 ⟨Nat.zero_le _, Nat.zero_le _⟩ hS (fun r_3 v1 H locs hp hZ _ hS => ?_)
      obtain ⟨hv1, hr1⟩ := hp
      rw [hv1] at hZ
      rw [← zN_abs hVx, ← zN_abs hVy] at hr1
      subst hr1
      clear hv1 v1
      refine zr_if_lt (tgt := 90) hx hb (cmp_zi _ _) dK_sum_71 (by decide) (fun c_4 => ?_) (fun c_4 => ?_)
      · have hlt9 : x.natAbs < y.natAbs := by have h9 := cmp_lt9 (by assumption); omega
        refine lv_aload_n hx hb dK_sum_90 rfl (lv_at hl 1 rfl) ?_
        refine zk_answer hx hb ht hown hK hZ tw_63 dK_sum_91 ?_
        refine lv_aload_n hx hb dK_sum_94 rfl (lv_at hl 3 rfl) ?_
        refine zcV_v 1 (As := [.ref (B + b)]) (rest := []) rfl ⟨hx, hb, hml, hown, ht⟩ (mW_becomeLackTo l E B v (zo E B o an0 sp0) an0 hlan (v an0).1 (v an0).2.1 (v an0).2.2 rfl b hlb (v b).1 (v b).2.1 (v b).2.2 rfl ne_2_0 (by rw [← zN_abs hNan, ← zN_abs hVy]; omega)) tw_383 tw_380 tw_381 tw_382 tw_2 qW_becomeLackTo (by rw [hR]; decide) (zW_recv hK hZ hlan) hZ hK hl.1 rfl rfl (Nat.le_of_ble_eq_true rfl) dK_sum_95 ⟨Nat.zero_le _, Nat.zero_le _⟩ hS (fun v H locs hp hZ _ hS => ?_)
        obtain ⟨ho, hN9⟩ := hp
        rw [← zN_abs hVy, ← zN_abs hNan] at hN9
        have hVx : zN (v a) (x) := by rw [ho _ ne_1_0]; exact hVx
        have hVy : zN (v b) (y) := by rw [ho _ ne_2_0]; exact hVy
        have fr : ∀ j, j ≠ an0 → v j = v0 j := fun j h0 => (ho j h0).trans (fr j h0)
        have hNan : zN (v an0) ((((y).natAbs : Nat) : Int) - (((x).natAbs : Nat) : Int)) := hN9
        refine lv_aload_n hx hb dK_sum_98 rfl (lv_at hl 1 rfl) ?_
        refine zk_answer hx hb ht hown hK hZ tw_63 dK_sum_99 ?_
        refine lv_iload hx hb dK_sum_102 (lv_at hl 0 rfl) ?_
        have hM_an : zM (v an0) (v an0).2.1 ((((y).natAbs : Nat) : Int) - (((x).natAbs : Nat) : Int)).natAbs (v an0).2.2 := zN_M hNan
        obtain ⟨n_5, hnn_5⟩ : ∃ n9, n9 = (v an0).2.1 := ⟨_, rfl⟩
        obtain ⟨b_6, hbb_6⟩ : ∃ b9, b9 = (v an0).2.2 := ⟨_, rfl⟩
        rw [← hnn_5, ← hbb_6] at hM_an
        refine W.eq (g2 := F0 m 104 ls (.int (iZ (bZ false)) :: .ref (B + an0) :: [])) rfl ?_
        refine zw_put_below (d := (v an0).1) (n := (v an0).2.1) (b := (v an0).2.2) (b1 := false) hx hb ht hown hK hZ hlan rfl hS tw_38 dK_sum_104 (fun v H locs ev ho hZ hS => ?_)
        have hVx : zN (v a) (x) := by rw [ho _ ne_1_0]; exact hVx
        have hVy : zN (v b) (y) := by rw [ho _ ne_2_0]; exact hVy
        have fr : ∀ j, j ≠ an0 → v j = v0 j := fun j h0 => (ho j h0).trans (fr j h0)
        have hM_an : zM (v an0) (n_5) (((((y).natAbs : Nat) : Int) - (((x).natAbs : Nat) : Int)).natAbs) (false) := zM_b hM_an ev
        refine lv_aload_n hx hb dK_sum_107 rfl (lv_at hl 1 rfl) ?_
        refine zk_answer hx hb ht hown hK hZ tw_63 dK_sum_108 ?_
        refine zcV_v 0 (As := []) (rest := []) rfl ⟨hx, hb, hml, hown, ht⟩ (mW_trim l E B v (zo E B o an0 sp0) an0 hlan (v an0).1 (v an0).2.1 (v an0).2.2 rfl) tw_295 tw_384 tw_293 tw_294 tw_2 qW_trim (by rw [hR]; decide) (zW_recv hK hZ hlan) hZ hK hl.1 rfl rfl (Nat.le_of_ble_eq_true rfl) dK_sum_111 ⟨Nat.zero_le _, Nat.zero_le _⟩ hS (fun v H locs hp hZ _ hS => ?_)
        obtain ⟨ho, n9, ev9, hle9, hz9, hnz9⟩ := hp
        have hN9 := zM_trim hM_an ev9 hle9 hz9 hnz9
        have hVx : zN (v a) (x) := by rw [ho _ ne_1_0]; exact hVx
        have hVy : zN (v b) (y) := by rw [ho _ ne_2_0]; exact hVy
        have fr : ∀ j, j ≠ an0 → v j = v0 j := fun j h0 => (ho j h0).trans (fr j h0)
        have hNan : zN (v an0) (zsum x y lss) := (show (if (false) = true then -(((((((y).natAbs : Nat) : Int) - (((x).natAbs : Nat) : Int)).natAbs : Nat) : Int)) else ((((((y).natAbs : Nat) : Int) - (((x).natAbs : Nat) : Int)).natAbs : Nat) : Int)) = zsum x y lss from by exact sum_3 hnx hny hob he9 hlt9) ▸ hN9
        refine lv_aload_n hx hb dK_sum_114 rfl (lv_at hl 1 rfl) ?_
        refine zk_answer hx hb ht hown hK hZ tw_63 dK_sum_115 ?_
        exact hend 118 (v, an0, sp0, an0) _ _ _ _ dK_sum_118 (⟨fr, rfl, rfl, rfl, hNan⟩) ⟨rfl, hZ⟩ hS
      · have hge9 : y.natAbs ≤ x.natAbs := by have h9 := cmp_ge (Int.not_lt.mpr (by assumption)); omega
        refine lv_aload_n hx hb dK_sum_74 rfl (lv_at hl 1 rfl) ?_
        refine zk_answer hx hb ht hown hK hZ tw_63 dK_sum_75 ?_
        have hlt7 : (v b).2.1 ≤ (v an0).2.1 := (zN_len (hZ.2 b hlb).1 hVy).mpr (Nat.lt_of_le_of_lt hge9 ((zN_len (hZ.2 an0 hlan).1 hNan).mp (Nat.le_refl _)))
        refine lv_aload_n hx hb dK_sum_78 rfl (lv_at hl 3 rfl) ?_
        refine lv_ldc2 (v := lZ (-1)) hx hb hown (ht _ tw_379) dK_sum_79 ?_
        have hM_an : zM (v an0) (v an0).2.1 (x).natAbs (v an0).2.2 := zN_M hNan
        obtain ⟨n_7, hnn_7⟩ : ∃ n9, n9 = (v an0).2.1 := ⟨_, rfl⟩
        obtain ⟨b_8, hbb_8⟩ : ∃ b9, b9 = (v an0).2.2 := ⟨_, rfl⟩
        rw [← hnn_7, ← hbb_8] at hM_an
        have hlt8 : x.natAbs < wP n_7 := by have h9 := (zN_len (hZ.2 an0 hlan).1 hNan).mp (Nat.le_refl _); rw [hM_an.1] at h9; exact h9
        refine lv_iconst (v := iZ (0)) hx hb dK_sum_82 (by decide) ?_
        have hbb9 : b_8 = (v0 a).2.2 := by rw [hbb_8]; exact hba9
        refine zcV_l 3 (As := [.ref (B + b), .long (lZ (-1)), .int (iZ (0))]) (rest := []) rfl ⟨hx, hb, hml, hown, ht⟩ (mW_mix l E B v (zo E B o an0 sp0) an0 hlan (v an0).1 (v an0).2.1 (v an0).2.2 rfl b hlb (v b).1 (v b).2.1 (v b).2.2 rfl ne_2_0 (-1) (by omega) 0 (by have h9 := hM_an.1; rw [Nat.zero_add]; exact hlt7)) tw_374 tw_371 tw_372 tw_373 tw_2 qW_mix (by rw [hR]; decide) (zW_recv hK hZ hlan) hZ hK hl.1 rfl rfl (Nat.le_of_ble_eq_true rfl) dK_sum_83 ⟨Nat.zero_le _, Nat.zero_le _⟩ hS (fun r_9 v H locs hp hZ _ hS => ?_)
        obtain ⟨ho, d9, c9, ev9, hr9, hI9, hc8, hc9⟩ := hp
        have hM9 : zM (v an0) (n_7) (x.natAbs - y.natAbs) (b_8) := zM_mix (y := (y).natAbs) hM_an ev9 (hZ.2 an0 hlan).1 hI9 (zN_abs hVy) (by omega) (Nat.lt_of_le_of_lt (Nat.sub_le _ _) hlt8)
        have hVx : zN (v a) (x) := by rw [ho _ ne_1_0]; exact hVx
        have hVy : zN (v b) (y) := by rw [ho _ ne_2_0]; exact hVy
        have fr : ∀ j, j ≠ an0 → v j = v0 j := fun j h0 => (ho j h0).trans (fr j h0)
        have hM_an : zM (v an0) (n_7) (x.natAbs - y.natAbs) (b_8) := hM9
        refine lv_pop2_2 hx hb dK_sum_86 rfl ?_
        refine lv_goto (tgt := 107) hx hb dK_sum_87 (by decide) ?_
        refine lv_aload_n hx hb dK_sum_107 rfl (lv_at hl 1 rfl) ?_
        refine zk_answer hx hb ht hown hK hZ tw_63 dK_sum_108 ?_
        refine zcV_v 0 (As := []) (rest := []) rfl ⟨hx, hb, hml, hown, ht⟩ (mW_trim l E B v (zo E B o an0 sp0) an0 hlan (v an0).1 (v an0).2.1 (v an0).2.2 rfl) tw_295 tw_384 tw_293 tw_294 tw_2 qW_trim (by rw [hR]; decide) (zW_recv hK hZ hlan) hZ hK hl.1 rfl rfl (Nat.le_of_ble_eq_true rfl) dK_sum_111 ⟨Nat.zero_le _, Nat.zero_le _⟩ hS (fun v H locs hp hZ _ hS => ?_)
        obtain ⟨ho, n9, ev9, hle9, hz9, hnz9⟩ := hp
        have hN9 := zM_trim hM_an ev9 hle9 hz9 hnz9
        have hVx : zN (v a) (x) := by rw [ho _ ne_1_0]; exact hVx
        have hVy : zN (v b) (y) := by rw [ho _ ne_2_0]; exact hVy
        have fr : ∀ j, j ≠ an0 → v j = v0 j := fun j h0 => (ho j h0).trans (fr j h0)
        have hNan : zN (v an0) (zsum x y lss) := (show (if (b_8) = true then -(((x.natAbs - y.natAbs : Nat) : Int)) else ((x.natAbs - y.natAbs : Nat) : Int)) = zsum x y lss from by rw [hbb9]; exact sum_2 hnx hny hob he9 hge9) ▸ hN9
        refine lv_aload_n hx hb dK_sum_114 rfl (lv_at hl 1 rfl) ?_
        refine zk_answer hx hb ht hown hK hZ tw_63 dK_sum_115 ?_
        exact hend 118 (v, an0, sp0, an0) _ _ _ _ dK_sum_118 (⟨fr, rfl, rfl, rfl, hNan⟩) ⟨rfl, hZ⟩ hS
    · have hca9 : (v an0).2.1 = (v0 a).2.1 := by rw [← fr a ha]; exact zN_cnt (hZ.2 an0 hlan).1 (hZ.2 a hla).1 hNan hVx
      have hba9 : (v an0).2.2 = (v0 a).2.2 := by rw [Bool.eq_iff_iff, zN_neg hNan, hnx]
      have he9 : (v0 a).2.2 = false := by rw [← fr a ha]; exact bZ_f.mp (by omega)
      refine lv_aload_n hx hb dK_sum_32 rfl (lv_at hl 1 rfl) ?_
      refine zk_answer hx hb ht hown hK hZ tw_63 dK_sum_33 ?_
      refine lv_aload_n hx hb dK_sum_36 rfl (lv_at hl 2 rfl) ?_
      refine zw_count (d := (v a).1) (n := (v a).2.1) (b := (v a).2.2) hx hb ht hown hK hZ hla rfl tw_33 dK_sum_37 ?_
      refine lv_aload_n hx hb dK_sum_40 rfl (lv_at hl 3 rfl) ?_
      refine zw_count (d := (v b).1) (n := (v b).2.1) (b := (v b).2.2) hx hb ht hown hK hZ hlb rfl tw_33 dK_sum_41 ?_
      refine zr_max hx hb (by rw [hml]; exact hl.1.symm) ht hown tw_369 (by rw [hR]; decide) (by rw [hR]; exact Nat.le_of_ble_eq_true rfl) (Nat.zero_le _) (Nat.zero_le _) (by have := hca; rw [fr a ha]; omega) (by have := hcb; rw [fr b hb9]; omega) dK_sum_44 ?_
      refine lv_iconst (v := iZ (1)) hx hb dK_sum_47 (by decide) ?_
      refine zr_iadd hx hb dK_sum_48 ?_
      have hM_an : zM (v an0) (v an0).2.1 (x).natAbs (v an0).2.2 := zN_M hNan
      obtain ⟨n_10, hnn_10⟩ : ∃ n9, n9 = (v an0).2.1 := ⟨_, rfl⟩
      obtain ⟨b_11, hbb_11⟩ : ∃ b9, b9 = (v an0).2.2 := ⟨_, rfl⟩
      rw [← hnn_10, ← hbb_11] at hM_an
      have hst9 : max (v an0).2.1 (min ((max (↑(v a).2.1 : Int) (↑(v b).2.1 : Int)) + 1 : Int) 152).toNat = max (v0 a).2.1 (v0 b).2.1 + 1 := by rw [fr a ha, fr b hb9, hca9]; omega
      refine zcV_v 1 (As := [.int (iZ ((max (↑(v a).2.1 : Int) (↑(v b).2.1 : Int)) + 1))]) (rest := []) rfl ⟨hx, hb, hml, hown, ht⟩ (mW_stretch l E B v (zo E B o an0 sp0) an0 hlan (v an0).1 (v an0).2.1 (v an0).2.2 rfl ((max (↑(v a).2.1 : Int) (↑(v b).2.1 : Int)) + 1) (by rw [fr a ha, fr b hb9]; unfold zi; omega)) tw_304 tw_370 tw_302 tw_303 tw_2 qW_stretch (by rw [hR]; decide) (zW_recv hK hZ hlan) hZ hK hl.1 rfl rfl (Nat.le_of_ble_eq_true rfl) dK_sum_49 ⟨Nat.zero_le _, Nat.zero_le _⟩ hS (fun v H locs hp hZ _ hS => ?_)
      obtain ⟨ho, d9, n9, ev9, hn9, hlo9, hhi9⟩ := hp
      rw [hst9] at hn9
      have hle9 := hst9 ▸ Nat.le_max_left _ _
      have hM9 := zM_stretch hM_an ev9 (by rw [hn9]; exact hle9) hlo9 hhi9
      rw [hn9] at hM9
      have hVx : zN (v a) (x) := by rw [ho _ ne_1_0]; exact hVx
      have hVy : zN (v b) (y) := by rw [ho _ ne_2_0]; exact hVy
      have fr : ∀ j, j ≠ an0 → v j = v0 j := fun j h0 => (ho j h0).trans (fr j h0)
      have hM_an : zM (v an0) (max (v0 a).2.1 (v0 b).2.1 + 1) ((x).natAbs) (b_11) := hM9
      have hbb9 : b_11 = (v0 a).2.2 := by rw [hbb_11]; exact hba9
      refine lv_aload_n hx hb dK_sum_52 rfl (lv_at hl 1 rfl) ?_
      refine zk_answer hx hb ht hown hK hZ tw_63 dK_sum_53 ?_
      refine lv_aload_n hx hb dK_sum_56 rfl (lv_at hl 3 rfl) ?_
      refine lv_lconst (v := lZ (1)) hx hb dK_sum_57 (by decide) ?_
      refine lv_iconst (v := iZ (0)) hx hb dK_sum_58 (by decide) ?_
      refine zcV_l 3 (As := [.ref (B + b), .long (lZ (1)), .int (iZ (0))]) (rest := []) rfl ⟨hx, hb, hml, hown, ht⟩ (mW_mix l E B v (zo E B o an0 sp0) an0 hlan (v an0).1 (v an0).2.1 (v an0).2.2 rfl b hlb (v b).1 (v b).2.1 (v b).2.2 rfl ne_2_0 (1) (by omega) 0 (by have h9 := hM_an.1; rw [h9, fr b hb9]; omega)) tw_374 tw_371 tw_372 tw_373 tw_2 qW_mix (by rw [hR]; decide) (zW_recv hK hZ hlan) hZ hK hl.1 rfl rfl (Nat.le_of_ble_eq_true rfl) dK_sum_59 ⟨Nat.zero_le _, Nat.zero_le _⟩ hS (fun r_12 v H locs hp hZ _ hS => ?_)
      obtain ⟨ho, d9, c9, ev9, hr9, hI9, hc8, hc9⟩ := hp
      have hM9 : zM (v an0) (max (v0 a).2.1 (v0 b).2.1 + 1) (x.natAbs + y.natAbs) (b_11) := zM_mix (y := (y).natAbs) hM_an ev9 (hZ.2 an0 hlan).1 hI9 (zN_abs hVy) (by omega) (by rw [Nat.one_mul] at hsr; exact hsr)
      have hVx : zN (v a) (x) := by rw [ho _ ne_1_0]; exact hVx
      have hVy : zN (v b) (y) := by rw [ho _ ne_2_0]; exact hVy
      have fr : ∀ j, j ≠ an0 → v j = v0 j := fun j h0 => (ho j h0).trans (fr j h0)
      have hM_an : zM (v an0) (max (v0 a).2.1 (v0 b).2.1 + 1) (x.natAbs + y.natAbs) (b_11) := hM9
      refine lv_pop2_2 hx hb dK_sum_62 rfl ?_
      refine lv_goto (tgt := 107) hx hb dK_sum_63 (by decide) ?_
      refine lv_aload_n hx hb dK_sum_107 rfl (lv_at hl 1 rfl) ?_
      refine zk_answer hx hb ht hown hK hZ tw_63 dK_sum_108 ?_
      refine zcV_v 0 (As := []) (rest := []) rfl ⟨hx, hb, hml, hown, ht⟩ (mW_trim l E B v (zo E B o an0 sp0) an0 hlan (v an0).1 (v an0).2.1 (v an0).2.2 rfl) tw_295 tw_384 tw_293 tw_294 tw_2 qW_trim (by rw [hR]; decide) (zW_recv hK hZ hlan) hZ hK hl.1 rfl rfl (Nat.le_of_ble_eq_true rfl) dK_sum_111 ⟨Nat.zero_le _, Nat.zero_le _⟩ hS (fun v H locs hp hZ _ hS => ?_)
      obtain ⟨ho, n9, ev9, hle9, hz9, hnz9⟩ := hp
      have hN9 := zM_trim hM_an ev9 hle9 hz9 hnz9
      have hVx : zN (v a) (x) := by rw [ho _ ne_1_0]; exact hVx
      have hVy : zN (v b) (y) := by rw [ho _ ne_2_0]; exact hVy
      have fr : ∀ j, j ≠ an0 → v j = v0 j := fun j h0 => (ho j h0).trans (fr j h0)
      have hNan : zN (v an0) (zsum x y lss) := (show (if (b_11) = true then -(((x.natAbs + y.natAbs : Nat) : Int)) else ((x.natAbs + y.natAbs : Nat) : Int)) = zsum x y lss from by rw [hbb9]; exact sum_1 hnx hny hob he9) ▸ hN9
      refine lv_aload_n hx hb dK_sum_114 rfl (lv_at hl 1 rfl) ?_
      refine zk_answer hx hb ht hown hK hZ tw_63 dK_sum_115 ?_
      exact hend 118 (v, an0, sp0, an0) _ _ _ _ dK_sum_118 (⟨fr, rfl, rfl, rfl, hNan⟩) ⟨rfl, hZ⟩ hS
  · refine lv_iconst (v := iZ (1)) hx hb dK_sum_8 (by decide) ?_
    refine lv_goto (tgt := 13) hx hb dK_sum_9 (by decide) ?_
    have hob : true = ((v0 b).2.2 != lss) := by have h9 := fun h => c_1 (bZ_eq.mpr h); generalize (v0 b).2.2 = p1 at h9 ⊢; cases p1 <;> cases lss <;> simp_all
    refine lv_istore (lv' := [(4, .int (iZ (1))), (0, .ref (B + 22)), (1, .ref (B + a)), (2, .ref (B + b)), (3, .int (iZ (bZ lss)))]) hx hb dK_sum_13 hl (by decide) rfl (fun ls hl => ?_)
    refine lv_aload_n hx hb dK_sum_15 rfl (lv_at hl 1 rfl) ?_
    refine zk_answer hx hb ht hown hK hZ tw_63 dK_sum_16 ?_
    refine lv_aload_n hx hb dK_sum_19 rfl (lv_at hl 2 rfl) ?_
    refine zcV_v 1 (As := [.ref (B + a)]) (rest := []) rfl ⟨hx, hb, hml, hown, ht⟩ (mW_copy l E B v0 (zo E B o an0 sp0) an0 hlan (v0 an0).1 (v0 an0).2.1 (v0 an0).2.2 rfl a hla (v0 a).1 (v0 a).2.1 (v0 a).2.2 rfl ne_1_0) tw_345 tw_368 tw_343 tw_344 tw_2 qW_copy (by rw [hR]; decide) (zW_recv hK hZ hlan) hZ hK hl.1 rfl rfl (Nat.le_of_ble_eq_true rfl) dK_sum_20 ⟨Nat.zero_le _, Nat.zero_le _⟩ hS (fun v H locs hp hZ _ hS => ?_)
    obtain ⟨ho, d9, ev9, hd9⟩ := hp
    have hN9 : zN (v an0) (x) := by rw [ev9]; exact zN_copy hVx hd9
    have hVx : zN (v a) (x) := by rw [ho _ ne_1_0]; exact hVx
    have hVy : zN (v b) (y) := by rw [ho _ ne_2_0]; exact hVy
    have fr : ∀ j, j ≠ an0 → v j = v0 j := fun j h0 => (ho j h0).trans (fr j h0)
    have hNan : zN (v an0) (x) := hN9
    refine lv_aload_n hx hb dK_sum_23 rfl (lv_at hl 2 rfl) ?_
    refine zw_below (d := (v a).1) (n := (v a).2.1) (b := (v a).2.2) hx hb ht hown hK hZ hla rfl tw_38 dK_sum_24 ?_
    refine lv_iload hx hb dK_sum_27 (lv_at hl 0 rfl) ?_
    refine zr_icmp_ne (tgt := 66) hx hb (by have := bZ_01 (v a).2.2; omega) (by omega) dK_sum_29 (by decide) (fun c_13 => ?_) (fun c_13 => ?_)
    · have hca9 : (v an0).2.1 = (v0 a).2.1 := by rw [← fr a ha]; exact zN_cnt (hZ.2 an0 hlan).1 (hZ.2 a hla).1 hNan hVx
      have hba9 : (v an0).2.2 = (v0 a).2.2 := by rw [Bool.eq_iff_iff, zN_neg hNan, hnx]
      have he9 : (v0 a).2.2 ≠ true := by rw [← fr a ha]; intro h9; have := bZ_t.mpr h9; omega
      refine lv_aload_n hx hb dK_sum_66 rfl (lv_at hl 2 rfl) ?_
      refine lv_aload_n hx hb dK_sum_67 rfl (lv_at hl 3 rfl) ?_
      refine zcV_i 1 (As := [.ref (B + b)]) (rest := []) rfl ⟨hx, hb, hml, hown, ht⟩ (mW_sizeAgainst l E B v (zo E B o an0 sp0) a hla (v a).1 (v a).2.1 (v a).2.2 rfl b hlb (v b).1 (v b).2.1 (v b).2.2 rfl hVx.1 hVy.1) tw_378 tw_375 tw_376 tw_377 tw_2 qW_sizeAgainst (by rw [hR]; decide) (zW_recv hK hZ hla) hZ hK hl.1 rfl rfl (Nat.le_of_ble_eq_true rfl) dK_sum_68 ⟨Nat.zero_le _, Nat.zero_le _⟩ hS (fun r_14 v1 H locs hp hZ _ hS => ?_)
      obtain ⟨hv1, hr1⟩ := hp
      rw [hv1] at hZ
      rw [← zN_abs hVx, ← zN_abs hVy] at hr1
      subst hr1
      clear hv1 v1
      refine zr_if_lt (tgt := 90) hx hb (cmp_zi _ _) dK_sum_71 (by decide) (fun c_15 => ?_) (fun c_15 => ?_)
      · have hlt9 : x.natAbs < y.natAbs := by have h9 := cmp_lt9 (by assumption); omega
        refine lv_aload_n hx hb dK_sum_90 rfl (lv_at hl 1 rfl) ?_
        refine zk_answer hx hb ht hown hK hZ tw_63 dK_sum_91 ?_
        refine lv_aload_n hx hb dK_sum_94 rfl (lv_at hl 3 rfl) ?_
        refine zcV_v 1 (As := [.ref (B + b)]) (rest := []) rfl ⟨hx, hb, hml, hown, ht⟩ (mW_becomeLackTo l E B v (zo E B o an0 sp0) an0 hlan (v an0).1 (v an0).2.1 (v an0).2.2 rfl b hlb (v b).1 (v b).2.1 (v b).2.2 rfl ne_2_0 (by rw [← zN_abs hNan, ← zN_abs hVy]; omega)) tw_383 tw_380 tw_381 tw_382 tw_2 qW_becomeLackTo (by rw [hR]; decide) (zW_recv hK hZ hlan) hZ hK hl.1 rfl rfl (Nat.le_of_ble_eq_true rfl) dK_sum_95 ⟨Nat.zero_le _, Nat.zero_le _⟩ hS (fun v H locs hp hZ _ hS => ?_)
        obtain ⟨ho, hN9⟩ := hp
        rw [← zN_abs hVy, ← zN_abs hNan] at hN9
        have hVx : zN (v a) (x) := by rw [ho _ ne_1_0]; exact hVx
        have hVy : zN (v b) (y) := by rw [ho _ ne_2_0]; exact hVy
        have fr : ∀ j, j ≠ an0 → v j = v0 j := fun j h0 => (ho j h0).trans (fr j h0)
        have hNan : zN (v an0) ((((y).natAbs : Nat) : Int) - (((x).natAbs : Nat) : Int)) := hN9
        refine lv_aload_n hx hb dK_sum_98 rfl (lv_at hl 1 rfl) ?_
        refine zk_answer hx hb ht hown hK hZ tw_63 dK_sum_99 ?_
        refine lv_iload hx hb dK_sum_102 (lv_at hl 0 rfl) ?_
        have hM_an : zM (v an0) (v an0).2.1 ((((y).natAbs : Nat) : Int) - (((x).natAbs : Nat) : Int)).natAbs (v an0).2.2 := zN_M hNan
        obtain ⟨n_16, hnn_16⟩ : ∃ n9, n9 = (v an0).2.1 := ⟨_, rfl⟩
        obtain ⟨b_17, hbb_17⟩ : ∃ b9, b9 = (v an0).2.2 := ⟨_, rfl⟩
        rw [← hnn_16, ← hbb_17] at hM_an
        refine W.eq (g2 := F0 m 104 ls (.int (iZ (bZ true)) :: .ref (B + an0) :: [])) rfl ?_
        refine zw_put_below (d := (v an0).1) (n := (v an0).2.1) (b := (v an0).2.2) (b1 := true) hx hb ht hown hK hZ hlan rfl hS tw_38 dK_sum_104 (fun v H locs ev ho hZ hS => ?_)
        have hVx : zN (v a) (x) := by rw [ho _ ne_1_0]; exact hVx
        have hVy : zN (v b) (y) := by rw [ho _ ne_2_0]; exact hVy
        have fr : ∀ j, j ≠ an0 → v j = v0 j := fun j h0 => (ho j h0).trans (fr j h0)
        have hM_an : zM (v an0) (n_16) (((((y).natAbs : Nat) : Int) - (((x).natAbs : Nat) : Int)).natAbs) (true) := zM_b hM_an ev
        refine lv_aload_n hx hb dK_sum_107 rfl (lv_at hl 1 rfl) ?_
        refine zk_answer hx hb ht hown hK hZ tw_63 dK_sum_108 ?_
        refine zcV_v 0 (As := []) (rest := []) rfl ⟨hx, hb, hml, hown, ht⟩ (mW_trim l E B v (zo E B o an0 sp0) an0 hlan (v an0).1 (v an0).2.1 (v an0).2.2 rfl) tw_295 tw_384 tw_293 tw_294 tw_2 qW_trim (by rw [hR]; decide) (zW_recv hK hZ hlan) hZ hK hl.1 rfl rfl (Nat.le_of_ble_eq_true rfl) dK_sum_111 ⟨Nat.zero_le _, Nat.zero_le _⟩ hS (fun v H locs hp hZ _ hS => ?_)
        obtain ⟨ho, n9, ev9, hle9, hz9, hnz9⟩ := hp
        have hN9 := zM_trim hM_an ev9 hle9 hz9 hnz9
        have hVx : zN (v a) (x) := by rw [ho _ ne_1_0]; exact hVx
        have hVy : zN (v b) (y) := by rw [ho _ ne_2_0]; exact hVy
        have fr : ∀ j, j ≠ an0 → v j = v0 j := fun j h0 => (ho j h0).trans (fr j h0)
        have hNan : zN (v an0) (zsum x y lss) := (show (if (true) = true then -(((((((y).natAbs : Nat) : Int) - (((x).natAbs : Nat) : Int)).natAbs : Nat) : Int)) else ((((((y).natAbs : Nat) : Int) - (((x).natAbs : Nat) : Int)).natAbs : Nat) : Int)) = zsum x y lss from by exact sum_3 hnx hny hob he9 hlt9) ▸ hN9
        refine lv_aload_n hx hb dK_sum_114 rfl (lv_at hl 1 rfl) ?_
        refine zk_answer hx hb ht hown hK hZ tw_63 dK_sum_115 ?_
        exact hend 118 (v, an0, sp0, an0) _ _ _ _ dK_sum_118 (⟨fr, rfl, rfl, rfl, hNan⟩) ⟨rfl, hZ⟩ hS
      · have hge9 : y.natAbs ≤ x.natAbs := by have h9 := cmp_ge (Int.not_lt.mpr (by assumption)); omega
        refine lv_aload_n hx hb dK_sum_74 rfl (lv_at hl 1 rfl) ?_
        refine zk_answer hx hb ht hown hK hZ tw_63 dK_sum_75 ?_
        have hlt7 : (v b).2.1 ≤ (v an0).2.1 := (zN_len (hZ.2 b hlb).1 hVy).mpr (Nat.lt_of_le_of_lt hge9 ((zN_len (hZ.2 an0 hlan).1 hNan).mp (Nat.le_refl _)))
        refine lv_aload_n hx hb dK_sum_78 rfl (lv_at hl 3 rfl) ?_
        refine lv_ldc2 (v := lZ (-1)) hx hb hown (ht _ tw_379) dK_sum_79 ?_
        have hM_an : zM (v an0) (v an0).2.1 (x).natAbs (v an0).2.2 := zN_M hNan
        obtain ⟨n_18, hnn_18⟩ : ∃ n9, n9 = (v an0).2.1 := ⟨_, rfl⟩
        obtain ⟨b_19, hbb_19⟩ : ∃ b9, b9 = (v an0).2.2 := ⟨_, rfl⟩
        rw [← hnn_18, ← hbb_19] at hM_an
        have hlt8 : x.natAbs < wP n_18 := by have h9 := (zN_len (hZ.2 an0 hlan).1 hNan).mp (Nat.le_refl _); rw [hM_an.1] at h9; exact h9
        refine lv_iconst (v := iZ (0)) hx hb dK_sum_82 (by decide) ?_
        have hbb9 : b_19 = (v0 a).2.2 := by rw [hbb_19]; exact hba9
        refine zcV_l 3 (As := [.ref (B + b), .long (lZ (-1)), .int (iZ (0))]) (rest := []) rfl ⟨hx, hb, hml, hown, ht⟩ (mW_mix l E B v (zo E B o an0 sp0) an0 hlan (v an0).1 (v an0).2.1 (v an0).2.2 rfl b hlb (v b).1 (v b).2.1 (v b).2.2 rfl ne_2_0 (-1) (by omega) 0 (by have h9 := hM_an.1; rw [Nat.zero_add]; exact hlt7)) tw_374 tw_371 tw_372 tw_373 tw_2 qW_mix (by rw [hR]; decide) (zW_recv hK hZ hlan) hZ hK hl.1 rfl rfl (Nat.le_of_ble_eq_true rfl) dK_sum_83 ⟨Nat.zero_le _, Nat.zero_le _⟩ hS (fun r_20 v H locs hp hZ _ hS => ?_)
        obtain ⟨ho, d9, c9, ev9, hr9, hI9, hc8, hc9⟩ := hp
        have hM9 : zM (v an0) (n_18) (x.natAbs - y.natAbs) (b_19) := zM_mix (y := (y).natAbs) hM_an ev9 (hZ.2 an0 hlan).1 hI9 (zN_abs hVy) (by omega) (Nat.lt_of_le_of_lt (Nat.sub_le _ _) hlt8)
        have hVx : zN (v a) (x) := by rw [ho _ ne_1_0]; exact hVx
        have hVy : zN (v b) (y) := by rw [ho _ ne_2_0]; exact hVy
        have fr : ∀ j, j ≠ an0 → v j = v0 j := fun j h0 => (ho j h0).trans (fr j h0)
        have hM_an : zM (v an0) (n_18) (x.natAbs - y.natAbs) (b_19) := hM9
        refine lv_pop2_2 hx hb dK_sum_86 rfl ?_
        refine lv_goto (tgt := 107) hx hb dK_sum_87 (by decide) ?_
        refine lv_aload_n hx hb dK_sum_107 rfl (lv_at hl 1 rfl) ?_
        refine zk_answer hx hb ht hown hK hZ tw_63 dK_sum_108 ?_
        refine zcV_v 0 (As := []) (rest := []) rfl ⟨hx, hb, hml, hown, ht⟩ (mW_trim l E B v (zo E B o an0 sp0) an0 hlan (v an0).1 (v an0).2.1 (v an0).2.2 rfl) tw_295 tw_384 tw_293 tw_294 tw_2 qW_trim (by rw [hR]; decide) (zW_recv hK hZ hlan) hZ hK hl.1 rfl rfl (Nat.le_of_ble_eq_true rfl) dK_sum_111 ⟨Nat.zero_le _, Nat.zero_le _⟩ hS (fun v H locs hp hZ _ hS => ?_)
        obtain ⟨ho, n9, ev9, hle9, hz9, hnz9⟩ := hp
        have hN9 := zM_trim hM_an ev9 hle9 hz9 hnz9
        have hVx : zN (v a) (x) := by rw [ho _ ne_1_0]; exact hVx
        have hVy : zN (v b) (y) := by rw [ho _ ne_2_0]; exact hVy
        have fr : ∀ j, j ≠ an0 → v j = v0 j := fun j h0 => (ho j h0).trans (fr j h0)
        have hNan : zN (v an0) (zsum x y lss) := (show (if (b_19) = true then -(((x.natAbs - y.natAbs : Nat) : Int)) else ((x.natAbs - y.natAbs : Nat) : Int)) = zsum x y lss from by rw [hbb9]; exact sum_2 hnx hny hob he9 hge9) ▸ hN9
        refine lv_aload_n hx hb dK_sum_114 rfl (lv_at hl 1 rfl) ?_
        refine zk_answer hx hb ht hown hK hZ tw_63 dK_sum_115 ?_
        exact hend 118 (v, an0, sp0, an0) _ _ _ _ dK_sum_118 (⟨fr, rfl, rfl, rfl, hNan⟩) ⟨rfl, hZ⟩ hS
    · have hca9 : (v an0).2.1 = (v0 a).2.1 := by rw [← fr a ha]; exact zN_cnt (hZ.2 an0 hlan).1 (hZ.2 a hla).1 hNan hVx
      have hba9 : (v an0).2.2 = (v0 a).2.2 := by rw [Bool.eq_iff_iff, zN_neg hNan, hnx]
      have he9 : (v0 a).2.2 = true := by rw [← fr a ha]; exact bZ_t.mp (by omega)
      refine lv_aload_n hx hb dK_sum_32 rfl (lv_at hl 1 rfl) ?_
      refine zk_answer hx hb ht hown hK hZ tw_63 dK_sum_33 ?_
      refine lv_aload_n hx hb dK_sum_36 rfl (lv_at hl 2 rfl) ?_
      refine zw_count (d := (v a).1) (n := (v a).2.1) (b := (v a).2.2) hx hb ht hown hK hZ hla rfl tw_33 dK_sum_37 ?_
      refine lv_aload_n hx hb dK_sum_40 rfl (lv_at hl 3 rfl) ?_
      refine zw_count (d := (v b).1) (n := (v b).2.1) (b := (v b).2.2) hx hb ht hown hK hZ hlb rfl tw_33 dK_sum_41 ?_
      refine zr_max hx hb (by rw [hml]; exact hl.1.symm) ht hown tw_369 (by rw [hR]; decide) (by rw [hR]; exact Nat.le_of_ble_eq_true rfl) (Nat.zero_le _) (Nat.zero_le _) (by have := hca; rw [fr a ha]; omega) (by have := hcb; rw [fr b hb9]; omega) dK_sum_44 ?_
      refine lv_iconst (v := iZ (1)) hx hb dK_sum_47 (by decide) ?_
      refine zr_iadd hx hb dK_sum_48 ?_
      have hM_an : zM (v an0) (v an0).2.1 (x).natAbs (v an0).2.2 := zN_M hNan
      obtain ⟨n_21, hnn_21⟩ : ∃ n9, n9 = (v an0).2.1 := ⟨_, rfl⟩
      obtain ⟨b_22, hbb_22⟩ : ∃ b9, b9 = (v an0).2.2 := ⟨_, rfl⟩
      rw [← hnn_21, ← hbb_22] at hM_an
      have hst9 : max (v an0).2.1 (min ((max (↑(v a).2.1 : Int) (↑(v b).2.1 : Int)) + 1 : Int) 152).toNat = max (v0 a).2.1 (v0 b).2.1 + 1 := by rw [fr a ha, fr b hb9, hca9]; omega
      refine zcV_v 1 (As := [.int (iZ ((max (↑(v a).2.1 : Int) (↑(v b).2.1 : Int)) + 1))]) (rest := []) rfl ⟨hx, hb, hml, hown, ht⟩ (mW_stretch l E B v (zo E B o an0 sp0) an0 hlan (v an0).1 (v an0).2.1 (v an0).2.2 rfl ((max (↑(v a).2.1 : Int) (↑(v b).2.1 : Int)) + 1) (by rw [fr a ha, fr b hb9]; unfold zi; omega)) tw_304 tw_370 tw_302 tw_303 tw_2 qW_stretch (by rw [hR]; decide) (zW_recv hK hZ hlan) hZ hK hl.1 rfl rfl (Nat.le_of_ble_eq_true rfl) dK_sum_49 ⟨Nat.zero_le _, Nat.zero_le _⟩ hS (fun v H locs hp hZ _ hS => ?_)
      obtain ⟨ho, d9, n9, ev9, hn9, hlo9, hhi9⟩ := hp
      rw [hst9] at hn9
      have hle9 := hst9 ▸ Nat.le_max_left _ _
      have hM9 := zM_stretch hM_an ev9 (by rw [hn9]; exact hle9) hlo9 hhi9
      rw [hn9] at hM9
      have hVx : zN (v a) (x) := by rw [ho _ ne_1_0]; exact hVx
      have hVy : zN (v b) (y) := by rw [ho _ ne_2_0]; exact hVy
      have fr : ∀ j, j ≠ an0 → v j = v0 j := fun j h0 => (ho j h0).trans (fr j h0)
      have hM_an : zM (v an0) (max (v0 a).2.1 (v0 b).2.1 + 1) ((x).natAbs) (b_22) := hM9
      have hbb9 : b_22 = (v0 a).2.2 := by rw [hbb_22]; exact hba9
      refine lv_aload_n hx hb dK_sum_52 rfl (lv_at hl 1 rfl) ?_
      refine zk_answer hx hb ht hown hK hZ tw_63 dK_sum_53 ?_
      refine lv_aload_n hx hb dK_sum_56 rfl (lv_at hl 3 rfl) ?_
      refine lv_lconst (v := lZ (1)) hx hb dK_sum_57 (by decide) ?_
      refine lv_iconst (v := iZ (0)) hx hb dK_sum_58 (by decide) ?_
      refine zcV_l 3 (As := [.ref (B + b), .long (lZ (1)), .int (iZ (0))]) (rest := []) rfl ⟨hx, hb, hml, hown, ht⟩ (mW_mix l E B v (zo E B o an0 sp0) an0 hlan (v an0).1 (v an0).2.1 (v an0).2.2 rfl b hlb (v b).1 (v b).2.1 (v b).2.2 rfl ne_2_0 (1) (by omega) 0 (by have h9 := hM_an.1; rw [h9, fr b hb9]; omega)) tw_374 tw_371 tw_372 tw_373 tw_2 qW_mix (by rw [hR]; decide) (zW_recv hK hZ hlan) hZ hK hl.1 rfl rfl (Nat.le_of_ble_eq_true rfl) dK_sum_59 ⟨Nat.zero_le _, Nat.zero_le _⟩ hS (fun r_23 v H locs hp hZ _ hS => ?_)
      obtain ⟨ho, d9, c9, ev9, hr9, hI9, hc8, hc9⟩ := hp
      have hM9 : zM (v an0) (max (v0 a).2.1 (v0 b).2.1 + 1) (x.natAbs + y.natAbs) (b_22) := zM_mix (y := (y).natAbs) hM_an ev9 (hZ.2 an0 hlan).1 hI9 (zN_abs hVy) (by omega) (by rw [Nat.one_mul] at hsr; exact hsr)
      have hVx : zN (v a) (x) := by rw [ho _ ne_1_0]; exact hVx
      have hVy : zN (v b) (y) := by rw [ho _ ne_2_0]; exact hVy
      have fr : ∀ j, j ≠ an0 → v j = v0 j := fun j h0 => (ho j h0).trans (fr j h0)
      have hM_an : zM (v an0) (max (v0 a).2.1 (v0 b).2.1 + 1) (x.natAbs + y.natAbs) (b_22) := hM9
      refine lv_pop2_2 hx hb dK_sum_62 rfl ?_
      refine lv_goto (tgt := 107) hx hb dK_sum_63 (by decide) ?_
      refine lv_aload_n hx hb dK_sum_107 rfl (lv_at hl 1 rfl) ?_
      refine zk_answer hx hb ht hown hK hZ tw_63 dK_sum_108 ?_
      refine zcV_v 0 (As := []) (rest := []) rfl ⟨hx, hb, hml, hown, ht⟩ (mW_trim l E B v (zo E B o an0 sp0) an0 hlan (v an0).1 (v an0).2.1 (v an0).2.2 rfl) tw_295 tw_384 tw_293 tw_294 tw_2 qW_trim (by rw [hR]; decide) (zW_recv hK hZ hlan) hZ hK hl.1 rfl rfl (Nat.le_of_ble_eq_true rfl) dK_sum_111 ⟨Nat.zero_le _, Nat.zero_le _⟩ hS (fun v H locs hp hZ _ hS => ?_)
      obtain ⟨ho, n9, ev9, hle9, hz9, hnz9⟩ := hp
      have hN9 := zM_trim hM_an ev9 hle9 hz9 hnz9
      have hVx : zN (v a) (x) := by rw [ho _ ne_1_0]; exact hVx
      have hVy : zN (v b) (y) := by rw [ho _ ne_2_0]; exact hVy
      have fr : ∀ j, j ≠ an0 → v j = v0 j := fun j h0 => (ho j h0).trans (fr j h0)
      have hNan : zN (v an0) (zsum x y lss) := (show (if (b_22) = true then -(((x.natAbs + y.natAbs : Nat) : Int)) else ((x.natAbs + y.natAbs : Nat) : Int)) = zsum x y lss from by rw [hbb9]; exact sum_1 hnx hny hob he9) ▸ hN9
      refine lv_aload_n hx hb dK_sum_114 rfl (lv_at hl 1 rfl) ?_
      refine zk_answer hx hb ht hown hK hZ tw_63 dK_sum_115 ?_
      exact hend 118 (v, an0, sp0, an0) _ _ _ _ dK_sum_118 (⟨fr, rfl, rfl, rfl, hNan⟩) ⟨rfl, hZ⟩ hS
