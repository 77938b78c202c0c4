theorem inv_x0 {x : Int} {md : Nat} (h : 0 < md) (hX : zX ((md : Nat) : Int)) : (x % ((md : Nat) : Int)).toNat < 2 ^ 2048 := by
  have h9 : ((md : Nat) : Int).natAbs < 2 ^ 2048 := hX
  rw [Int.natAbs_natCast] at h9
  have h3 := Int.emod_lt_of_pos x (show (0 : Int) < md by omega)
  exact Nat.lt_trans (by omega) h9
set_option maxHeartbeats 4000000 in
set_option maxRecDepth 100000 in
theorem mK_inverted (l : Launch) (hl0 : l.stackTraces = false) (E : zE) (B : Nat) (v0 : Nat → zV) (o : Nat → va_E) (an0 sp0 : Nat) (hA0 : swp 27 29 an0 sp0) (a : Nat) (hla : lp a = true) (x : Int) (hVx : zN (v0 a) x) (hXx : zX x) (b : Nat) (hlb : lp b = true) (md : Nat) (hVmd : zN (v0 b) ((md : Nat) : Int)) (hmd : 0 < md) (hXm : zX ((md : Nat) : Int)) (ha : a ≠ 23 ∧ a ≠ 25 ∧ a ≠ 31) (hb9 : b ≠ 23 ∧ b ≠ 25 ∧ b ≠ 31 ∧ b ≠ 33 ∧ b ≠ 35 ∧ b ≠ 37) :
    vx_Met l yK_inverted (zws yK_inverted cK_inverted 11 (some (.object "WholeDesk$Whole"))) { frames := 6, cells := 1, slots := 6, locals := 180 } (zPx E (zA B 80) (zD E B v0 (zo E B o an0 sp0)) [.ref (B + 22), .ref (B + a), .ref (B + b)]) (va_Qr (fun u : (Nat → zV) × Nat × Nat × Nat => (∀ j, j ≠ 23 → j ≠ 25 → j ≠ 31 → j ≠ 33 → j ≠ 35 → j ≠ 37 → u.1 j = v0 j) ∧ (u.2.1 = an0 ∧ u.2.2.1 = sp0) ∧ (u.2.2.2 = 35 ∨ u.2.2.2 = 37) ∧ Nat.gcd md x.natAbs = 1 ∧ ∃ z : Nat, zN (u.1 u.2.2.2) ((z : Nat) : Int) ∧ z < md ∧ ((md : Nat) : Int) ∣ x * ((z : Nat) : Int) - 1) (fun (u : (Nat → zV) × Nat × Nat × Nat) a t => (a = B + u.2.2.2 ∧ zD E B u.1 (zo E B o u.2.1 u.2.2.1) t.heap) ∧ zK E t) (zA B 80)) (vx_X (fun u : (Nat → zV) × Nat × Nat => (∀ j, j ≠ 23 → j ≠ 25 → j ≠ 31 → j ≠ 33 → j ≠ 35 → j ≠ 37 → u.1 j = v0 j) ∧ (u.2.1 = an0 ∧ u.2.2 = sp0) ∧ Nat.gcd md x.natAbs ≠ 1) (fun C u t => (fun (C : String) (u : (Nat → zV) × Nat × Nat) (H : Heap) => C = "java/lang/ArithmeticException" ∧ zD E B u.1 (zo E B o u.2.1 u.2.2) H) C u t.heap ∧ zK E t) (zA B 80)) 1 6 (zA B 80) := by
  have hA1 : (an0 = 27 ∧ sp0 = 29) ∨ (an0 = 29 ∧ sp0 = 27) := hA0
  have ne_0_2 : nA 23 a := by show 23 ≠ a; omega
  have ne_0_3 : nA 23 b := by show 23 ≠ b; omega
  have ne_1_2 : nA 25 a := by show 25 ≠ a; omega
  have ne_1_3 : nA 25 b := by show 25 ≠ b; omega
  have ne_2_4 : nA a 31 := by show a ≠ 31; omega
  have ne_3_4 : nA b 31 := by show b ≠ 31; omega
  have ne_3_5 : nA b 33 := by show b ≠ 33; omega
  have ne_3_6 : nA b 35 := by show b ≠ 35; omega
  have ne_3_7 : nA b 37 := by show b ≠ 37; omega
  clear ha
  clear hb9
  clear hA1
  refine zox_r (P' := fun (u : (Nat → zV) × Nat × Nat × Nat) a H => a = B + u.2.2.2 ∧ zD E B u.1 (zo E B o u.2.1 u.2.2.1) H) (BX := fun (C : String) (u : (Nat → zV) × Nat × Nat) (H : Heap) => C = "java/lang/ArithmeticException" ∧ zD E B u.1 (zo E B o u.2.1 u.2.2) H) hl0 (fun C u H H1 _ hq h => ⟨h.1, zD_grow hq h.2⟩) (by decide) (Nat.le_of_ble_eq_true rfl) fun p e R s m args below meth c Q ls hR hx hb hml ht hown hK hZ hH hl hend hthr hpas => ?_
  have hS : va_S (zA B 80) s.heap s.heap [] := va_S.rf
  have hown : s.vm.findClass "WholeDesk$Reckoner" = some m.cls := hown
  have hl : lv_has ls 11 [(0, .ref (B + 22)), (1, .ref (B + a)), (2, .ref (B + b))] := hl
  have hlan : lp an0 = true := (swp_lp hA0 (by decide) (by decide)).1
  have hlsp : lp sp0 = true := (swp_lp hA0 (by decide) (by decide)).2
  have fr : ∀ j, j ≠ 23 → j ≠ 25 → j ≠ 31 → j ≠ 33 → j ≠ 35 → j ≠ 37 → v0 j = v0 j := fun j _ _ _ _ _ _ => rfl
  refine lv_aload_n hx hb dK_inverted_0 rfl (lv_at hl 0 rfl) ?_
  refine zk_first hx hb ht hown hK hZ tw_65 dK_inverted_1 ?_
  refine lv_astore_n (lv' := [(3, .ref (B + 31)), (0, .ref (B + 22)), (1, .ref (B + a)), (2, .ref (B + b))]) hx hb dK_inverted_4 rfl hl (by decide) rfl (fun ls hl => ?_)
  refine lv_aload_n hx hb dK_inverted_5 rfl (lv_at hl 1 rfl) ?_
  refine zk_second hx hb ht hown hK hZ tw_66 dK_inverted_6 ?_
  refine lv_astore (lv' := [(4, .ref (B + 33)), (3, .ref (B + 31)), (0, .ref (B + 22)), (1, .ref (B + a)), (2, .ref (B + b))]) hx hb dK_inverted_9 hl (by decide) rfl (fun ls hl => ?_)
  refine lv_aload_n hx hb dK_inverted_11 rfl (lv_at hl 2 rfl) ?_
  refine zk_third hx hb ht hown hK hZ tw_67 dK_inverted_12 ?_
  refine lv_astore (lv' := [(5, .ref (B + 35)), (4, .ref (B + 33)), (3, .ref (B + 31)), (0, .ref (B + 22)), (1, .ref (B + a)), (2, .ref (B + b))]) hx hb dK_inverted_15 hl (by decide) rfl (fun ls hl => ?_)
  refine lv_aload_n hx hb dK_inverted_17 rfl (lv_at hl 3 rfl) ?_
  refine zk_fourth hx hb ht hown hK hZ tw_68 dK_inverted_18 ?_
  refine lv_astore (lv' := [(6, .ref (B + 37)), (5, .ref (B + 35)), (4, .ref (B + 33)), (3, .ref (B + 31)), (0, .ref (B + 22)), (1, .ref (B + a)), (2, .ref (B + b))]) hx hb dK_inverted_21 hl (by decide) rfl (fun ls hl => ?_)
  refine lv_aload_n hx hb dK_inverted_23 rfl (lv_at hl 3 rfl) ?_
  refine lv_aload_n hx hb dK_inverted_24 rfl (lv_at hl 6 rfl) ?_
  refine zcV_v 1 (As := [.ref (B + b)]) (rest := []) rfl ⟨hx, hb, hml, hown, ht⟩ (mW_copy l E B v0 (zo E B o an0 sp0) 31 (by decide) (v0 31).1 (v0 31).2.1 (v0 31).2.2 rfl b hlb (v0 b).1 (v0 b).2.1 (v0 b).2.2 rfl ne_3_4) tw_345 tw_368 tw_343 tw_344 tw_2 qW_copy (by rw [hR]; decide) (zW_recv hK hZ (by decide)) hZ hK hl.1 rfl rfl (Nat.le_of_ble_eq_true rfl) dK_inverted_25 ⟨Nat.zero_le _, Nat.zero_le _⟩ hS (fun v H locs hp hZ _ hS => ?_)
  obtain ⟨ho, d9, ev9, hd9⟩ := hp
  have hN9 : zN (v 31) (((md : Nat) : Int)) := by rw [ev9]; exact zN_copy hVmd hd9
  have hVx : zN (v a) (x) := by rw [ho _ ne_2_4]; exact hVx
  have hVmd : zN (v b) (((md : Nat) : Int)) := by rw [ho _ ne_3_4]; exact hVmd
  have fr : ∀ j, j ≠ 23 → j ≠ 25 → j ≠ 31 → j ≠ 33 → j ≠ 35 → j ≠ 37 → v j = v0 j := fun j h0 h1 h2 h3 h4 h5 => (ho j h2).trans (fr j h0 h1 h2 h3 h4 h5)
  have hNhi : zN (v 31) (((md : Nat) : Int)) := hN9
  refine lv_aload hx hb dK_inverted_28 (lv_at hl 2 rfl) ?_
  refine lv_aload_n hx hb dK_inverted_30 rfl (lv_at hl 4 rfl) ?_
  refine lv_aload_n hx hb dK_inverted_31 rfl (lv_at hl 5 rfl) ?_
  refine lv_aload_n hx hb dK_inverted_32 rfl (lv_at hl 6 rfl) ?_
  refine zcV_r (P' := fun (u : (Nat → zV) × Nat × Nat × Nat) a H => a = B + u.2.2.2 ∧ zD E B u.1 (zo E B o u.2.1 u.2.2.1) H) 2 (As := [.ref (B + a), .ref (B + b)]) (rest := [.ref (B + 33)]) rfl ⟨hx, hb, hml, hown, ht⟩ (mK_residue l E B v o an0 sp0 hA0 a hla (x) hVx b hlb (((md : Nat) : Int)) hVmd ⟨(Ne.symm ne_0_2), (Ne.symm ne_1_2)⟩ ⟨(Ne.symm ne_0_3), (Ne.symm ne_1_3)⟩ (by omega) (zX_sm hXx)) tw_443 tw_512 tw_441 tw_442 tw_3 qK_residue (by rw [hR]; decide) (zK_recv hK hZ) hZ hK hl.1 rfl rfl (Nat.le_of_ble_eq_true rfl) dK_inverted_33 ⟨Nat.zero_le _, Nat.zero_le _⟩ hS (fun u r9 H locs hp hZ _ hS => ?_)
  obtain ⟨v, a9, s9, o9⟩ := u
  obtain ⟨ho, ⟨e8, e9⟩, e7, hN9⟩ := hp
  obtain ⟨er9, hZ⟩ := hZ
  dsimp only at ho e8 e9 e7 hN9 er9 hZ
  rw [e7] at er9
  subst er9
  rw [e8, e9] at hZ
  have hVx : zN (v a) (x) := by rw [ho _ (Ne.symm ne_0_2) (Ne.symm ne_1_2)]; exact hVx
  have hVmd : zN (v b) (((md : Nat) : Int)) := by rw [ho _ (Ne.symm ne_0_3) (Ne.symm ne_1_3)]; exact hVmd
  have hNhi : zN (v 31) (((md : Nat) : Int)) := by rw [ho _ (by decide) (by decide)]; exact hNhi
  have fr : ∀ j, j ≠ 23 → j ≠ 25 → j ≠ 31 → j ≠ 33 → j ≠ 35 → j ≠ 37 → v j = v0 j := fun j h0 h1 h2 h3 h4 h5 => (ho j h0 h1).trans (fr j h0 h1 h2 h3 h4 h5)
  have hN25 : zN (v 25) ((x) % (((md : Nat) : Int))) := hN9
  refine zcV_v 1 (As := [.ref (B + 25)]) (rest := []) rfl ⟨hx, hb, hml, hown, ht⟩ (mW_copy l E B v (zo E B o an0 sp0) 33 (by decide) (v 33).1 (v 33).2.1 (v 33).2.2 rfl 25 (by decide) (v 25).1 (v 25).2.1 (v 25).2.2 rfl (by decide)) tw_345 tw_368 tw_343 tw_344 tw_2 qW_copy (by rw [hR]; decide) (zW_recv hK hZ (by decide)) hZ hK hl.1 rfl rfl (Nat.le_of_ble_eq_true rfl) dK_inverted_36 ⟨Nat.zero_le _, Nat.zero_le _⟩ hS (fun v H locs hp hZ _ hS => ?_)
  obtain ⟨ho, d9, ev9, hd9⟩ := hp
  have hN9 : zN (v 33) ((x) % (((md : Nat) : Int))) := by rw [ev9]; exact zN_copy hN25 hd9
  have hN25 : zN (v 25) ((x) % (((md : Nat) : Int))) := by rw [ho _ (by decide)]; exact hN25
  have hVmd : zN (v b) (((md : Nat) : Int)) := by rw [ho _ ne_3_5]; exact hVmd
  have hNhi : zN (v 31) (((md : Nat) : Int)) := by rw [ho _ (by decide)]; exact hNhi
  have fr : ∀ j, j ≠ 23 → j ≠ 25 → j ≠ 31 → j ≠ 33 → j ≠ 35 → j ≠ 37 → v j = v0 j := fun j h0 h1 h2 h3 h4 h5 => (ho j h3).trans (fr j h0 h1 h2 h3 h4 h5)
  have hNlo : zN (v 33) ((x) % (((md : Nat) : Int))) := hN9
  refine lv_aload hx hb dK_inverted_39 (lv_at hl 1 rfl) ?_
  refine lv_lconst (v := lZ (0)) hx hb dK_inverted_41 (by decide) ?_
  refine zcV_v 1 (As := [.long (lZ (0))]) (rest := []) rfl ⟨hx, hb, hml, hown, ht⟩ (mW_become l E B v (zo E B o an0 sp0) 35 (by decide) (v 35).1 (v 35).2.1 (v 35).2.2 rfl (0) (by omega)) tw_290 tw_458 tw_288 tw_289 tw_2 qW_become (by rw [hR]; decide) (zW_recv hK hZ (by decide)) hZ hK hl.1 rfl rfl (Nat.le_of_ble_eq_true rfl) dK_inverted_42 ⟨Nat.zero_le _, Nat.zero_le _⟩ hS (fun v H locs hp hZ _ hS => ?_)
  obtain ⟨ho, hN9⟩ := hp
  have hN25 : zN (v 25) ((x) % (((md : Nat) : Int))) := by rw [ho _ (by decide)]; exact hN25
  have hVmd : zN (v b) (((md : Nat) : Int)) := by rw [ho _ ne_3_6]; exact hVmd
  have hNhi : zN (v 31) (((md : Nat) : Int)) := by rw [ho _ (by decide)]; exact hNhi
  have hNlo : zN (v 33) ((x) % (((md : Nat) : Int))) := by rw [ho _ (by decide)]; exact hNlo
  have fr : ∀ j, j ≠ 23 → j ≠ 25 → j ≠ 31 → j ≠ 33 → j ≠ 35 → j ≠ 37 → v j = v0 j := fun j h0 h1 h2 h3 h4 h5 => (ho j h4).trans (fr j h0 h1 h2 h3 h4 h5)
  have hNpa : zN (v 35) (0) := hN9
  refine lv_aload hx hb dK_inverted_45 (lv_at hl 0 rfl) ?_
  refine lv_lconst (v := lZ (1)) hx hb dK_inverted_47 (by decide) ?_
  refine zcV_v 1 (As := [.long (lZ (1))]) (rest := []) rfl ⟨hx, hb, hml, hown, ht⟩ (mW_become l E B v (zo E B o an0 sp0) 37 (by decide) (v 37).1 (v 37).2.1 (v 37).2.2 rfl (1) (by omega)) tw_290 tw_458 tw_288 tw_289 tw_2 qW_become (by rw [hR]; decide) (zW_recv hK hZ (by decide)) hZ hK hl.1 rfl rfl (Nat.le_of_ble_eq_true rfl) dK_inverted_48 ⟨Nat.zero_le _, Nat.zero_le _⟩ hS (fun v H locs hp hZ _ hS => ?_)
  obtain ⟨ho, hN9⟩ := hp
  have hN25 : zN (v 25) ((x) % (((md : Nat) : Int))) := by rw [ho _ (by decide)]; exact hN25
  have hVmd : zN (v b) (((md : Nat) : Int)) := by rw [ho _ ne_3_7]; exact hVmd
  have hNhi : zN (v 31) (((md : Nat) : Int)) := by rw [ho _ (by decide)]; exact hNhi
  have hNlo : zN (v 33) ((x) % (((md : Nat) : Int))) := by rw [ho _ (by decide)]; exact hNlo
  have hNpa : zN (v 35) (0) := by rw [ho _ (by decide)]; exact hNpa
  have fr : ∀ j, j ≠ 23 → j ≠ 25 → j ≠ 31 → j ≠ 33 → j ≠ 35 → j ≠ 37 → v j = v0 j := fun j h0 h1 h2 h3 h4 h5 => (ho j h5).trans (fr j h0 h1 h2 h3 h4 h5)
  have hNnw : zN (v 37) (1) := hN9
  refine lv_iconst (v := iZ (1)) hx hb dK_inverted_51 (by decide) ?_
  refine lv_istore (lv' := [(7, .int (iZ (1))), (6, .ref (B + 37)), (5, .ref (B + 35)), (4, .ref (B + 33)), (3, .ref (B + 31)), (0, .ref (B + 22)), (1, .ref (B + a)), (2, .ref (B + b))]) hx hb dK_inverted_52 hl (by decide) rfl (fun ls hl => ?_)
  refine lv_iconst (v := iZ (0)) hx hb dK_inverted_54 (by decide) ?_
  refine lv_istore (lv' := [(8, .int (iZ (0))), (7, .int (iZ (1))), (6, .ref (B + 37)), (5, .ref (B + 35)), (4, .ref (B + 33)), (3, .ref (B + 31)), (0, .ref (B + 22)), (1, .ref (B + a)), (2, .ref (B + b))]) hx hb dK_inverted_55 hl (by decide) rfl (fun ls hl => ?_)
  have L57 : ∀ (fu : Nat) (st : Nat) (hh : Nat) (ll : Nat) (pa : Nat) (nw : Nat) (pb : Bool) (pp : Nat) (qq : Nat) (rr : Nat) (ss : Nat) (v : Nat → zV) (H : Heap) (locs : List Loc) (ls : Array Slot), 4096 - st < fu → (st ≤ 4096) → (swp 31 33 pp qq) → (swp 35 37 rr ss) → (eu (2 ^ 2048) st hh ll) → (eI x md hh ll pa nw pb) → zN (v b) (((md : Nat) : Int)) → zN (v pp) (((hh : Nat) : Int)) → zN (v qq) (((ll : Nat) : Int)) → zN (v rr) (((pa : Nat) : Int)) → zN (v ss) (((nw : Nat) : Int)) → (∀ j, j ≠ 23 → j ≠ 25 → j ≠ 31 → j ≠ 33 → j ≠ 35 → j ≠ 37 → v j = v0 j) → zD E B v (zo E B o an0 sp0) H → va_S (zA B 80) s.heap H locs → lv_has ls 11 [(0, .ref (B + 22)), (2, .ref (B + b)), (3, .ref (B + pp)), (4, .ref (B + qq)), (5, .ref (B + rr)), (6, .ref (B + ss)), (7, .int (iZ (bZ pb))), (8, .int (iZ (↑st)))] → W p l e R s m args below meth c H locs 0 0 Q (F0 m 57 ls []) := by
    intro fu
    induction fu with
    | zero => intro st hh ll pa nw pb pp qq rr ss v H locs ls hm; exact absurd hm (Nat.not_lt_zero _)
    | succ fu ihL57 =>
      intro st hh ll pa nw pb pp qq rr ss v H locs ls hm hst hpq hrs hE hI hVmd hNhi hNlo hNpa hNnw fr hZ hS hl
      have hl_pq1 : lp pp = true := (swp_lp hpq (by decide) (by decide)).1
      have hl_pq2 : lp qq = true := (swp_lp hpq (by decide) (by decide)).2
      have n_pq : nA pp qq := swp_as hpq (by decide)
      have n_pq_23 := swp_ne (o := 23) hpq (by decide) (by decide)
      have n_pq_25 := swp_ne (o := 25) hpq (by decide) (by decide)
      have n_pq_35 := swp_ne (o := 35) hpq (by decide) (by decide)
      have n_pq_37 := swp_ne (o := 37) hpq (by decide) (by decide)
      have n_pq_b := swp_ne (o := b) hpq ne_3_4 ne_3_5
      have hl_rs1 : lp rr = true := (swp_lp hrs (by decide) (by decide)).1
      have hl_rs2 : lp ss = true := (swp_lp hrs (by decide) (by decide)).2
      have n_rs : nA rr ss := swp_as hrs (by decide)
      have n_rs_23 := swp_ne (o := 23) hrs (by decide) (by decide)
      have n_rs_25 := swp_ne (o := 25) hrs (by decide) (by decide)
      have n_rs_pp := swp_ne (o := pp) hrs (Ne.symm n_pq_35.1) (Ne.symm n_pq_37.1)
      have n_rs_qq := swp_ne (o := qq) hrs (Ne.symm n_pq_35.2) (Ne.symm n_pq_37.2)
      have n_rs_b := swp_ne (o := b) hrs ne_3_6 ne_3_7
      refine lv_iload hx hb dK_inverted_57 (lv_at hl 7 rfl) ?_
      refine lv_sipush (v := iZ (4096)) hx hb dK_inverted_59 (by decide) ?_
      refine zr_icmp_ge (tgt := 134) hx hb (by omega) (by omega) dK_inverted_62 (by decide) (fun c_1 => ?_) (fun c_1 => ?_)
      · have hl0 : ll = 0 := by have e9 : st = 4096 := (by omega); rw [e9] at hE; exact eu_end rfl hE
        rw [hl0] at hI
        have hG := eI_end hI
        refine lv_aload_n hx hb dK_inverted_134 rfl (lv_at hl 2 rfl) ?_
        refine zcV_i 0 (As := []) (rest := []) rfl ⟨hx, hb, hml, hown, ht⟩ (mW_isOne l E B v (zo E B o an0 sp0) pp hl_pq1 (v pp).1 (v pp).2.1 (v pp).2.2 rfl) tw_520 tw_517 tw_518 tw_519 tw_2 qW_isOne (by rw [hR]; decide) (zW_recv hK hZ hl_pq1) hZ hK hl.1 rfl rfl (Nat.le_of_ble_eq_true rfl) dK_inverted_135 ⟨Nat.zero_le _, Nat.zero_le _⟩ hS (fun r_2 v1 H locs hp hZ _ hS => ?_)
        obtain ⟨hv1, hr1⟩ := hp
        rw [hv1] at hZ
        rw [zN_one (hZ.2 pp hl_pq1).1 hNhi] at hr1
        subst hr1
        clear hv1 v1
        refine zr_if_ne (tgt := 151) hx hb (by have := bZ_01 (decide (((hh : Nat) : Int) = 1)); omega) dK_inverted_138 (by decide) (fun c_3 => ?_) (fun c_3 => ?_)
        · have hh1 : hh = 1 := by have h8 := of_decide_eq_true (bZ_nf.mp (by assumption)); omega
          rw [hh1] at hI hG
          obtain ⟨hres1, hres2⟩ := eI_res hI
          refine lv_iload hx hb dK_inverted_151 (lv_at hl 6 rfl) ?_
          refine zr_if_eq (tgt := 170) hx hb (by have := bZ_01 pb; omega) dK_inverted_153 (by decide) (fun c_4 => ?_) (fun c_4 => ?_)
          · refine lv_aload hx hb dK_inverted_170 (lv_at hl 4 rfl) ?_
            exact hend 172 (v, an0, sp0, rr) _ _ _ _ _ _ (by decide) dK_inverted_172 (⟨fr, ⟨rfl, rfl⟩, swp_or hrs, hG.symm, pa, hNpa, hres1 (Or.inl (bZ_f.mp (by assumption)))⟩) ⟨rfl, hZ⟩ hS
          · have hpb : pb = true := bZ_nf.mp (by assumption)
            refine lv_aload hx hb dK_inverted_156 (lv_at hl 4 rfl) ?_
            refine zw_count (d := (v rr).1) (n := (v rr).2.1) (b := (v rr).2.2) hx hb ht hown hK hZ hl_rs1 rfl tw_33 dK_inverted_158 ?_
            refine zr_if_le (tgt := 170) hx hb (by have := (hZ.2 rr hl_rs1).2; unfold zi; omega) dK_inverted_161 (by decide) (fun c_5 => ?_) (fun c_5 => ?_)
            · refine lv_aload hx hb dK_inverted_170 (lv_at hl 4 rfl) ?_
              exact hend 172 (v, an0, sp0, rr) _ _ _ _ _ _ (by decide) dK_inverted_172 (⟨fr, ⟨rfl, rfl⟩, swp_or hrs, hG.symm, pa, hNpa, hres1 (Or.inr (by have := (zN_0 hNpa).mp (by omega); omega))⟩) ⟨rfl, hZ⟩ hS
            · have hp0 : pa ≠ 0 := by intro h9; have := (zN_0 hNpa).mpr (by omega); omega
              obtain ⟨hr1, hr2, hr3⟩ := hres2 hpb hp0
              refine lv_aload hx hb dK_inverted_164 (lv_at hl 4 rfl) ?_
              refine lv_aload_n hx hb dK_inverted_166 rfl (lv_at hl 1 rfl) ?_
              refine zcV_v 1 (As := [.ref (B + b)]) (rest := []) rfl ⟨hx, hb, hml, hown, ht⟩ (mW_becomeLackTo l E B v (zo E B o an0 sp0) rr hl_rs1 (v rr).1 (v rr).2.1 (v rr).2.2 rfl b hlb (v b).1 (v b).2.1 (v b).2.2 rfl n_rs_b.1 (by rw [← zN_abs hNpa, ← zN_abs hVmd]; rw [nabs, nabs]; exact hr1)) tw_383 tw_380 tw_381 tw_382 tw_2 qW_becomeLackTo (by rw [hR]; decide) (zW_recv hK hZ hl_rs1) hZ hK hl.1 rfl rfl (Nat.le_of_ble_eq_true rfl) dK_inverted_167 ⟨Nat.zero_le _, Nat.zero_le _⟩ hS (fun v H locs hp hZ _ hS => ?_)
              obtain ⟨ho, hN9⟩ := hp
              rw [← zN_abs hVmd, ← zN_abs hNpa] at hN9
              have hVmd : zN (v b) (((md : Nat) : Int)) := by rw [ho _ n_rs_b.1]; exact hVmd
              have hNhi : zN (v pp) (((hh : Nat) : Int)) := by rw [ho _ n_rs_pp.1]; exact hNhi
              have hNlo : zN (v qq) (((ll : Nat) : Int)) := by rw [ho _ n_rs_qq.1]; exact hNlo
              have hNnw : zN (v ss) (((nw : Nat) : Int)) := by rw [ho _ (Ne.symm n_rs)]; exact hNnw
              have fr : ∀ j, j ≠ 23 → j ≠ 25 → j ≠ 31 → j ≠ 33 → j ≠ 35 → j ≠ 37 → v j = v0 j := fun j h0 h1 h2 h3 h4 h5 => (ho j (swp_ne hrs h4 h5).1).trans (fr j h0 h1 h2 h3 h4 h5)
              have hNpa : zN (v rr) ((((((md : Nat) : Int)).natAbs : Nat) : Int) - (((((pa : Nat) : Int)).natAbs : Nat) : Int)) := hN9
              refine lv_aload hx hb dK_inverted_170 (lv_at hl 4 rfl) ?_
              exact hend 172 (v, an0, sp0, rr) _ _ _ _ _ _ (by decide) dK_inverted_172 (⟨fr, ⟨rfl, rfl⟩, swp_or hrs, hG.symm, md - pa, (by rw [Int.natCast_sub hr1]; rw [nabs, nabs] at hNpa; exact hNpa), hr2, hr3⟩) ⟨rfl, hZ⟩ hS
        · exact hthr _ _ _ _ _ _ 141 (v, an0, sp0) _ _ _ _ _ _ zs_K_inverted_141 hown dK_inverted_141 dK_inverted_144 dK_inverted_145 dK_inverted_147 dK_inverted_150 hl.1 (by rw [hR]; decide) (by decide) (⟨fr, ⟨rfl, rfl⟩, by rw [← hG]; intro h9; have h8 := bZ_f.mp (by assumption); exact absurd (by rw [h9]; rfl) (of_decide_eq_false h8)⟩) ⟨rfl, hZ⟩ hS
      · refine lv_aload hx hb dK_inverted_65 (lv_at hl 3 rfl) ?_
        refine zw_count (d := (v qq).1) (n := (v qq).2.1) (b := (v qq).2.2) hx hb ht hown hK hZ hl_pq2 rfl tw_33 dK_inverted_67 ?_
        refine zr_if_le (tgt := 134) hx hb (by have := (hZ.2 qq hl_pq2).2; unfold zi; omega) dK_inverted_70 (by decide) (fun c_6 => ?_) (fun c_6 => ?_)
        · have hl0 : ll = 0 := by have := (zN_0 hNlo).mp (by omega); omega
          rw [hl0] at hI
          have hG := eI_end hI
          refine lv_aload_n hx hb dK_inverted_134 rfl (lv_at hl 2 rfl) ?_
          refine zcV_i 0 (As := []) (rest := []) rfl ⟨hx, hb, hml, hown, ht⟩ (mW_isOne l E B v (zo E B o an0 sp0) pp hl_pq1 (v pp).1 (v pp).2.1 (v pp).2.2 rfl) tw_520 tw_517 tw_518 tw_519 tw_2 qW_isOne (by rw [hR]; decide) (zW_recv hK hZ hl_pq1) hZ hK hl.1 rfl rfl (Nat.le_of_ble_eq_true rfl) dK_inverted_135 ⟨Nat.zero_le _, Nat.zero_le _⟩ hS (fun r_7 v1 H locs hp hZ _ hS => ?_)
          obtain ⟨hv1, hr1⟩ := hp
          rw [hv1] at hZ
          rw [zN_one (hZ.2 pp hl_pq1).1 hNhi] at hr1
          subst hr1
          clear hv1 v1
          refine zr_if_ne (tgt := 151) hx hb (by have := bZ_01 (decide (((hh : Nat) : Int) = 1)); omega) dK_inverted_138 (by decide) (fun c_8 => ?_) (fun c_8 => ?_)
          · have hh1 : hh = 1 := by have h8 := of_decide_eq_true (bZ_nf.mp (by assumption)); omega
            rw [hh1] at hI hG
            obtain ⟨hres1, hres2⟩ := eI_res hI
            refine lv_iload hx hb dK_inverted_151 (lv_at hl 6 rfl) ?_
            refine zr_if_eq (tgt := 170) hx hb (by have := bZ_01 pb; omega) dK_inverted_153 (by decide) (fun c_9 => ?_) (fun c_9 => ?_)
            · refine lv_aload hx hb dK_inverted_170 (lv_at hl 4 rfl) ?_
              exact hend 172 (v, an0, sp0, rr) _ _ _ _ _ _ (by decide) dK_inverted_172 (⟨fr, ⟨rfl, rfl⟩, swp_or hrs, hG.symm, pa, hNpa, hres1 (Or.inl (bZ_f.mp (by assumption)))⟩) ⟨rfl, hZ⟩ hS
            · have hpb : pb = true := bZ_nf.mp (by assumption)
              refine lv_aload hx hb dK_inverted_156 (lv_at hl 4 rfl) ?_
              refine zw_count (d := (v rr).1) (n := (v rr).2.1) (b := (v rr).2.2) hx hb ht hown hK hZ hl_rs1 rfl tw_33 dK_inverted_158 ?_
              refine zr_if_le (tgt := 170) hx hb (by have := (hZ.2 rr hl_rs1).2; unfold zi; omega) dK_inverted_161 (by decide) (fun c_10 => ?_) (fun c_10 => ?_)
              · refine lv_aload hx hb dK_inverted_170 (lv_at hl 4 rfl) ?_
                exact hend 172 (v, an0, sp0, rr) _ _ _ _ _ _ (by decide) dK_inverted_172 (⟨fr, ⟨rfl, rfl⟩, swp_or hrs, hG.symm, pa, hNpa, hres1 (Or.inr (by have := (zN_0 hNpa).mp (by omega); omega))⟩) ⟨rfl, hZ⟩ hS
              · have hp0 : pa ≠ 0 := by intro h9; have := (zN_0 hNpa).mpr (by omega); omega
                obtain ⟨hr1, hr2, hr3⟩ := hres2 hpb hp0
                refine lv_aload hx hb dK_inverted_164 (lv_at hl 4 rfl) ?_
                refine lv_aload_n hx hb dK_inverted_166 rfl (lv_at hl 1 rfl) ?_
                refine zcV_v 1 (As := [.ref (B + b)]) (rest := []) rfl ⟨hx, hb, hml, hown, ht⟩ (mW_becomeLackTo l E B v (zo E B o an0 sp0) rr hl_rs1 (v rr).1 (v rr).2.1 (v rr).2.2 rfl b hlb (v b).1 (v b).2.1 (v b).2.2 rfl n_rs_b.1 (by rw [← zN_abs hNpa, ← zN_abs hVmd]; rw [nabs, nabs]; exact hr1)) tw_383 tw_380 tw_381 tw_382 tw_2 qW_becomeLackTo (by rw [hR]; decide) (zW_recv hK hZ hl_rs1) hZ hK hl.1 rfl rfl (Nat.le_of_ble_eq_true rfl) dK_inverted_167 ⟨Nat.zero_le _, Nat.zero_le _⟩ hS (fun v H locs hp hZ _ hS => ?_)
                obtain ⟨ho, hN9⟩ := hp
                rw [← zN_abs hVmd, ← zN_abs hNpa] at hN9
                have hVmd : zN (v b) (((md : Nat) : Int)) := by rw [ho _ n_rs_b.1]; exact hVmd
                have hNhi : zN (v pp) (((hh : Nat) : Int)) := by rw [ho _ n_rs_pp.1]; exact hNhi
                have hNlo : zN (v qq) (((ll : Nat) : Int)) := by rw [ho _ n_rs_qq.1]; exact hNlo
                have hNnw : zN (v ss) (((nw : Nat) : Int)) := by rw [ho _ (Ne.symm n_rs)]; exact hNnw
                have fr : ∀ j, j ≠ 23 → j ≠ 25 → j ≠ 31 → j ≠ 33 → j ≠ 35 → j ≠ 37 → v j = v0 j := fun j h0 h1 h2 h3 h4 h5 => (ho j (swp_ne hrs h4 h5).1).trans (fr j h0 h1 h2 h3 h4 h5)
                have hNpa : zN (v rr) ((((((md : Nat) : Int)).natAbs : Nat) : Int) - (((((pa : Nat) : Int)).natAbs : Nat) : Int)) := hN9
                refine lv_aload hx hb dK_inverted_170 (lv_at hl 4 rfl) ?_
                exact hend 172 (v, an0, sp0, rr) _ _ _ _ _ _ (by decide) dK_inverted_172 (⟨fr, ⟨rfl, rfl⟩, swp_or hrs, hG.symm, md - pa, (by rw [Int.natCast_sub hr1]; rw [nabs, nabs] at hNpa; exact hNpa), hr2, hr3⟩) ⟨rfl, hZ⟩ hS
          · exact hthr _ _ _ _ _ _ 141 (v, an0, sp0) _ _ _ _ _ _ zs_K_inverted_141 hown dK_inverted_141 dK_inverted_144 dK_inverted_145 dK_inverted_147 dK_inverted_150 hl.1 (by rw [hR]; decide) (by decide) (⟨fr, ⟨rfl, rfl⟩, by rw [← hG]; intro h9; have h8 := bZ_f.mp (by assumption); exact absurd (by rw [h9]; rfl) (of_decide_eq_false h8)⟩) ⟨rfl, hZ⟩ hS
        · have hl0 : ll ≠ 0 := by intro h9; have := (zN_0 hNlo).mpr (by omega); omega
          obtain ⟨hz1, hz2, hz3, hz4, hz5⟩ := eI_sz hXm hl0 hI
          refine lv_aload_n hx hb dK_inverted_73 rfl (lv_at hl 2 rfl) ?_
          refine lv_aload hx hb dK_inverted_74 (lv_at hl 3 rfl) ?_
          refine lv_aload_n hx hb dK_inverted_76 rfl (lv_at hl 0 rfl) ?_
          refine zk_quotient hx hb ht hown hK hZ tw_59 dK_inverted_77 ?_
          refine zcV_v 2 (As := [.ref (B + qq), .ref (B + 23)]) (rest := []) rfl ⟨hx, hb, hml, hown, ht⟩ (mW_divideOut l E B v (zo E B o an0 sp0) pp hl_pq1 (v pp).1 (v pp).2.1 (v pp).2.2 rfl qq hl_pq2 (v qq).1 (v qq).2.1 (v qq).2.2 rfl 23 (by decide) (v 23).1 (v 23).2.1 (v 23).2.2 rfl (Ne.symm n_pq) n_pq_23.1 n_pq_23.2 hNhi.1 hNhi.2.1 ((zN_len (hZ.2 pp hl_pq1).1 hNhi).mpr (zX_sm hz1)) (fun h9 => absurd ((zN_0 hNlo).mp h9) (by omega)) hNlo.1) tw_415 tw_412 tw_413 tw_414 tw_2 qW_divideOut (by rw [hR]; decide) (zW_recv hK hZ hl_pq1) hZ hK hl.1 rfl rfl (Nat.le_of_ble_eq_true rfl) dK_inverted_80 ⟨Nat.zero_le _, Nat.zero_le _⟩ hS (fun v H locs hp hZ _ hS => ?_)
          obtain ⟨ho, q9, r9, he9, hr9, hN8, hN9⟩ := hp
          obtain ⟨e8, e9⟩ := zN_div hNhi hNlo he9 hr9
          rw [e8] at hN8
          rw [e9, zN_rest hNhi] at hN9
          have hVmd : zN (v b) (((md : Nat) : Int)) := by rw [ho _ n_pq_b.1 (Ne.symm ne_0_3)]; exact hVmd
          have hNlo : zN (v qq) (((ll : Nat) : Int)) := by rw [ho _ (Ne.symm n_pq) (Ne.symm n_pq_23.2)]; exact hNlo
          have hNpa : zN (v rr) (((pa : Nat) : Int)) := by rw [ho _ (Ne.symm n_rs_pp.1) (Ne.symm n_rs_23.1)]; exact hNpa
          have hNnw : zN (v ss) (((nw : Nat) : Int)) := by rw [ho _ (Ne.symm n_rs_pp.2) (Ne.symm n_rs_23.2)]; exact hNnw
          have fr : ∀ j, j ≠ 23 → j ≠ 25 → j ≠ 31 → j ≠ 33 → j ≠ 35 → j ≠ 37 → v j = v0 j := fun j h0 h1 h2 h3 h4 h5 => (ho j (swp_ne hpq h2 h3).1 h0).trans (fr j h0 h1 h2 h3 h4 h5)
          have hN23 : zN (v 23) ((((((hh : Nat) : Int)).natAbs / (((ll : Nat) : Int)).natAbs : Nat) : Int)) := hN8
          have hNhi : zN (v pp) ((((hh : Nat) : Int)).tmod (((ll : Nat) : Int))) := hN9
          refine lv_aload hx hb dK_inverted_83 (lv_at hl 4 rfl) ?_
          refine lv_aload_n hx hb dK_inverted_85 rfl (lv_at hl 0 rfl) ?_
          refine zk_quotient hx hb ht hown hK hZ tw_59 dK_inverted_86 ?_
          refine lv_aload hx hb dK_inverted_89 (lv_at hl 5 rfl) ?_
          refine zcV_v 2 (As := [.ref (B + 23), .ref (B + ss)]) (rest := []) rfl ⟨hx, hb, hml, hown, ht⟩ (mW_gather l E B v (zo E B o an0 sp0) rr hl_rs1 (v rr).1 (v rr).2.1 (v rr).2.2 rfl 23 (by decide) (v 23).1 (v 23).2.1 (v 23).2.2 rfl ss hl_rs2 (v ss).1 (v ss).2.1 (v ss).2.2 rfl n_rs_23.1 (Ne.symm n_rs) (zN_groom (hZ.2 rr hl_rs1).1 (hZ.2 23 (by decide)).1 (hZ.2 ss hl_rs2).1 hNpa hN23 hNnw (by rw [nabs, nabs, nabs, nabs, nabs]; exact ⟨hz2, hz3, hz4, hz5⟩))) tw_516 tw_513 tw_514 tw_515 tw_2 qW_gather (by rw [hR]; decide) (zW_recv hK hZ hl_rs1) hZ hK hl.1 rfl rfl (Nat.le_of_ble_eq_true rfl) dK_inverted_91 ⟨Nat.zero_le _, Nat.zero_le _⟩ hS (fun v H locs hp hZ _ hS => ?_)
          obtain ⟨ho, hN9⟩ := hp
          rw [← zN_abs hNpa, ← zN_abs hN23, ← zN_abs hNnw] at hN9
          rw [zM_a hNpa (Int.natCast_nonneg _)] at hN9
          have hN23 : zN (v 23) ((((((hh : Nat) : Int)).natAbs / (((ll : Nat) : Int)).natAbs : Nat) : Int)) := by rw [ho _ n_rs_23.1]; exact hN23
          have hVmd : zN (v b) (((md : Nat) : Int)) := by rw [ho _ n_rs_b.1]; exact hVmd
          have hNhi : zN (v pp) ((((hh : Nat) : Int)).tmod (((ll : Nat) : Int))) := by rw [ho _ n_rs_pp.1]; exact hNhi
          have hNlo : zN (v qq) (((ll : Nat) : Int)) := by rw [ho _ n_rs_qq.1]; exact hNlo
          have hNnw : zN (v ss) (((nw : Nat) : Int)) := by rw [ho _ (Ne.symm n_rs)]; exact hNnw
          have fr : ∀ j, j ≠ 23 → j ≠ 25 → j ≠ 31 → j ≠ 33 → j ≠ 35 → j ≠ 37 → v j = v0 j := fun j h0 h1 h2 h3 h4 h5 => (ho j (swp_ne hrs h4 h5).1).trans (fr j h0 h1 h2 h3 h4 h5)
          have hNpa : zN (v rr) (((pa + hh / ll * nw : Nat) : Int)) := (show (if false = true then -((((((pa : Nat) : Int)).natAbs + ((((((hh : Nat) : Int)).natAbs / (((ll : Nat) : Int)).natAbs : Nat) : Int)).natAbs * (((nw : Nat) : Int)).natAbs : Nat) : Int)) else (((((pa : Nat) : Int)).natAbs + ((((((hh : Nat) : Int)).natAbs / (((ll : Nat) : Int)).natAbs : Nat) : Int)).natAbs * (((nw : Nat) : Int)).natAbs : Nat) : Int)) = ((pa + hh / ll * nw : Nat) : Int) from by rw [nabs, nabs, nabs, nabs, nabs]; rfl) ▸ hN9
          refine lv_aload_n hx hb dK_inverted_94 rfl (lv_at hl 2 rfl) ?_
          refine lv_astore (lv' := [(9, .ref (B + pp)), (0, .ref (B + 22)), (2, .ref (B + b)), (3, .ref (B + pp)), (4, .ref (B + qq)), (5, .ref (B + rr)), (6, .ref (B + ss)), (7, .int (iZ (bZ pb))), (8, .int (iZ (↑st)))]) hx hb dK_inverted_95 hl (by decide) rfl (fun ls hl => ?_)
          refine lv_aload hx hb dK_inverted_97 (lv_at hl 4 rfl) ?_
          refine lv_astore_n (lv' := [(3, .ref (B + qq)), (9, .ref (B + pp)), (0, .ref (B + 22)), (2, .ref (B + b)), (4, .ref (B + qq)), (5, .ref (B + rr)), (6, .ref (B + ss)), (7, .int (iZ (bZ pb))), (8, .int (iZ (↑st)))]) hx hb dK_inverted_99 rfl hl (by decide) rfl (fun ls hl => ?_)
          refine lv_aload hx hb dK_inverted_100 (lv_at hl 1 rfl) ?_
          refine lv_astore (lv' := [(4, .ref (B + pp)), (3, .ref (B + qq)), (9, .ref (B + pp)), (0, .ref (B + 22)), (2, .ref (B + b)), (5, .ref (B + rr)), (6, .ref (B + ss)), (7, .int (iZ (bZ pb))), (8, .int (iZ (↑st)))]) hx hb dK_inverted_102 hl (by decide) rfl (fun ls hl => ?_)
          refine lv_aload hx hb dK_inverted_104 (lv_at hl 5 rfl) ?_
          refine lv_astore (lv' := [(10, .ref (B + rr)), (4, .ref (B + pp)), (3, .ref (B + qq)), (9, .ref (B + pp)), (0, .ref (B + 22)), (2, .ref (B + b)), (5, .ref (B + rr)), (6, .ref (B + ss)), (7, .int (iZ (bZ pb))), (8, .int (iZ (↑st)))]) hx hb dK_inverted_106 hl (by decide) rfl (fun ls hl => ?_)
          refine lv_aload hx hb dK_inverted_108 (lv_at hl 7 rfl) ?_
          refine lv_astore (lv' := [(5, .ref (B + ss)), (10, .ref (B + rr)), (4, .ref (B + pp)), (3, .ref (B + qq)), (9, .ref (B + pp)), (0, .ref (B + 22)), (2, .ref (B + b)), (6, .ref (B + ss)), (7, .int (iZ (bZ pb))), (8, .int (iZ (↑st)))]) hx hb dK_inverted_110 hl (by decide) rfl (fun ls hl => ?_)
          refine lv_aload hx hb dK_inverted_112 (lv_at hl 1 rfl) ?_
          refine lv_astore (lv' := [(6, .ref (B + rr)), (5, .ref (B + ss)), (10, .ref (B + rr)), (4, .ref (B + pp)), (3, .ref (B + qq)), (9, .ref (B + pp)), (0, .ref (B + 22)), (2, .ref (B + b)), (7, .int (iZ (bZ pb))), (8, .int (iZ (↑st)))]) hx hb dK_inverted_114 hl (by decide) rfl (fun ls hl => ?_)
          refine lv_iload hx hb dK_inverted_116 (lv_at hl 8 rfl) ?_
          refine zr_if_ne (tgt := 125) hx hb (by have := bZ_01 pb; omega) dK_inverted_118 (by decide) (fun c_11 => ?_) (fun c_11 => ?_)
          · have hpb : pb = true := bZ_nf.mp (by assumption)
            refine lv_iconst (v := iZ (0)) hx hb dK_inverted_125 (by decide) ?_
            refine lv_istore (lv' := [(7, .int (iZ (0))), (6, .ref (B + rr)), (5, .ref (B + ss)), (10, .ref (B + rr)), (4, .ref (B + pp)), (3, .ref (B + qq)), (9, .ref (B + pp)), (0, .ref (B + 22)), (2, .ref (B + b)), (8, .int (iZ (↑st)))]) hx hb dK_inverted_126 hl (by decide) rfl (fun ls hl => ?_)
            refine lv_iinc (v := iZ (↑st + 1)) (lv' := [(8, .int (iZ (↑st + 1))), (7, .int (iZ (0))), (6, .ref (B + rr)), (5, .ref (B + ss)), (10, .ref (B + rr)), (4, .ref (B + pp)), (3, .ref (B + qq)), (9, .ref (B + pp)), (0, .ref (B + 22)), (2, .ref (B + b))]) hx hb dK_inverted_128 hl (k := 9) rfl (iZ_add _ _) (by decide) rfl (fun ls hl => ?_)
            refine lv_goto (tgt := 57) hx hb dK_inverted_131 (by decide) ?_
            rw [show (↑st + 1 : Int) = ↑(st + 1) from by omega] at hl
            rw [show (0 : Int) = bZ (!pb) from by rw [hpb]; rfl] at hl
            exact ihL57 (st + 1) ll (hh % ll) nw (pa + hh / ll * nw) (!pb) qq pp ss rr v _ _ _ (by omega) (by omega) (swp_sym hpq) (swp_sym hrs) (eu_step hl0 hE) (eI_st hl0 hI) hVmd (hNlo) (hNhi) (hNnw) (hNpa) fr hZ hS (lv_sub hl [8, 9, 6, 5, 3, 2, 1, 0] rfl)
          · have hpb : pb = false := bZ_f.mp (by assumption)
            refine lv_iconst (v := iZ (1)) hx hb dK_inverted_121 (by decide) ?_
            refine lv_goto (tgt := 126) hx hb dK_inverted_122 (by decide) ?_
            refine lv_istore (lv' := [(7, .int (iZ (1))), (6, .ref (B + rr)), (5, .ref (B + ss)), (10, .ref (B + rr)), (4, .ref (B + pp)), (3, .ref (B + qq)), (9, .ref (B + pp)), (0, .ref (B + 22)), (2, .ref (B + b)), (8, .int (iZ (↑st)))]) hx hb dK_inverted_126 hl (by decide) rfl (fun ls hl => ?_)
            refine lv_iinc (v := iZ (↑st + 1)) (lv' := [(8, .int (iZ (↑st + 1))), (7, .int (iZ (1))), (6, .ref (B + rr)), (5, .ref (B + ss)), (10, .ref (B + rr)), (4, .ref (B + pp)), (3, .ref (B + qq)), (9, .ref (B + pp)), (0, .ref (B + 22)), (2, .ref (B + b))]) hx hb dK_inverted_128 hl (k := 9) rfl (iZ_add _ _) (by decide) rfl (fun ls hl => ?_)
            refine lv_goto (tgt := 57) hx hb dK_inverted_131 (by decide) ?_
            rw [show (↑st + 1 : Int) = ↑(st + 1) from by omega] at hl
            rw [show (1 : Int) = bZ (!pb) from by rw [hpb]; rfl] at hl
            exact ihL57 (st + 1) ll (hh % ll) nw (pa + hh / ll * nw) (!pb) qq pp ss rr v _ _ _ (by omega) (by omega) (swp_sym hpq) (swp_sym hrs) (eu_step hl0 hE) (eI_st hl0 hI) hVmd (hNlo) (hNhi) (hNnw) (hNpa) fr hZ hS (lv_sub hl [8, 9, 6, 5, 3, 2, 1, 0] rfl)
  exact L57 _ 0 md ((x % ((md : Nat) : Int)).toNat) 0 1 true 31 33 35 37 v _ _ _ (Nat.lt_succ_self _) (Nat.zero_le _) (Or.inl ⟨rfl, rfl⟩) (Or.inl ⟨rfl, rfl⟩) (eu_0 (inv_x0 hmd hXm)) (eI_0 x md hmd) hVmd hNhi (by rw [Int.toNat_of_nonneg (Int.emod_nonneg _ (by omega))]; exact hNlo) hNpa hNnw fr hZ hS (lv_sub hl [6, 8, 5, 4, 3, 2, 1, 0] rfl)
