theorem swp_or {x y a s : Nat} (h : swp x y a s) : a = x ∨ a = y := h.imp And.left And.left
theorem zX_tmod {x y : Int} (h : zX x) : zX (x.tmod y) := by
  unfold zX
  rw [Int.natAbs_tmod]
  exact Nat.lt_of_le_of_lt (Nat.mod_le _ _) h
set_option maxHeartbeats 4000000 in
set_option maxRecDepth 100000 in
theorem mK_shared (l : Launch) (E : zE) (B : Nat) (v0 : Nat → zV) (o : Nat → va_E) (an0 sp0 : Nat) (hA0 : swp 27 29 an0 sp0) (a : Nat) (hla : lp a = true) (x : Int) (hVx : zN (v0 a) x) (hXx : zX x) (b : Nat) (hlb : lp b = true) (y : Int) (hVy : zN (v0 b) y) (hXy : zX y) (ha : a ≠ 23 ∧ a ≠ 31 ∧ a ≠ 33) (hb9 : b ≠ 23 ∧ b ≠ 31 ∧ b ≠ 33) :
    Met l yK_shared (zws yK_shared cK_shared 7 (some (.object "WholeDesk$Whole"))) { frames := 4, cells := 0, slots := 0, locals := 140 } (zPc E (zD E B v0 (zo E B o an0 sp0)) [.ref (B + 22), .ref (B + a), .ref (B + b)]) (va_Qr (fun u : (Nat → zV) × Nat × Nat × Nat => (∀ j, j ≠ 23 → j ≠ 31 → j ≠ 33 → u.1 j = v0 j) ∧ (u.2.1 = an0 ∧ u.2.2.1 = sp0) ∧ (u.2.2.2 = 31 ∨ u.2.2.2 = 33) ∧ zN (u.1 u.2.2.2) ((Nat.gcd x.natAbs y.natAbs : Nat) : Int)) (fun (u : (Nat → zV) × Nat × Nat × Nat) a t => (a = B + u.2.2.2 ∧ zD E B u.1 (zo E B o u.2.1 u.2.2.1) t.heap) ∧ zK E t) (zA B 80)) 0 0 (zA B 80) := by
  have hA1 : (an0 = 27 ∧ sp0 = 29) ∨ (an0 = 29 ∧ sp0 = 27) := hA0
  have ne_0_1 : nA 23 a := by show 23 ≠ a; omega
  have ne_0_2 : nA 23 b := by show 23 ≠ b; omega
  have ne_1_3 : nA a 31 := by show a ≠ 31; omega
  have ne_1_4 : nA a 33 := by show a ≠ 33; omega
  have ne_2_3 : nA b 31 := by show b ≠ 31; omega
  have ne_2_4 : nA b 33 := by show b ≠ 33; omega
  clear ha
  clear hb9
  clear hA1
  refine zof_r (P' := fun (u : (Nat → zV) × Nat × Nat × Nat) a H => a = B + u.2.2.2 ∧ zD E B u.1 (zo E B o u.2.1 u.2.2.1) H) (by decide) (Nat.le_of_ble_eq_true rfl) fun p e R s m args below meth c Q ls hR hx hb hml ht hown hK hZ hl hend => ?_
  have hS : va_S (zA B 80) s.heap s.heap [] := va_S.rf
  have hown : s.vm.findClass "WholeDesk$Reckoner" = some m.cls := hown
  have hl : lv_has ls 7 [(0, .ref (B + 22)), (1, .ref (B + a)), (2, .ref (B + b))] := hl
  have hlan : lp an0 = true := (swp_lp hA0 (by decide) (by decide)).1
  have hlsp : lp sp0 = true := (swp_lp hA0 (by decide) (by decide)).2
  have fr : ∀ j, j ≠ 23 → j ≠ 31 → j ≠ 33 → v0 j = v0 j := fun j _ _ _ => rfl
  refine lv_aload_n hx hb dK_shared_0 rfl (lv_at hl 0 rfl) ?_
  refine zk_first hx hb ht hown hK hZ tw_65 dK_shared_1 ?_
  refine lv_astore_n (lv' := [(3, .ref (B + 31)), (0, .ref (B + 22)), (1, .ref (B + a)), (2, .ref (B + b))]) hx hb dK_shared_4 rfl hl (by decide) rfl (fun ls hl => ?_)
  refine lv_aload_n hx hb dK_shared_5 rfl (lv_at hl 1 rfl) ?_
  refine zk_second hx hb ht hown hK hZ tw_66 dK_shared_6 ?_
  refine lv_astore (lv' := [(4, .ref (B + 33)), (3, .ref (B + 31)), (0, .ref (B + 22)), (1, .ref (B + a)), (2, .ref (B + b))]) hx hb dK_shared_9 hl (by decide) rfl (fun ls hl => ?_)
  refine lv_aload_n hx hb dK_shared_11 rfl (lv_at hl 1 rfl) ?_
  refine lv_aload_n hx hb dK_shared_12 rfl (lv_at hl 3 rfl) ?_
  refine zcV_v 1 (As := [.ref (B + a)]) (rest := []) rfl ⟨hx, hb, hml, hown, ht⟩ (mW_copy l E B v0 (zo E B o an0 sp0) 31 (by decide) (v0 31).1 (v0 31).2.1 (v0 31).2.2 rfl a hla (v0 a).1 (v0 a).2.1 (v0 a).2.2 rfl ne_1_3) tw_345 tw_368 tw_343 tw_344 tw_2 qW_copy (by rw [hR]; decide) (zW_recv hK hZ (by decide)) hZ hK hl.1 rfl rfl (Nat.le_of_ble_eq_true rfl) dK_shared_13 ⟨Nat.zero_le _, Nat.zero_le _⟩ hS (fun v H locs hp hZ _ hS => ?_)
  obtain ⟨ho, d9, ev9, hd9⟩ := hp
  have hN9 : zN (v 31) (x) := by rw [ev9]; exact zN_copy hVx hd9
  have hVx : zN (v a) (x) := by rw [ho _ ne_1_3]; exact hVx
  have hVy : zN (v b) (y) := by rw [ho _ ne_2_3]; exact hVy
  have fr : ∀ j, j ≠ 23 → j ≠ 31 → j ≠ 33 → v j = v0 j := fun j h0 h1 h2 => (ho j h1).trans (fr j h0 h1 h2)
  have hNhi : zN (v 31) (x) := hN9
  refine lv_aload hx hb dK_shared_16 (lv_at hl 0 rfl) ?_
  refine lv_aload_n hx hb dK_shared_18 rfl (lv_at hl 4 rfl) ?_
  refine zcV_v 1 (As := [.ref (B + b)]) (rest := []) rfl ⟨hx, hb, hml, hown, ht⟩ (mW_copy l E B v (zo E B o an0 sp0) 33 (by decide) (v 33).1 (v 33).2.1 (v 33).2.2 rfl b hlb (v b).1 (v b).2.1 (v b).2.2 rfl ne_2_4) tw_345 tw_368 tw_343 tw_344 tw_2 qW_copy (by rw [hR]; decide) (zW_recv hK hZ (by decide)) hZ hK hl.1 rfl rfl (Nat.le_of_ble_eq_true rfl) dK_shared_19 ⟨Nat.zero_le _, Nat.zero_le _⟩ hS (fun v H locs hp hZ _ hS => ?_)
  obtain ⟨ho, d9, ev9, hd9⟩ := hp
  have hN9 : zN (v 33) (y) := by rw [ev9]; exact zN_copy hVy hd9
  have hVx : zN (v a) (x) := by rw [ho _ ne_1_4]; exact hVx
  have hVy : zN (v b) (y) := by rw [ho _ ne_2_4]; exact hVy
  have hNhi : zN (v 31) (x) := by rw [ho _ (by decide)]; exact hNhi
  have fr : ∀ j, j ≠ 23 → j ≠ 31 → j ≠ 33 → v j = v0 j := fun j h0 h1 h2 => (ho j h2).trans (fr j h0 h1 h2)
  have hNlo : zN (v 33) (y) := hN9
  refine lv_iconst (v := iZ (0)) hx hb dK_shared_22 (by decide) ?_
  refine lv_istore (lv' := [(5, .int (iZ (0))), (4, .ref (B + 33)), (3, .ref (B + 31)), (0, .ref (B + 22)), (1, .ref (B + a)), (2, .ref (B + b))]) hx hb dK_shared_23 hl (by decide) rfl (fun ls hl => ?_)
  have L25 : ∀ (fu : Nat) (st : Nat) (h : Int) (lw : Int) (pp : Nat) (qq : Nat) (v : Nat → zV) (H : Heap) (locs : List Loc) (ls : Array Slot), 4096 - st < fu → (st ≤ 4096) → (swp 31 33 pp qq) → (eu (2 ^ 2048) st h.natAbs lw.natAbs) → (Nat.gcd h.natAbs lw.natAbs = Nat.gcd x.natAbs y.natAbs) → (zX h) → (zX lw) → zN (v pp) (h) → zN (v qq) (lw) → (∀ j, j ≠ 23 → j ≠ 31 → j ≠ 33 → v j = v0 j) → zD E B v (zo E B o an0 sp0) H → va_S (zA B 80) s.heap H locs → lv_has ls 7 [(0, .ref (B + 22)), (3, .ref (B + pp)), (4, .ref (B + qq)), (5, .int (iZ (↑st)))] → W p l e R s m args below meth c H locs 0 0 Q (F0 m 25 ls []) := by
    intro fu
    induction fu with
    | zero => intro st h lw pp qq v H locs ls hm; exact absurd hm (Nat.not_lt_zero _)
    | succ fu ihL25 =>
      intro st h lw pp qq v H locs ls hm hst hpq hE hG hXh hXl hNhi hNlo fr hZ hS hl
      have hl_pq1 : lp pp = true := (swp_lp hpq (by decide) (by decide)).1
      have hl_pq2 : lp qq = true := (swp_lp hpq (by decide) (by decide)).2
      have n_pq : nA pp qq := swp_as hpq (by decide)
      have n_pq_23 := swp_ne (o := 23) hpq (by decide) (by decide)
      refine lv_iload hx hb dK_shared_25 (lv_at hl 3 rfl) ?_
      refine lv_sipush (v := iZ (4096)) hx hb dK_shared_27 (by decide) ?_
      refine zr_icmp_ge (tgt := 67) hx hb (by omega) (by omega) dK_shared_30 (by decide) (fun c_1 => ?_) (fun c_1 => ?_)
      · have hl0 : lw = 0 := by have e9 : st = 4096 := (by omega); rw [e9] at hE; have := eu_end rfl hE; omega
        rw [hl0] at hG
        have hG9 : h.natAbs = Nat.gcd x.natAbs y.natAbs := by rw [← hG]; exact (Nat.gcd_zero_right _).symm
        refine lv_aload_n hx hb dK_shared_67 rfl (lv_at hl 1 rfl) ?_
        refine lv_iconst (v := iZ (0)) hx hb dK_shared_68 (by decide) ?_
        have hM_hi : zM (v pp) (v pp).2.1 (h).natAbs (v pp).2.2 := zN_M hNhi
        obtain ⟨n_2, hnn_2⟩ : ∃ n9, n9 = (v pp).2.1 := ⟨_, rfl⟩
        obtain ⟨b_3, hbb_3⟩ : ∃ b9, b9 = (v pp).2.2 := ⟨_, rfl⟩
        rw [← hnn_2, ← hbb_3] at hM_hi
        refine W.eq (g2 := F0 m 69 ls (.int (iZ (bZ false)) :: .ref (B + pp) :: [])) rfl ?_
        refine zw_put_below (d := (v pp).1) (n := (v pp).2.1) (b := (v pp).2.2) (b1 := false) hx hb ht hown hK hZ hl_pq1 rfl hS tw_38 dK_shared_69 (fun v H locs ev ho hZ hS => ?_)
        have hNlo : zN (v qq) (lw) := by rw [ho _ (Ne.symm n_pq)]; exact hNlo
        have fr : ∀ j, j ≠ 23 → j ≠ 31 → j ≠ 33 → v j = v0 j := fun j h0 h1 h2 => (ho j (swp_ne hpq h1 h2).1).trans (fr j h0 h1 h2)
        have hM_hi : zM (v pp) (n_2) ((h).natAbs) (false) := zM_b hM_hi ev
        have hNhi : zN (v pp) (((Nat.gcd x.natAbs y.natAbs : Nat) : Int)) := hG9 ▸ zN_pos hNhi ev
        refine lv_aload_n hx hb dK_shared_72 rfl (lv_at hl 1 rfl) ?_
        exact hend 73 (v, an0, sp0, pp) _ _ _ _ dK_shared_73 (⟨fr, ⟨rfl, rfl⟩, swp_or hpq, hNhi⟩) ⟨rfl, hZ⟩ hS
      · refine lv_aload hx hb dK_shared_33 (lv_at hl 2 rfl) ?_
        refine zw_count (d := (v qq).1) (n := (v qq).2.1) (b := (v qq).2.2) hx hb ht hown hK hZ hl_pq2 rfl tw_33 dK_shared_35 ?_
        refine zr_if_le (tgt := 67) hx hb (by have := (hZ.2 qq hl_pq2).2; unfold zi; omega) dK_shared_38 (by decide) (fun c_4 => ?_) (fun c_4 => ?_)
        · have hl0 : lw = 0 := (zN_0 hNlo).mp (by omega)
          rw [hl0] at hG
          have hG9 : h.natAbs = Nat.gcd x.natAbs y.natAbs := by rw [← hG]; exact (Nat.gcd_zero_right _).symm
          refine lv_aload_n hx hb dK_shared_67 rfl (lv_at hl 1 rfl) ?_
          refine lv_iconst (v := iZ (0)) hx hb dK_shared_68 (by decide) ?_
          have hM_hi : zM (v pp) (v pp).2.1 (h).natAbs (v pp).2.2 := zN_M hNhi
          obtain ⟨n_5, hnn_5⟩ : ∃ n9, n9 = (v pp).2.1 := ⟨_, rfl⟩
          obtain ⟨b_6, hbb_6⟩ : ∃ b9, b9 = (v pp).2.2 := ⟨_, rfl⟩
          rw [← hnn_5, ← hbb_6] at hM_hi
          refine W.eq (g2 := F0 m 69 ls (.int (iZ (bZ false)) :: .ref (B + pp) :: [])) rfl ?_
          refine zw_put_below (d := (v pp).1) (n := (v pp).2.1) (b := (v pp).2.2) (b1 := false) hx hb ht hown hK hZ hl_pq1 rfl hS tw_38 dK_shared_69 (fun v H locs ev ho hZ hS => ?_)
          have hNlo : zN (v qq) (lw) := by rw [ho _ (Ne.symm n_pq)]; exact hNlo
          have fr : ∀ j, j ≠ 23 → j ≠ 31 → j ≠ 33 → v j = v0 j := fun j h0 h1 h2 => (ho j (swp_ne hpq h1 h2).1).trans (fr j h0 h1 h2)
          have hM_hi : zM (v pp) (n_5) ((h).natAbs) (false) := zM_b hM_hi ev
          have hNhi : zN (v pp) (((Nat.gcd x.natAbs y.natAbs : Nat) : Int)) := hG9 ▸ zN_pos hNhi ev
          refine lv_aload_n hx hb dK_shared_72 rfl (lv_at hl 1 rfl) ?_
          exact hend 73 (v, an0, sp0, pp) _ _ _ _ dK_shared_73 (⟨fr, ⟨rfl, rfl⟩, swp_or hpq, hNhi⟩) ⟨rfl, hZ⟩ hS
        · have hl0 : lw.natAbs ≠ 0 := by intro h9; have := (zN_0 hNlo).mpr (by omega); omega
          refine lv_aload_n hx hb dK_shared_41 rfl (lv_at hl 1 rfl) ?_
          refine lv_aload hx hb dK_shared_42 (lv_at hl 2 rfl) ?_
          refine lv_aload_n hx hb dK_shared_44 rfl (lv_at hl 0 rfl) ?_
          refine zk_quotient hx hb ht hown hK hZ tw_59 dK_shared_45 ?_
          refine zcV_v 2 (As := [.ref (B + qq), .ref (B + 23)]) (rest := []) rfl ⟨hx, hb, hml, hown, ht⟩ (mW_divideOut l E B v (zo E B o an0 sp0) pp hl_pq1 (v pp).1 (v pp).2.1 (v pp).2.2 rfl qq hl_pq2 (v qq).1 (v qq).2.1 (v qq).2.2 rfl 23 (by decide) (v 23).1 (v 23).2.1 (v 23).2.2 rfl (Ne.symm n_pq) n_pq_23.1 n_pq_23.2 hNhi.1 hNhi.2.1 ((zN_len (hZ.2 pp hl_pq1).1 hNhi).mpr (zX_sm hXh)) (fun h9 => absurd ((zN_0 hNlo).mp h9) (by omega)) hNlo.1) tw_415 tw_412 tw_413 tw_414 tw_2 qW_divideOut (by rw [hR]; decide) (zW_recv hK hZ hl_pq1) hZ hK hl.1 rfl rfl (Nat.le_of_ble_eq_true rfl) dK_shared_48 ⟨Nat.zero_le _, Nat.zero_le _⟩ hS (fun v H locs hp hZ _ hS => ?_)
          obtain ⟨ho, q9, r9, he9, hr9, hN8, hN9⟩ := hp
          obtain ⟨e8, e9⟩ := zN_div hNhi hNlo he9 hr9
          rw [e8] at hN8
          rw [e9, zN_rest hNhi] at hN9
          have hNlo : zN (v qq) (lw) := by rw [ho _ (Ne.symm n_pq) (Ne.symm n_pq_23.2)]; exact hNlo
          have fr : ∀ j, j ≠ 23 → j ≠ 31 → j ≠ 33 → v j = v0 j := fun j h0 h1 h2 => (ho j (swp_ne hpq h1 h2).1 h0).trans (fr j h0 h1 h2)
          have hN23 : zN (v 23) ((((h).natAbs / (lw).natAbs : Nat) : Int)) := hN8
          have hNhi : zN (v pp) ((h).tmod (lw)) := hN9
          refine lv_aload_n hx hb dK_shared_51 rfl (lv_at hl 1 rfl) ?_
          refine lv_astore (lv' := [(6, .ref (B + pp)), (0, .ref (B + 22)), (3, .ref (B + pp)), (4, .ref (B + qq)), (5, .int (iZ (↑st)))]) hx hb dK_shared_52 hl (by decide) rfl (fun ls hl => ?_)
          refine lv_aload hx hb dK_shared_54 (lv_at hl 3 rfl) ?_
          refine lv_astore_n (lv' := [(3, .ref (B + qq)), (6, .ref (B + pp)), (0, .ref (B + 22)), (4, .ref (B + qq)), (5, .int (iZ (↑st)))]) hx hb dK_shared_56 rfl hl (by decide) rfl (fun ls hl => ?_)
          refine lv_aload hx hb dK_shared_57 (lv_at hl 1 rfl) ?_
          refine lv_astore (lv' := [(4, .ref (B + pp)), (3, .ref (B + qq)), (6, .ref (B + pp)), (0, .ref (B + 22)), (5, .int (iZ (↑st)))]) hx hb dK_shared_59 hl (by decide) rfl (fun ls hl => ?_)
          refine lv_iinc (v := iZ (↑st + 1)) (lv' := [(5, .int (iZ (↑st + 1))), (4, .ref (B + pp)), (3, .ref (B + qq)), (6, .ref (B + pp)), (0, .ref (B + 22))]) hx hb dK_shared_61 hl (k := 4) rfl (iZ_add _ _) (by decide) rfl (fun ls hl => ?_)
          refine lv_goto (tgt := 25) hx hb dK_shared_64 (by decide) ?_
          rw [show (↑st + 1 : Int) = ↑(st + 1) from by omega] at hl
          exact ihL25 (st + 1) lw (h.tmod lw) qq pp v _ _ _ (by omega) (by omega) (swp_sym hpq) (by rw [Int.natAbs_tmod]; exact eu_step hl0 hE) (gcd_st.trans hG) (hXl) (zX_tmod hXh) (hNlo) (hNhi) fr hZ hS (lv_sub hl [4, 2, 1, 0] rfl)
  exact L25 _ 0 x y 31 33 v _ _ _ (Nat.lt_succ_self _) (Nat.zero_le _) (Or.inl ⟨rfl, rfl⟩) (eu_0 hXy) (rfl) (hXx) (hXy) hNhi hNlo fr hZ hS (lv_sub hl [3, 2, 1, 0] rfl)

theorem nabs {n : Nat} : ((n : Int)).natAbs = n := Int.natAbs_natCast n
theorem imp_val {xa ga k : Nat} {b : Bool} (hb : b = false) {t : Nat} (ht : t = ((((((xa : Nat) : Int)).natAbs / (((ga : Nat) : Int) ^ k).natAbs : Nat) : Int)).natAbs + k * (((ga : Nat) : Int)).natAbs) : (if b = true then -((t / (k + 1) : Nat) : Int) else ((t / (k + 1) : Nat) : Int)) = (((xa / ga ^ k + k * ga) / (k + 1) : Nat) : Int) := by
  rw [ht, hb, Int.natAbs_pow, nabs, nabs, nabs]; rfl
set_option maxHeartbeats 4000000 in
set_option maxRecDepth 100000 in
theorem mK_improve (l : Launch) (E : zE) (B : Nat) (v0 : Nat → zV) (o : Nat → va_E) (an0 sp0 : Nat) (hA0 : swp 27 29 an0 sp0) (a : Nat) (hla : lp a = true) (xa : Nat) (hVxa : zN (v0 a) ((xa : Nat) : Int)) (k : Nat) (hk : k < 64) (pp : Nat) (hlpp : lp pp = true) (ga : Nat) (hVga : zN (v0 pp) ((ga : Nat) : Int)) (qq : Nat) (hpq : swp 31 33 pp qq) (ha : a ≠ 25 ∧ a ≠ 27 ∧ a ≠ 29 ∧ a ≠ 31 ∧ a ≠ 33) (hga : 1 ≤ ga) (hgb : l80 ga) (hgp : smp ((ga : Nat) : Int) k) (hxb : l80 xa) :
    Met l yK_improve (zws yK_improve cK_improve 5 none) { frames := 4, cells := 0, slots := 0, locals := 150 } (zPc E (zD E B v0 (zo E B o an0 sp0)) [.ref (B + 22), .ref (B + a), .int (iZ (((k + 1 : Nat) : Int))), .ref (B + pp), .ref (B + qq)]) (va_Qv (fun u : (Nat → zV) × Nat × Nat × Nat => (∀ j, j ≠ 25 → j ≠ 27 → j ≠ 29 → j ≠ qq → u.1 j = v0 j) ∧ swp 27 29 u.2.1 u.2.2.1 ∧ zN (u.1 qq) (((xa / ga ^ k + k * ga) / (k + 1) : Nat) : Int)) (fun (u : (Nat → zV) × Nat × Nat × Nat) t => zD E B u.1 (zo E B o u.2.1 u.2.2.1) t.heap ∧ zK E t) (zA B 80)) 0 0 (zA B 80) := by
  have hpq1 : (pp = 31 ∧ qq = 33) ∨ (pp = 33 ∧ qq = 31) := hpq
  have hA1 : (an0 = 27 ∧ sp0 = 29) ∨ (an0 = 29 ∧ sp0 = 27) := hA0
  have ne_0_1 : nA 25 an0 := by show 25 ≠ an0; omega
  have ne_0_2 : nA 25 a := by show 25 ≠ a; omega
  have ne_0_3 : nA 25 pp := by show 25 ≠ pp; omega
  have ne_0_4 : nA 25 qq := by show 25 ≠ qq; omega
  have ne_1_2 : nA an0 a := by show an0 ≠ a; omega
  have ne_1_3 : nA an0 pp := by show an0 ≠ pp; omega
  have ne_1_4 : nA an0 qq := by show an0 ≠ qq; omega
  have ne_2_3 : nA a pp := by show a ≠ pp; omega
  have ne_2_4 : nA a qq := by show a ≠ qq; omega
  have ne_2_5 : nA a 27 := by show a ≠ 27; omega
  have ne_2_6 : nA a 29 := by show a ≠ 29; omega
  have ne_3_4 : nA pp qq := by show pp ≠ qq; omega
  have ne_3_5 : nA pp 27 := by show pp ≠ 27; omega
  have ne_3_6 : nA pp 29 := by show pp ≠ 29; omega
  have ne_4_5 : nA qq 27 := by show qq ≠ 27; omega
  have ne_4_6 : nA qq 29 := by show qq ≠ 29; omega
  clear ha
  clear hpq1
  clear hA1
  refine zof_v (P' := fun (u : (Nat → zV) × Nat × Nat × Nat) H => zD E B u.1 (zo E B o u.2.1 u.2.2.1) H) (by decide) (Nat.le_of_ble_eq_true rfl) fun p e R s m args below meth c Q ls hR hx hb hml ht hown hK hZ hl hend => ?_
  have hS : va_S (zA B 80) s.heap s.heap [] := va_S.rf
  have hown : s.vm.findClass "WholeDesk$Reckoner" = some m.cls := hown
  have hl : lv_has ls 5 [(0, .ref (B + 22)), (1, .ref (B + a)), (2, .int (iZ (((k + 1 : Nat) : Int)))), (3, .ref (B + pp)), (4, .ref (B + qq))] := hl
  have hlan : lp an0 = true := (swp_lp hA0 (by decide) (by decide)).1
  have hlsp : lp sp0 = true := (swp_lp hA0 (by decide) (by decide)).2
  have hlqq : lp qq = true := (swp_lp hpq (by decide) (by decide)).2
  have hcg := (zN_len (hZ.2 pp hlpp).1 hVga (k := 80)).mpr (by rw [nabs]; exact hgb)
  have fr : ∀ j, j ≠ 25 → j ≠ 27 → j ≠ 29 → j ≠ qq → v0 j = v0 j := fun j _ _ _ _ => rfl
  refine lv_aload_n hx hb dK_improve_0 rfl (lv_at hl 0 rfl) ?_
  refine zk_rest hx hb ht hown hK hZ tw_61 dK_improve_1 ?_
  refine lv_aload_n hx hb dK_improve_4 rfl (lv_at hl 1 rfl) ?_
  refine zcV_v 1 (As := [.ref (B + a)]) (rest := []) rfl ⟨hx, hb, hml, hown, ht⟩ (mW_copy l E B v0 (zo E B o an0 sp0) 25 (by decide) (v0 25).1 (v0 25).2.1 (v0 25).2.2 rfl a hla (v0 a).1 (v0 a).2.1 (v0 a).2.2 rfl (Ne.symm ne_0_2)) tw_345 tw_368 tw_343 tw_344 tw_2 qW_copy (by rw [hR]; decide) (zW_recv hK hZ (by decide)) hZ hK hl.1 rfl rfl (Nat.le_of_ble_eq_true rfl) dK_improve_5 ⟨Nat.zero_le _, Nat.zero_le _⟩ hS (fun v H locs hp hZ _ hS => ?_)
  obtain ⟨ho, d9, ev9, hd9⟩ := hp
  have hN9 : zN (v 25) (((xa : Nat) : Int)) := by rw [ev9]; exact zN_copy hVxa hd9
  have hVxa : zN (v a) (((xa : Nat) : Int)) := by rw [ho _ (Ne.symm ne_0_2)]; exact hVxa
  have hVga : zN (v pp) (((ga : Nat) : Int)) := by rw [ho _ (Ne.symm ne_0_3)]; exact hVga
  have fr : ∀ j, j ≠ 25 → j ≠ 27 → j ≠ 29 → j ≠ qq → v j = v0 j := fun j h0 h1 h2 h3 => (ho j h0).trans (fr j h0 h1 h2 h3)
  have hN25 : zN (v 25) (((xa : Nat) : Int)) := hN9
  refine lv_aload_n hx hb dK_improve_8 rfl (lv_at hl 0 rfl) ?_
  refine zk_rest hx hb ht hown hK hZ tw_61 dK_improve_9 ?_
  refine lv_aload_n hx hb dK_improve_12 rfl (lv_at hl 0 rfl) ?_
  refine lv_aload_n hx hb dK_improve_13 rfl (lv_at hl 3 rfl) ?_
  refine lv_iload_n hx hb dK_improve_14 rfl (lv_at hl 2 rfl) ?_
  refine lv_iconst (v := iZ (1)) hx hb dK_improve_15 (by decide) ?_
  refine zr_isub hx hb dK_improve_16 ?_
  refine zc_i (y := iZ (↑k)) (congrArg iZ (by omega)) ?_
  refine zcV_r (P' := fun (u : (Nat → zV) × Nat × Nat × Nat) a H => a = B + u.2.2.2 ∧ zD E B u.1 (zo E B o u.2.1 u.2.2.1) H) 2 (As := [.ref (B + pp), .int (iZ (↑k))]) (rest := [.ref (B + 25)]) rfl ⟨hx, hb, hml, hown, ht⟩ (mK_raised l E B v o an0 sp0 hA0 pp hlpp (((ga : Nat) : Int)) hVga ⟨ne_3_5, ne_3_6⟩ (k) (by omega) (hgp)) tw_457 tw_485 tw_455 tw_456 tw_3 qK_raised (by rw [hR]; decide) (zK_recv hK hZ) hZ hK hl.1 rfl rfl (Nat.le_of_ble_eq_true rfl) dK_improve_17 ⟨Nat.zero_le _, Nat.zero_le _⟩ hS (fun u r9 H locs hp hZ _ hS => ?_)
  obtain ⟨v, a9, s9, o9⟩ := u
  obtain ⟨ho, hA9, e9, hN9⟩ := hp
  obtain ⟨er9, hZ⟩ := hZ
  dsimp only at ho hA9 e9 hN9 er9 hZ
  rw [e9] at er9
  subst er9
  replace hA9 : swp 27 29 a9 s9 := hA9
  have hN25 : zN (v 25) (((xa : Nat) : Int)) := by rw [ho _ (by decide) (by decide)]; exact hN25
  have hVxa : zN (v a) (((xa : Nat) : Int)) := by rw [ho _ ne_2_5 ne_2_6]; exact hVxa
  have hVga : zN (v pp) (((ga : Nat) : Int)) := by rw [ho _ ne_3_5 ne_3_6]; exact hVga
  have fr : ∀ j, j ≠ 25 → j ≠ 27 → j ≠ 29 → j ≠ qq → v j = v0 j := fun j h0 h1 h2 h3 => (ho j h1 h2).trans (fr j h0 h1 h2 h3)
  have hl_ra1 : lp a9 = true := (swp_lp hA9 (by decide) (by decide)).1
  have hl_ra2 : lp s9 = true := (swp_lp hA9 (by decide) (by decide)).2
  have n_ra : nA a9 s9 := swp_as hA9 (by decide)
  have n_ra_25 := swp_ne (o := 25) hA9 (by decide) (by decide)
  have n_ra_a := swp_ne (o := a) hA9 ne_2_5 ne_2_6
  have n_ra_pp := swp_ne (o := pp) hA9 ne_3_5 ne_3_6
  have n_ra_qq := swp_ne (o := qq) hA9 ne_4_5 ne_4_6
  have hNan : zN (v a9) ((((ga : Nat) : Int)) ^ (k)) := hN9
  refine lv_aload hx hb dK_improve_20 (lv_at hl 4 rfl) ?_
  refine zcV_v 2 (As := [.ref (B + a9), .ref (B + qq)]) (rest := []) rfl ⟨hx, hb, hml, hown, ht⟩ (mW_divideOut l E B v (zo E B o a9 s9) 25 (by decide) (v 25).1 (v 25).2.1 (v 25).2.2 rfl a9 hl_ra1 (v a9).1 (v a9).2.1 (v a9).2.2 rfl qq hlqq (v qq).1 (v qq).2.1 (v qq).2.2 rfl (Ne.symm n_ra_25.1) (Ne.symm ne_0_4) n_ra_qq.1 hN25.1 hN25.2.1 ((zN_len (hZ.2 25 (by decide)).1 hN25).mpr (by rw [nabs]; exact Nat.lt_of_lt_of_le hxb (wP_mono (by decide)))) (fun h9 => absurd ((zN_0 hNan).mp h9) (Int.ne_of_gt (Int.pow_pos (by omega)))) hNan.1) tw_415 tw_412 tw_413 tw_414 tw_2 qW_divideOut (by rw [hR]; decide) (zW_recv hK hZ (by decide)) hZ hK hl.1 rfl rfl (Nat.le_of_ble_eq_true rfl) dK_improve_22 ⟨Nat.zero_le _, Nat.zero_le _⟩ hS (fun v H locs hp hZ _ hS => ?_)
  obtain ⟨ho, q9, r9, he9, hr9, hN8, hN9⟩ := hp
  obtain ⟨e8, e9⟩ := zN_div hN25 hNan he9 hr9
  rw [e8] at hN8
  rw [e9, zN_rest hN25] at hN9
  have hNan : zN (v a9) ((((ga : Nat) : Int)) ^ (k)) := by rw [ho _ (Ne.symm n_ra_25.1) (Ne.symm n_ra_qq.1)]; exact hNan
  have hVxa : zN (v a) (((xa : Nat) : Int)) := by rw [ho _ (Ne.symm ne_0_2) ne_2_4]; exact hVxa
  have hVga : zN (v pp) (((ga : Nat) : Int)) := by rw [ho _ (Ne.symm ne_0_3) ne_3_4]; exact hVga
  have fr : ∀ j, j ≠ 25 → j ≠ 27 → j ≠ 29 → j ≠ qq → v j = v0 j := fun j h0 h1 h2 h3 => (ho j h0 h3).trans (fr j h0 h1 h2 h3)
  have hNbe : zN (v qq) ((((((xa : Nat) : Int)).natAbs / ((((ga : Nat) : Int)) ^ (k)).natAbs : Nat) : Int)) := hN8
  have hN25 : zN (v 25) ((((xa : Nat) : Int)).tmod ((((ga : Nat) : Int)) ^ (k))) := hN9
  have hM_bet : zM (v qq) (v qq).2.1 ((((((xa : Nat) : Int)).natAbs / ((((ga : Nat) : Int)) ^ (k)).natAbs : Nat) : Int)).natAbs (v qq).2.2 := zN_M hNbe
  obtain ⟨n_1, hnn_1⟩ : ∃ n9, n9 = (v qq).2.1 := ⟨_, rfl⟩
  obtain ⟨b_2, hbb_2⟩ : ∃ b9, b9 = (v qq).2.2 := ⟨_, rfl⟩
  rw [← hnn_1, ← hbb_2] at hM_bet
  have hbf : b_2 = false := by rw [hbb_2]; exact zM_a hNbe (Int.natCast_nonneg _)
  have hfp : v pp = v0 pp := fr pp (Ne.symm ne_0_3) ne_3_5 ne_3_6 ne_3_4
  have hcq := (zN_len (hZ.2 qq hlqq).1 hNbe (k := 80)).mpr (by rw [nabs]; exact Nat.lt_of_le_of_lt (Nat.div_le_self _ _) (by rw [nabs]; exact hxb))
  have hsr := sum_room (hZ.2 qq hlqq).1 (hZ.2 pp hlpp).1 hNbe hVga k (by omega)
  rw [hfp, ← hnn_1] at hsr
  refine lv_aload hx hb dK_improve_25 (lv_at hl 4 rfl) ?_
  refine lv_aload hx hb dK_improve_27 (lv_at hl 4 rfl) ?_
  refine zw_count (d := (v qq).1) (n := (v qq).2.1) (b := (v qq).2.2) hx hb ht hown hK hZ hlqq rfl tw_33 dK_improve_29 ?_
  refine lv_aload_n hx hb dK_improve_32 rfl (lv_at hl 3 rfl) ?_
  refine zw_count (d := (v pp).1) (n := (v pp).2.1) (b := (v pp).2.2) hx hb ht hown hK hZ hlpp rfl tw_33 dK_improve_33 ?_
  refine zr_max hx hb (by rw [hml]; exact hl.1.symm) ht hown tw_369 (by rw [hR]; decide) (by rw [hR]; exact Nat.le_of_ble_eq_true rfl) (Nat.zero_le _) (Nat.zero_le _) (by omega) (by rw [hfp]; omega) dK_improve_36 ?_
  refine lv_iconst (v := iZ (1)) hx hb dK_improve_39 (by decide) ?_
  refine zr_iadd hx hb dK_improve_40 ?_
  have hst9 : max (v qq).2.1 (min ((max (↑(v qq).2.1 : Int) (↑(v pp).2.1 : Int)) + 1 : Int) 152).toNat = max n_1 (v0 pp).2.1 + 1 := by rw [hfp, ← hnn_1]; rw [← hnn_1] at hcq; omega
  refine zcV_v 1 (As := [.int (iZ ((max (↑(v qq).2.1 : Int) (↑(v pp).2.1 : Int)) + 1))]) (rest := []) rfl ⟨hx, hb, hml, hown, ht⟩ (mW_stretch l E B v (zo E B o a9 s9) qq hlqq (v qq).1 (v qq).2.1 (v qq).2.2 rfl ((max (↑(v qq).2.1 : Int) (↑(v pp).2.1 : Int)) + 1) (by rw [hfp]; unfold zi; omega)) tw_304 tw_370 tw_302 tw_303 tw_2 qW_stretch (by rw [hR]; decide) (zW_recv hK hZ hlqq) hZ hK hl.1 rfl rfl (Nat.le_of_ble_eq_true rfl) dK_improve_41 ⟨Nat.zero_le _, Nat.zero_le _⟩ hS (fun v H locs hp hZ _ hS => ?_)
  obtain ⟨ho, d9, n9, ev9, hn9, hlo9, hhi9⟩ := hp
  rw [hst9] at hn9
  have hle9 := hst9 ▸ Nat.le_max_left _ _
  have hM9 := zM_stretch hM_bet ev9 (by rw [hn9]; exact hle9) hlo9 hhi9
  rw [hn9] at hM9
  have hN25 : zN (v 25) ((((xa : Nat) : Int)).tmod ((((ga : Nat) : Int)) ^ (k))) := by rw [ho _ ne_0_4]; exact hN25
  have hNan : zN (v a9) ((((ga : Nat) : Int)) ^ (k)) := by rw [ho _ (Ne.symm n_ra_qq.1)]; exact hNan
  have hVxa : zN (v a) (((xa : Nat) : Int)) := by rw [ho _ ne_2_4]; exact hVxa
  have hVga : zN (v pp) (((ga : Nat) : Int)) := by rw [ho _ ne_3_4]; exact hVga
  have fr : ∀ j, j ≠ 25 → j ≠ 27 → j ≠ 29 → j ≠ qq → v j = v0 j := fun j h0 h1 h2 h3 => (ho j h3).trans (fr j h0 h1 h2 h3)
  have hM_bet : zM (v qq) (max n_1 (v0 pp).2.1 + 1) (((((((xa : Nat) : Int)).natAbs / ((((ga : Nat) : Int)) ^ (k)).natAbs : Nat) : Int)).natAbs) (b_2) := hM9
  have hfp2 : v pp = v0 pp := fr pp (Ne.symm ne_0_3) ne_3_5 ne_3_6 ne_3_4
  refine lv_aload hx hb dK_improve_44 (lv_at hl 4 rfl) ?_
  refine lv_aload_n hx hb dK_improve_46 rfl (lv_at hl 3 rfl) ?_
  refine lv_iload_n hx hb dK_improve_47 rfl (lv_at hl 2 rfl) ?_
  refine lv_iconst (v := iZ (1)) hx hb dK_improve_48 (by decide) ?_
  refine zr_isub hx hb dK_improve_49 ?_
  refine zc_i (y := iZ (↑k)) (congrArg iZ (by omega)) ?_
  refine zr_i2l hx hb (by omega) dK_improve_50 ?_
  refine lv_iconst (v := iZ (0)) hx hb dK_improve_51 (by decide) ?_
  refine zcV_l 3 (As := [.ref (B + pp), .long (lZ (↑k)), .int (iZ (0))]) (rest := []) rfl ⟨hx, hb, hml, hown, ht⟩ (mW_mix l E B v (zo E B o a9 s9) qq hlqq (v qq).1 (v qq).2.1 (v qq).2.2 rfl pp hlpp (v pp).1 (v pp).2.1 (v pp).2.2 rfl ne_3_4 (↑k) (by omega) 0 (by have h9 := hM_bet.1; rw [h9, hfp2]; omega)) tw_374 tw_371 tw_372 tw_373 tw_2 qW_mix (by rw [hR]; decide) (zW_recv hK hZ hlqq) hZ hK hl.1 rfl rfl (Nat.le_of_ble_eq_true rfl) dK_improve_52 ⟨Nat.zero_le _, Nat.zero_le _⟩ hS (fun r_3 v H locs hp hZ _ hS => ?_)
  obtain ⟨ho, d9, c9, ev9, hr9, hI9, hc8, hc9⟩ := hp
  have hM9 : zM (v qq) (max n_1 (v0 pp).2.1 + 1) (((((((xa : Nat) : Int)).natAbs / ((((ga : Nat) : Int)) ^ (k)).natAbs : Nat) : Int)).natAbs + k * (((ga : Nat) : Int)).natAbs) (b_2) := zM_mix (y := (((ga : Nat) : Int)).natAbs) hM_bet ev9 (hZ.2 qq hlqq).1 hI9 (zN_abs hVga) (by rw [Int.natCast_add, Int.natCast_mul]) (hsr)
  have hN25 : zN (v 25) ((((xa : Nat) : Int)).tmod ((((ga : Nat) : Int)) ^ (k))) := by rw [ho _ ne_0_4]; exact hN25
  have hNan : zN (v a9) ((((ga : Nat) : Int)) ^ (k)) := by rw [ho _ (Ne.symm n_ra_qq.1)]; exact hNan
  have hVxa : zN (v a) (((xa : Nat) : Int)) := by rw [ho _ ne_2_4]; exact hVxa
  have hVga : zN (v pp) (((ga : Nat) : Int)) := by rw [ho _ ne_3_4]; exact hVga
  have fr : ∀ j, j ≠ 25 → j ≠ 27 → j ≠ 29 → j ≠ qq → v j = v0 j := fun j h0 h1 h2 h3 => (ho j h3).trans (fr j h0 h1 h2 h3)
  have hM_bet : zM (v qq) (max n_1 (v0 pp).2.1 + 1) (((((((xa : Nat) : Int)).natAbs / ((((ga : Nat) : Int)) ^ (k)).natAbs : Nat) : Int)).natAbs + k * (((ga : Nat) : Int)).natAbs) (b_2) := hM9
  refine lv_pop2_2 hx hb dK_improve_55 rfl ?_
  refine lv_aload hx hb dK_improve_56 (lv_at hl 4 rfl) ?_
  refine lv_iload_n hx hb dK_improve_58 rfl (lv_at hl 2 rfl) ?_
  refine zr_i2l hx hb (by omega) dK_improve_59 ?_
  refine zcV_l 1 (As := [.long (lZ (((k + 1 : Nat) : Int)))]) (rest := []) rfl ⟨hx, hb, hml, hown, ht⟩ (mW_shrink l E B v (zo E B o a9 s9) qq hlqq (v qq).1 (v qq).2.1 (v qq).2.2 rfl (k + 1) (by omega) (by omega)) tw_489 tw_486 tw_487 tw_488 tw_2 qW_shrink (by rw [hR]; decide) (zW_recv hK hZ hlqq) hZ hK hl.1 rfl rfl (Nat.le_of_ble_eq_true rfl) dK_improve_60 ⟨Nat.zero_le _, Nat.zero_le _⟩ hS (fun r_4 v H locs hp hZ _ hS => ?_)
  obtain ⟨ho, q9, r9, hr9, hr8, hq9, hN9⟩ := hp
  have hq8 := zM_sh hM_bet hq9 hr8
  rw [hq8, hM_bet.2.2] at hN9
  have hN25 : zN (v 25) ((((xa : Nat) : Int)).tmod ((((ga : Nat) : Int)) ^ (k))) := by rw [ho _ ne_0_4]; exact hN25
  have hNan : zN (v a9) ((((ga : Nat) : Int)) ^ (k)) := by rw [ho _ (Ne.symm n_ra_qq.1)]; exact hNan
  have hVxa : zN (v a) (((xa : Nat) : Int)) := by rw [ho _ ne_2_4]; exact hVxa
  have hVga : zN (v pp) (((ga : Nat) : Int)) := by rw [ho _ ne_3_4]; exact hVga
  have fr : ∀ j, j ≠ 25 → j ≠ 27 → j ≠ 29 → j ≠ qq → v j = v0 j := fun j h0 h1 h2 h3 => (ho j h3).trans (fr j h0 h1 h2 h3)
  have hNbe : zN (v qq) ((((xa / ga ^ k + k * ga) / (k + 1) : Nat) : Int)) := (imp_val hbf rfl) ▸ hN9
  refine lv_pop2_2 hx hb dK_improve_63 rfl ?_
  exact hend 64 (v, a9, s9, 0) _ _ _ dK_improve_64 (⟨fr, hA9, hNbe⟩) hZ hS
