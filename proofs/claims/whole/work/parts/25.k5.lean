theorem root_q {xa q k e : Nat} (hq : q ≤ 2048) (hk : k < 64) (he : e = (q + (k + 1) - 1) / (k + 1)) : (k + 1) * (e + 1) ≤ 4096 ∧ e ≤ 2111 ∧ e * k ≤ 2111 := by
  have h1 := Nat.mul_div_le (q + (k + 1) - 1) (k + 1)
  rw [← he] at h1
  have h2 : (k + 1) * (e + 1) = (k + 1) * e + (k + 1) := Nat.mul_succ _ _
  have h3 : (k + 1) * e = k * e + e := Nat.succ_mul _ _
  have h4 : e * k = k * e := Nat.mul_comm _ _
  have h5 : 0 ≤ k * e := Nat.zero_le _
  omega
theorem root_gb {r e k s x : Nat} (he : e ≤ 2111) (h : newt r e k s x) : l80 x := by
  refine Nat.lt_of_le_of_lt h.2.2.1 ?_
  rw [wP_two]
  exact Nat.pow_lt_pow_right (by decide) (by omega)
theorem root_gp {r e k s x : Nat} (he : e * k ≤ 2111) (h : newt r e k s x) : smp ((x : Nat) : Int) k := by
  unfold smp
  rw [Int.natAbs_natCast]
  refine Nat.lt_of_le_of_lt (Nat.pow_le_pow_left h.2.2.1 k) ?_
  rw [← Nat.pow_mul, wP_two]
  exact Nat.pow_lt_pow_right (by decide) (by omega)
theorem root_0 {r n xa : Nat} (h1 : r ^ n ≤ xa) (h : xa = 0) (hn : n ≠ 0) : r = 0 := by
  subst h
  rcases Nat.eq_zero_or_pos r with h2 | h2
  · exact h2
  · have := Nat.pow_pos (n := n) h2; omega
theorem root_1 {r n xa : Nat} (h1 : xa < (r + 1) ^ n) (h : xa ≠ 0) : 1 ≤ r := by
  rcases Nat.eq_zero_or_pos r with h2 | h2
  · subst h2; rw [Nat.zero_add, Nat.one_pow] at h1; omega
  · exact h2
theorem idiv_c {q k : Nat} : (((q : Nat) : Int) + ((k + 1 : Nat) : Int) - 1) / ((k + 1 : Nat) : Int) = (((q + (k + 1) - 1) / (k + 1) : Nat) : Int) := by
  rw [Int.natCast_ediv]; congr 1; omega
theorem l80_X {x : Nat} (h : zX ((x : Nat) : Int)) : l80 x := by
  have h : ((x : Nat) : Int).natAbs < 2 ^ 2048 := h
  rw [Int.natAbs_natCast] at h
  refine Nat.lt_of_lt_of_le h ?_
  rw [wP_two]
  exact Nat.pow_le_pow_right (by decide) (by decide)
theorem bl_X {x q : Nat} (h : zX ((x : Nat) : Int)) (hb : bl ((x : Nat) : Int).natAbs q) : q ≤ 2048 ∧ bl x q := by
  have h9 : ((x : Nat) : Int).natAbs < 2 ^ 2048 := h
  exact ⟨(bl_le hb).mpr h9, by rw [Int.natAbs_natCast] at hb; exact hb⟩
set_option maxHeartbeats 4000000 in
set_option maxRecDepth 100000 in
theorem mK_rooted (l : Launch) (E : zE) (B : Nat) (v0 : Nat → zV) (o : Nat → va_E) (an0 sp0 : Nat) (hA0 : swp 27 29 an0 sp0) (a : Nat) (hla : lp a = true) (xa : Nat) (hVxa : zN (v0 a) ((xa : Nat) : Int)) (k : Nat) (hk : k < 64) (r : Nat) (hr0 : r ^ (k + 1) ≤ xa) (hr1 : xa < (r + 1) ^ (k + 1)) (hX : zX ((xa : Nat) : Int)) (ha : a ≠ 25 ∧ a ≠ 27 ∧ a ≠ 29 ∧ a ≠ 31 ∧ a ≠ 33) :
    Met l yK_rooted (zws yK_rooted cK_rooted 7 (some (.object "WholeDesk$Whole"))) { frames := 5, cells := 0, slots := 0, locals := 180 } (zPc E (zD E B v0 (zo E B o an0 sp0)) [.ref (B + 22), .ref (B + a), .int (iZ (((k + 1 : Nat) : Int)))]) (va_Qr (fun u : (Nat → zV) × Nat × Nat × Nat => (∀ j, j ≠ 25 → j ≠ 27 → j ≠ 29 → j ≠ 31 → j ≠ 33 → u.1 j = v0 j) ∧ swp 27 29 u.2.1 u.2.2.1 ∧ (u.2.2.2 = 31 ∨ u.2.2.2 = 33) ∧ zN (u.1 u.2.2.2) ((r : Nat) : Int)) (fun (u : (Nat → zV) × Nat × Nat × Nat) a t => (a = B + u.2.2.2 ∧ zD E B u.1 (zo E B o u.2.1 u.2.2.1) t.heap) ∧ zK E t) (zA B 80)) 0 0 (zA B 80) := by
  have hA1 : (an0 = 27 ∧ sp0 = 29) ∨ (an0 = 29 ∧ sp0 = 27) := hA0
  have ne_0_1 : nA 25 an0 := by show 25 ≠ an0; omega
  have ne_0_2 : nA 25 a := by show 25 ≠ a; omega
  have ne_1_2 : nA an0 a := by show an0 ≠ a; omega
  have ne_1_3 : nA an0 31 := by show an0 ≠ 31; omega
  have ne_1_4 : nA an0 33 := by show an0 ≠ 33; omega
  have ne_2_3 : nA a 31 := by show a ≠ 31; omega
  have ne_2_4 : nA a 33 := by show a ≠ 33; omega
  have ne_2_5 : nA a 27 := by show a ≠ 27; omega
  have ne_2_6 : nA a 29 := by show a ≠ 29; omega
  clear ha
  clear hA1
  refine zof_r (P' := fun (u : (Nat → zV) × Nat × Nat × Nat) a H => a = B + u.2.2.2 ∧ zD E B u.1 (zo E B o u.2.1 u.2.2.1) H) (by decide) (Nat.le_of_ble_eq_true rfl) fun p e R s m args below meth c Q ls hR hx hb hml ht hown hK hZ hl hend => ?_
  have hS : va_S (zA B 80) s.heap s.heap [] := va_S.rf
  have hown : s.vm.findClass "WholeDesk$Reckoner" = some m.cls := hown
  have hl : lv_has ls 7 [(0, .ref (B + 22)), (1, .ref (B + a)), (2, .int (iZ (((k + 1 : Nat) : Int))))] := hl
  have hlan : lp an0 = true := (swp_lp hA0 (by decide) (by decide)).1
  have hlsp : lp sp0 = true := (swp_lp hA0 (by decide) (by decide)).2
  have fr : ∀ j, j ≠ 25 → j ≠ 27 → j ≠ 29 → j ≠ 31 → j ≠ 33 → v0 j = v0 j := fun j _ _ _ _ _ => rfl
  refine lv_aload_n hx hb dK_rooted_0 rfl (lv_at hl 0 rfl) ?_
  refine zk_first hx hb ht hown hK hZ tw_65 dK_rooted_1 ?_
  refine lv_astore_n (lv' := [(3, .ref (B + 31)), (0, .ref (B + 22)), (1, .ref (B + a)), (2, .int (iZ (((k + 1 : Nat) : Int))))]) hx hb dK_rooted_4 rfl hl (by decide) rfl (fun ls hl => ?_)
  refine lv_aload_n hx hb dK_rooted_5 rfl (lv_at hl 1 rfl) ?_
  refine zk_second hx hb ht hown hK hZ tw_66 dK_rooted_6 ?_
  refine lv_astore (lv' := [(4, .ref (B + 33)), (3, .ref (B + 31)), (0, .ref (B + 22)), (1, .ref (B + a)), (2, .int (iZ (((k + 1 : Nat) : Int))))]) hx hb dK_rooted_9 hl (by decide) rfl (fun ls hl => ?_)
  refine lv_iload_n hx hb dK_rooted_11 rfl (lv_at hl 4 rfl) ?_
  refine lv_iconst (v := iZ (1)) hx hb dK_rooted_12 (by decide) ?_
  refine zr_icmp_lt (tgt := 23) hx hb (by omega) (by omega) dK_rooted_13 (by decide) (fun c_1 => ?_) (fun c_1 => ?_)
  · omega
  · refine lv_aload_n hx hb dK_rooted_16 rfl (lv_at hl 3 rfl) ?_
    refine zw_count (d := (v0 a).1) (n := (v0 a).2.1) (b := (v0 a).2.2) hx hb ht hown hK hZ hla rfl tw_33 dK_rooted_17 ?_
    refine zr_if_ne (tgt := 30) hx hb (by have := (hZ.2 a hla).2; unfold zi; omega) dK_rooted_20 (by decide) (fun c_2 => ?_) (fun c_2 => ?_)
    · have hx9 : xa ≠ 0 := fun h9 => by have := (zN_0 hVxa).mpr (by omega); omega
      have hr9 := root_1 hr1 hx9
      refine lv_aload_n hx hb dK_rooted_30 rfl (lv_at hl 1 rfl) ?_
      refine lv_aload_n hx hb dK_rooted_31 rfl (lv_at hl 3 rfl) ?_
      refine zcV_i 0 (As := []) (rest := [.ref (B + 31)]) rfl ⟨hx, hb, hml, hown, ht⟩ (mW_bits l E B v0 (zo E B o an0 sp0) a hla (v0 a).1 (v0 a).2.1 (v0 a).2.2 rfl) tw_318 tw_476 tw_316 tw_317 tw_2 qW_bits (by rw [hR]; decide) (zW_recv hK hZ hla) hZ hK hl.1 rfl rfl (Nat.le_of_ble_eq_true rfl) dK_rooted_32 ⟨Nat.zero_le _, Nat.zero_le _⟩ hS (fun r_3 v1 H locs hp hZ _ hS => ?_)
      obtain ⟨hv1, q, hr1, hq8, hq9⟩ := hp
      rw [hv1] at hZ
      subst hr1
      clear hv1 v1
      have hbl_q : bl (((xa : Nat) : Int)).natAbs q := zN_bl (hZ.2 a hla).1 hVxa hq8 hq9
      clear hq8 hq9
      obtain ⟨hq9, hbq⟩ := bl_X hX hbl_q
      obtain ⟨ee, hee⟩ : ∃ e, e = (q + (k + 1) - 1) / (k + 1) := ⟨_, rfl⟩
      obtain ⟨he1, he2, he3⟩ := root_q (xa := xa) hq9 hk hee
      refine lv_iload_n hx hb dK_rooted_35 rfl (lv_at hl 4 rfl) ?_
      refine zr_iadd hx hb dK_rooted_36 ?_
      refine lv_iconst (v := iZ (1)) hx hb dK_rooted_37 (by decide) ?_
      refine zr_isub hx hb dK_rooted_38 ?_
      refine lv_iload_n hx hb dK_rooted_39 rfl (lv_at hl 4 rfl) ?_
      refine zr_idiv hx hb (by omega) (by omega) (by omega) (by omega) dK_rooted_40 ?_
      refine zc_i (y := iZ (↑ee)) (congrArg iZ (by rw [hee]; exact idiv_c)) ?_
      refine zcV_v 1 (As := [.int (iZ (↑ee))]) (rest := []) rfl ⟨hx, hb, hml, hown, ht⟩ (mW_becomePowerOfTwo l E B v0 (zo E B o an0 sp0) 31 (by decide) (v0 31).1 (v0 31).2.1 (v0 31).2.2 rfl (ee) (by omega)) tw_480 tw_477 tw_478 tw_479 tw_2 qW_becomePowerOfTwo (by rw [hR]; decide) (zW_recv hK hZ (by decide)) hZ hK hl.1 rfl rfl (Nat.le_of_ble_eq_true rfl) dK_rooted_41 ⟨Nat.zero_le _, Nat.zero_le _⟩ hS (fun v H locs hp hZ _ hS => ?_)
      obtain ⟨ho, hN9⟩ := hp
      have hVxa : zN (v a) (((xa : Nat) : Int)) := by rw [ho _ ne_2_3]; exact hVxa
      have fr : ∀ j, j ≠ 25 → j ≠ 27 → j ≠ 29 → j ≠ 31 → j ≠ 33 → v j = v0 j := fun j h0 h1 h2 h3 h4 => (ho j h3).trans (fr j h0 h1 h2 h3 h4)
      have hNg : zN (v 31) (((2 ^ (ee) : Nat) : Int)) := hN9
      refine lv_iconst (v := iZ (0)) hx hb dK_rooted_44 (by decide) ?_
      refine lv_istore (lv' := [(5, .int (iZ (0))), (4, .ref (B + 33)), (3, .ref (B + 31)), (0, .ref (B + 22)), (1, .ref (B + a)), (2, .int (iZ (((k + 1 : Nat) : Int))))]) hx hb dK_rooted_45 hl (by decide) rfl (fun ls hl => ?_)
      have L47 : ∀ (fu : Nat) (st : Nat) (ga : Nat) (pp : Nat) (qq : Nat) (an sp : Nat) (v : Nat → zV) (H : Heap) (locs : List Loc) (ls : Array Slot), 4096 - st < fu → swp 27 29 an sp → (st ≤ 4096) → (swp 31 33 pp qq) → (newt r ee k st ga) → zN (v a) (((xa : Nat) : Int)) → zN (v pp) (((ga : Nat) : Int)) → (∀ j, j ≠ 25 → j ≠ 27 → j ≠ 29 → j ≠ 31 → j ≠ 33 → v j = v0 j) → zD E B v (zo E B o an sp) H → va_S (zA B 80) s.heap H locs → lv_has ls 7 [(0, .ref (B + 22)), (1, .ref (B + a)), (2, .int (iZ (((k + 1 : Nat) : Int)))), (3, .ref (B + pp)), (4, .ref (B + qq)), (5, .int (iZ (↑st)))] → W p l e R s m args below meth c H locs 0 0 Q (F0 m 47 ls []) := by
        intro fu
        induction fu with
        | zero => intro st ga pp qq an sp v H locs ls hm; exact absurd hm (Nat.not_lt_zero _)
        | succ fu ihL47 =>
          intro st ga pp qq an sp v H locs ls hm hA9 hst hpq hW hVxa hNg fr hZ hS hl
          have hl_pq1 : lp pp = true := (swp_lp hpq (by decide) (by decide)).1
          have hl_pq2 : lp qq = true := (swp_lp hpq (by decide) (by decide)).2
          have n_pq : nA pp qq := swp_as hpq (by decide)
          have n_pq_25 := swp_ne (o := 25) hpq (by decide) (by decide)
          have n_pq_27 := swp_ne (o := 27) hpq (by decide) (by decide)
          have n_pq_29 := swp_ne (o := 29) hpq (by decide) (by decide)
          have n_pq_a := swp_ne (o := a) hpq ne_2_3 ne_2_4
          have hl_sw1 : lp an = true := (swp_lp hA9 (by decide) (by decide)).1
          have hl_sw2 : lp sp = true := (swp_lp hA9 (by decide) (by decide)).2
          have n_sw : nA an sp := swp_as hA9 (by decide)
          have n_sw_25 := swp_ne (o := 25) hA9 (by decide) (by decide)
          have n_sw_a := swp_ne (o := a) hA9 ne_2_5 ne_2_6
          have n_sw_pp := swp_ne (o := pp) hA9 (Ne.symm n_pq_27.1) (Ne.symm n_pq_29.1)
          have n_sw_qq := swp_ne (o := qq) hA9 (Ne.symm n_pq_27.2) (Ne.symm n_pq_29.2)
          refine lv_iload hx hb dK_rooted_47 (lv_at hl 5 rfl) ?_
          refine lv_sipush (v := iZ (4096)) hx hb dK_rooted_49 (by decide) ?_
          refine zr_icmp_ge (tgt := 92) hx hb (by omega) (by omega) dK_rooted_52 (by decide) (fun c_4 => ?_) (fun c_4 => ?_)
          · have hgr : ga = r := by have e9 : st = 4096 := (by omega); rw [e9] at hW; exact newt_end hk he1 hW
            rw [hgr] at hNg
            refine lv_aload_n hx hb dK_rooted_92 rfl (lv_at hl 3 rfl) ?_
            exact hend 93 (v, an, sp, pp) _ _ _ _ dK_rooted_93 (⟨fr, hA9, swp_or hpq, hNg⟩) ⟨rfl, hZ⟩ hS
          · refine lv_aload_n hx hb dK_rooted_55 rfl (lv_at hl 0 rfl) ?_
            refine lv_aload_n hx hb dK_rooted_56 rfl (lv_at hl 1 rfl) ?_
            refine lv_iload_n hx hb dK_rooted_57 rfl (lv_at hl 2 rfl) ?_
            refine lv_aload_n hx hb dK_rooted_58 rfl (lv_at hl 3 rfl) ?_
            refine lv_aload hx hb dK_rooted_59 (lv_at hl 4 rfl) ?_
            refine zcV_v 4 (As := [.ref (B + a), .int (iZ (((k + 1 : Nat) : Int))), .ref (B + pp), .ref (B + qq)]) (rest := []) rfl ⟨hx, hb, hml, hown, ht⟩ (mK_improve l E B v o an sp hA9 a hla xa hVxa k hk pp hl_pq1 ga hNg qq hpq ⟨(Ne.symm ne_0_2), ne_2_5, ne_2_6, ne_2_3, ne_2_4⟩ hW.2.1 (root_gb he2 hW) (root_gp he3 hW) (l80_X hX)) tw_484 tw_481 tw_483 tp_7 tw_3 qK_improve (by rw [hR]; decide) (zK_recv hK hZ) hZ hK hl.1 rfl rfl (Nat.le_of_ble_eq_true rfl) dK_rooted_61 ⟨Nat.zero_le _, Nat.zero_le _⟩ hS (fun u H locs hp hZ _ hS => ?_)
            obtain ⟨v, a9, s9, o9⟩ := u
            obtain ⟨ho, hA8, hN9⟩ := hp
            dsimp only at ho hA8 hN9 hZ
            have hVxa : zN (v a) (((xa : Nat) : Int)) := by rw [ho _ (Ne.symm ne_0_2) ne_2_5 ne_2_6 n_pq_a.2]; exact hVxa
            have hNg : zN (v pp) (((ga : Nat) : Int)) := by rw [ho _ (Ne.symm n_pq_25.1) (Ne.symm n_pq_27.1) (Ne.symm n_pq_29.1) n_pq]; exact hNg
            have fr : ∀ j, j ≠ 25 → j ≠ 27 → j ≠ 29 → j ≠ 31 → j ≠ 33 → v j = v0 j := fun j h0 h1 h2 h3 h4 => (ho j h0 h1 h2 (swp_ne hpq h3 h4).2).trans (fr j h0 h1 h2 h3 h4)
            have hl_im1 : lp a9 = true := (swp_lp hA8 (by decide) (by decide)).1
            have hl_im2 : lp s9 = true := (swp_lp hA8 (by decide) (by decide)).2
            have n_im : nA a9 s9 := swp_as hA8 (by decide)
            have n_im_25 := swp_ne (o := 25) hA8 (by decide) (by decide)
            have n_im_a := swp_ne (o := a) hA8 ne_2_5 ne_2_6
            have n_im_pp := swp_ne (o := pp) hA8 (Ne.symm n_pq_27.1) (Ne.symm n_pq_29.1)
            have n_im_qq := swp_ne (o := qq) hA8 (Ne.symm n_pq_27.2) (Ne.symm n_pq_29.2)
            have hNbe : zN (v qq) ((((xa / ga ^ k + k * ga) / (k + 1) : Nat) : Int)) := hN9
            refine lv_aload hx hb dK_rooted_64 (lv_at hl 4 rfl) ?_
            refine lv_aload_n hx hb dK_rooted_66 rfl (lv_at hl 3 rfl) ?_
            refine zcV_i 1 (As := [.ref (B + pp)]) (rest := []) rfl ⟨hx, hb, hml, hown, ht⟩ (mW_sizeAgainst l E B v (zo E B o a9 s9) qq hl_pq2 (v qq).1 (v qq).2.1 (v qq).2.2 rfl pp hl_pq1 (v pp).1 (v pp).2.1 (v pp).2.2 rfl hNbe.1 hNg.1) tw_378 tw_375 tw_376 tw_377 tw_2 qW_sizeAgainst (by rw [hR]; decide) (zW_recv hK hZ hl_pq2) hZ hK hl.1 rfl rfl (Nat.le_of_ble_eq_true rfl) dK_rooted_67 ⟨Nat.zero_le _, Nat.zero_le _⟩ hS (fun r_5 v1 H locs hp hZ _ hS => ?_)
            obtain ⟨hv1, hr1⟩ := hp
            rw [hv1] at hZ
            rw [← zN_abs hNbe, ← zN_abs hNg] at hr1
            subst hr1
            clear hv1 v1
            refine zr_if_lt (tgt := 76) hx hb (cmp_zi _ _) dK_rooted_70 (by decide) (fun c_6 => ?_) (fun c_6 => ?_)
            · have hlt9 : (xa / ga ^ k + k * ga) / (k + 1) < ga := by have h9 := cmp_lt9 (by assumption); rw [nabs, nabs] at h9; exact Int.ofNat_lt.mp h9
              refine lv_aload_n hx hb dK_rooted_76 rfl (lv_at hl 3 rfl) ?_
              refine lv_astore (lv' := [(6, .ref (B + pp)), (0, .ref (B + 22)), (1, .ref (B + a)), (2, .int (iZ (((k + 1 : Nat) : Int)))), (3, .ref (B + pp)), (4, .ref (B + qq)), (5, .int (iZ (↑st)))]) hx hb dK_rooted_77 hl (by decide) rfl (fun ls hl => ?_)
              refine lv_aload hx hb dK_rooted_79 (lv_at hl 5 rfl) ?_
              refine lv_astore_n (lv' := [(3, .ref (B + qq)), (6, .ref (B + pp)), (0, .ref (B + 22)), (1, .ref (B + a)), (2, .int (iZ (((k + 1 : Nat) : Int)))), (4, .ref (B + qq)), (5, .int (iZ (↑st)))]) hx hb dK_rooted_81 rfl hl (by decide) rfl (fun ls hl => ?_)
              refine lv_aload hx hb dK_rooted_82 (lv_at hl 1 rfl) ?_
              refine lv_astore (lv' := [(4, .ref (B + pp)), (3, .ref (B + qq)), (6, .ref (B + pp)), (0, .ref (B + 22)), (1, .ref (B + a)), (2, .int (iZ (((k + 1 : Nat) : Int)))), (5, .int (iZ (↑st)))]) hx hb dK_rooted_84 hl (by decide) rfl (fun ls hl => ?_)
              refine lv_iinc (v := iZ (↑st + 1)) (lv' := [(5, .int (iZ (↑st + 1))), (4, .ref (B + pp)), (3, .ref (B + qq)), (6, .ref (B + pp)), (0, .ref (B + 22)), (1, .ref (B + a)), (2, .int (iZ (((k + 1 : Nat) : Int))))]) hx hb dK_rooted_86 hl (k := 6) rfl (iZ_add _ _) (by decide) rfl (fun ls hl => ?_)
              refine lv_goto (tgt := 47) hx hb dK_rooted_89 (by decide) ?_
              rw [show (↑st + 1 : Int) = ↑(st + 1) from by omega] at hl
              exact ihL47 (st + 1) ((xa / ga ^ k + k * ga) / (k + 1)) qq pp a9 s9 v _ _ _ (by omega) hA8 (by omega) (swp_sym hpq) (newt_next hr9 hr0 hr1 hW hlt9) hVxa (hNbe) fr hZ hS (lv_sub hl [4, 5, 6, 2, 1, 0] rfl)
            · have hge9 : ga ≤ (xa / ga ^ k + k * ga) / (k + 1) := by have h9 := cmp_ge (Int.not_lt.mpr (by assumption)); rw [nabs, nabs] at h9; exact Int.ofNat_le.mp h9
              refine lv_goto (tgt := 92) hx hb dK_rooted_73 (by decide) ?_
              have hgr := newt_stop hr1 hW hge9
              rw [hgr] at hNg
              refine lv_aload_n hx hb dK_rooted_92 rfl (lv_at hl 3 rfl) ?_
              exact hend 93 (v, a9, s9, pp) _ _ _ _ dK_rooted_93 (⟨fr, hA8, swp_or hpq, hNg⟩) ⟨rfl, hZ⟩ hS
      exact L47 _ 0 (2 ^ ee) 31 33 an0 sp0 v _ _ _ (Nat.lt_succ_self _) hA0 (Nat.zero_le _) (Or.inl ⟨rfl, rfl⟩) (by rw [hee]; exact newt_first rfl hr0 hbq hr9) hVxa hNg fr hZ hS (lv_sub hl [3, 4, 5, 2, 1, 0] rfl)
    · have hr9 : r = 0 := root_0 hr0 (by have := (zN_0 hVxa).mp (by omega); omega) (by omega)
      refine lv_aload_n hx hb dK_rooted_23 rfl (lv_at hl 1 rfl) ?_
      refine lv_lconst (v := lZ (0)) hx hb dK_rooted_24 (by decide) ?_
      refine zcV_v 1 (As := [.long (lZ (0))]) (rest := []) rfl ⟨hx, hb, hml, hown, ht⟩ (mW_become l E B v0 (zo E B o an0 sp0) 31 (by decide) (v0 31).1 (v0 31).2.1 (v0 31).2.2 rfl (0) (by omega)) tw_290 tw_458 tw_288 tw_289 tw_2 qW_become (by rw [hR]; decide) (zW_recv hK hZ (by decide)) hZ hK hl.1 rfl rfl (Nat.le_of_ble_eq_true rfl) dK_rooted_25 ⟨Nat.zero_le _, Nat.zero_le _⟩ hS (fun v H locs hp hZ _ hS => ?_)
      obtain ⟨ho, hN9⟩ := hp
      have hVxa : zN (v a) (((xa : Nat) : Int)) := by rw [ho _ ne_2_3]; exact hVxa
      have fr : ∀ j, j ≠ 25 → j ≠ 27 → j ≠ 29 → j ≠ 31 → j ≠ 33 → v j = v0 j := fun j h0 h1 h2 h3 h4 => (ho j h3).trans (fr j h0 h1 h2 h3 h4)
      have hNg : zN (v 31) (0) := hN9
      refine lv_aload_n hx hb dK_rooted_28 rfl (lv_at hl 1 rfl) ?_
      exact hend 29 (v, an0, sp0, 31) _ _ _ _ dK_rooted_29 (⟨fr, hA0, Or.inl rfl, by rw [hr9]; exact hNg⟩) ⟨rfl, hZ⟩ hS
