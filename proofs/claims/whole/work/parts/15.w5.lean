set_option maxHeartbeats 4000000 in
set_option maxRecDepth 100000 in
theorem mW_guess (l : Launch) (E : zE) (B : Nat) (v0 : Nat → zV) (o : Nat → va_E) (k : Nat) (hk : lp k = true) (d : Nat → Nat) (n : Nat) (b : Bool) (ev : v0 k = (d, n, b)) (tp : Nat) (htp : 1 ≤ tp ∧ tp ≤ 400) (up : Nat) (hup : up ≤ 28) (hi nx : Nat) (hhi : 134217728 ≤ hi ∧ hi < 268435456) (hnx : nx < 268435456) (hu0 : lsh d n up (tp + 1) ≤ hi) :
    Met l yW_guess (zws yW_guess cW_guess 16 (some .long)) { frames := 1, cells := 0, slots := 0, locals := 40 } (zPc E (zD E B v0 o) [.ref (B + k), .int (iZ (↑tp)), .int (iZ (↑up)), .long (lZ (↑hi)), .long (lZ (↑nx))]) (va_Ql (fun (r : Int64) (v : Nat → zV) => v = v0 ∧ r = lZ (gs (hi * 268435456 + nx) ((lsh d n up (tp + 1) * 268435456 + lsh d n up tp) * 268435456 + lsh d n up (tp - 1)))) (fun v t => zD E B v o t.heap ∧ zK E t) (zA B 80)) 0 0 (zA B 80) := by
  refine zof_l (by decide) (Nat.le_of_ble_eq_true rfl) fun p e R s m args below meth c Q ls hR hx hb hml ht hown hK hZ hl hend => ?_
  have hS : va_S (zA B 80) s.heap s.heap [] := va_S.rf
  have hown : s.vm.findClass "WholeDesk$Whole" = some m.cls := hown
  have hl : lv_has ls 16 [(0, .ref (B + k)), (1, .int (iZ (↑tp))), (2, .int (iZ (↑up))), (3, .long (lZ (↑hi))), (5, .long (lZ (↑nx)))] := hl
  have hn : n ≤ 152 := by have := (hZ.2 k hk).2; rw [ev] at this; exact this
  have hd0 : ∀ i, d i < 268435456 := by have := (hZ.2 k hk).1; rw [ev] at this; exact this
  refine lv_lload_n hx hb dW_guess_0 rfl (lv_at hl 3 rfl) ?_
  refine lv_lconst (v := lZ (0)) hx hb dW_guess_1 (by decide) ?_
  refine zr_lcmp_gt (tgt := 8) hx hb (by omega) (by omega) dW_guess_2 dW_guess_3 (by decide) (fun c_1 => ?_) (fun c_1 => ?_)
  · obtain ⟨u0, hu0e⟩ : ∃ t, t = lsh d n up (tp + 1) := ⟨_, rfl⟩
    obtain ⟨u1, hu1e⟩ : ∃ t, t = lsh d n up tp := ⟨_, rfl⟩
    obtain ⟨u2, hu2e⟩ : ∃ t, t = lsh d n up (tp - 1) := ⟨_, rfl⟩
    have hu1 : u1 < 268435456 := by rw [hu1e]; exact lsh_lt d n up _
    have hu2 : u2 < 268435456 := by rw [hu2e]; exact lsh_lt d n up _
    rw [← hu0e] at hu0
    refine lv_aload_n hx hb dW_guess_8 rfl (lv_at hl 0 rfl) ?_
    refine lv_iload_n hx hb dW_guess_9 rfl (lv_at hl 1 rfl) ?_
    refine lv_iload_n hx hb dW_guess_10 rfl (lv_at hl 2 rfl) ?_
    refine zcV_l 2 (As := [.int (iZ (↑tp)), .int (iZ (↑up))]) (rest := []) rfl ⟨hx, hb, hml, hown, ht⟩ (mW_limbShifted l E B v0 o k hk d n b ev (↑tp) (⟨by omega, by omega⟩) up (by omega)) tw_419 tw_416 tw_417 tw_418 tw_2 qW_limbShifted (by rw [hR]; decide) (zW_recv hK hZ hk) hZ hK hl.1 rfl rfl (Nat.le_of_ble_eq_true rfl) dW_guess_11 ⟨Nat.zero_le _, Nat.zero_le _⟩ hS (fun r_2 v1 H locs hp hZ _ hS => ?_)
    obtain ⟨hv1, hr1⟩ := hp
    rw [hv1] at hZ
    subst hr1
    clear hv1 v1
    refine zc_l (y := lZ (↑u0)) (congrArg lZ (by rw [hu0e]; rfl)) ?_
    refine lv_bipush (v := iZ (28)) hx hb dW_guess_14 (by decide) ?_
    refine zr_lshl (n := 28) (P := 268435456) hx hb (Nat.le_of_ble_eq_true rfl) (p2_28) dW_guess_16 ?_
    refine lv_aload_n hx hb dW_guess_17 rfl (lv_at hl 0 rfl) ?_
    refine lv_iload_n hx hb dW_guess_18 rfl (lv_at hl 1 rfl) ?_
    refine lv_iconst (v := iZ (1)) hx hb dW_guess_19 (by decide) ?_
    refine zr_isub hx hb dW_guess_20 ?_
    refine lv_iload_n hx hb dW_guess_21 rfl (lv_at hl 2 rfl) ?_
    refine zcV_l 2 (As := [.int (iZ (↑tp - 1)), .int (iZ (↑up))]) (rest := [.long (lZ (↑u0 * 268435456))]) rfl ⟨hx, hb, hml, hown, ht⟩ (mW_limbShifted l E B v0 o k hk d n b ev (↑tp - 1) (⟨by omega, by omega⟩) up (by omega)) tw_419 tw_416 tw_417 tw_418 tw_2 qW_limbShifted (by rw [hR]; decide) (zW_recv hK hZ hk) hZ hK hl.1 rfl rfl (Nat.le_of_ble_eq_true rfl) dW_guess_22 ⟨Nat.zero_le _, Nat.zero_le _⟩ hS (fun r_3 v1 H locs hp hZ _ hS => ?_)
    obtain ⟨hv1, hr1⟩ := hp
    rw [hv1] at hZ
    subst hr1
    clear hv1 v1
    refine zc_l (y := lZ (↑u1)) (congrArg lZ (by rw [hu1e, show ((tp : Int) - 1 + 1).toNat = tp by omega])) ?_
    refine zr_lor (n := 28) (P := 268435456) hx hb p2_28 (by omega) (by omega) (by omega) (by omega) dW_guess_25 ?_
    obtain ⟨pt, hpt⟩ : ∃ t : Nat, t = u0 * 268435456 + u1 := ⟨_, rfl⟩
    refine zc_l (y := lZ ↑pt) (congrArg lZ (by omega)) ?_
    have hptb : pt ≤ hi * 268435456 + 268435455 := by omega
    refine lv_lstore (lv' := [(7, .long (lZ (↑pt))), (0, .ref (B + k)), (1, .int (iZ (↑tp))), (2, .int (iZ (↑up))), (3, .long (lZ (↑hi))), (5, .long (lZ (↑nx)))]) hx hb dW_guess_26 hl (by decide) rfl (fun ls hl => ?_)
    refine lv_aload_n hx hb dW_guess_28 rfl (lv_at hl 1 rfl) ?_
    refine lv_iload_n hx hb dW_guess_29 rfl (lv_at hl 2 rfl) ?_
    refine lv_iconst (v := iZ (2)) hx hb dW_guess_30 (by decide) ?_
    refine zr_isub hx hb dW_guess_31 ?_
    refine lv_iload_n hx hb dW_guess_32 rfl (lv_at hl 3 rfl) ?_
    refine zcV_l 2 (As := [.int (iZ (↑tp - 2)), .int (iZ (↑up))]) (rest := []) rfl ⟨hx, hb, hml, hown, ht⟩ (mW_limbShifted l E B v0 o k hk d n b ev (↑tp - 2) (⟨by omega, by omega⟩) up (by omega)) tw_419 tw_416 tw_417 tw_418 tw_2 qW_limbShifted (by rw [hR]; decide) (zW_recv hK hZ hk) hZ hK hl.1 rfl rfl (Nat.le_of_ble_eq_true rfl) dW_guess_33 ⟨Nat.zero_le _, Nat.zero_le _⟩ hS (fun r_4 v1 H locs hp hZ _ hS => ?_)
    obtain ⟨hv1, hr1⟩ := hp
    rw [hv1] at hZ
    subst hr1
    clear hv1 v1
    refine zc_l (y := lZ (↑u2)) (congrArg lZ (by rw [hu2e, show ((tp : Int) - 2 + 1).toNat = tp - 1 by omega])) ?_
    refine lv_lstore (lv' := [(9, .long (lZ (↑u2))), (7, .long (lZ (↑pt))), (0, .ref (B + k)), (1, .int (iZ (↑tp))), (2, .int (iZ (↑up))), (3, .long (lZ (↑hi))), (5, .long (lZ (↑nx)))]) hx hb dW_guess_36 hl (by decide) rfl (fun ls hl => ?_)
    refine lv_lload hx hb dW_guess_38 (lv_at hl 1 rfl) ?_
    refine lv_lload_n hx hb dW_guess_40 rfl (lv_at hl 5 rfl) ?_
    refine zr_ldiv hx hb (by omega) (by omega) (by omega) (by omega) dW_guess_41 ?_
    refine zc_l (y := lZ (↑(pt / hi))) (congrArg lZ (Int.natCast_ediv _ _).symm) ?_
    refine lv_lstore (lv' := [(11, .long (lZ (↑(pt / hi)))), (9, .long (lZ (↑u2))), (7, .long (lZ (↑pt))), (0, .ref (B + k)), (1, .int (iZ (↑tp))), (2, .int (iZ (↑up))), (3, .long (lZ (↑hi))), (5, .long (lZ (↑nx)))]) hx hb dW_guess_42 hl (by decide) rfl (fun ls hl => ?_)
    refine lv_lload hx hb dW_guess_44 (lv_at hl 2 rfl) ?_
    refine lv_lload hx hb dW_guess_46 (lv_at hl 0 rfl) ?_
    refine lv_lload_n hx hb dW_guess_48 rfl (lv_at hl 6 rfl) ?_
    refine zr_lmul hx hb dW_guess_49 ?_
    refine zr_lsub hx hb dW_guess_50 ?_
    refine zc_l (y := lZ (↑(pt % hi))) (congrArg lZ (by have h9 := Nat.div_add_mod pt hi; rw [Nat.mul_comm] at h9; have h8 : ((pt / hi : Nat) : Int) * (hi : Int) = ((pt / hi * hi : Nat) : Int) := (Int.natCast_mul _ _).symm; rw [h8]; omega)) ?_
    refine lv_lstore (lv' := [(13, .long (lZ (↑(pt % hi)))), (11, .long (lZ (↑(pt / hi)))), (9, .long (lZ (↑u2))), (7, .long (lZ (↑pt))), (0, .ref (B + k)), (1, .int (iZ (↑tp))), (2, .int (iZ (↑up))), (3, .long (lZ (↑hi))), (5, .long (lZ (↑nx)))]) hx hb dW_guess_51 hl (by decide) rfl (fun ls hl => ?_)
    refine lv_iconst (v := iZ (0)) hx hb dW_guess_53 (by decide) ?_
    refine lv_istore (lv' := [(15, .int (iZ (0))), (13, .long (lZ (↑(pt % hi)))), (11, .long (lZ (↑(pt / hi)))), (9, .long (lZ (↑u2))), (7, .long (lZ (↑pt))), (0, .ref (B + k)), (1, .int (iZ (↑tp))), (2, .int (iZ (↑up))), (3, .long (lZ (↑hi))), (5, .long (lZ (↑nx)))]) hx hb dW_guess_54 hl (by decide) rfl (fun ls hl => ?_)
    have L56 : ∀ (fu : Nat) (i : Nat) (g : Nat) (lf : Nat) (H : Heap) (locs : List Loc) (ls : Array Slot), 2 - i < fu → (pt = g * hi + lf) → (i ≤ 2 ∧ i * hi ≤ lf ∧ lf < (i + 1) * hi) → (pt * 268435456 + u2 < (g + 1) * (hi * 268435456 + nx) ∨ 268435456 ≤ g + 1) → zD E B v0 o H → va_S (zA B 80) s.heap H locs → lv_has ls 16 [(0, .ref (B + k)), (3, .long (lZ (↑hi))), (5, .long (lZ (↑nx))), (9, .long (lZ (↑u2))), (11, .long (lZ (↑g))), (13, .long (lZ (↑lf))), (15, .int (iZ (↑i)))] → W p l e R s m args below meth c H locs 0 0 Q (F0 m 56 ls []) := by
      intro fu
      induction fu with
      | zero => intro i g lf H locs ls hm; exact absurd hm (Nat.not_lt_zero _)
      | succ fu ihL56 =>
        intro i g lf H locs ls hm hp hi2 hlow  hZ hS hl
        have hgp : g ≤ pt := by rw [hp]; have h9 : g * 1 ≤ g * hi := Nat.mul_le_mul_left _ (by omega); omega
        have hl3 : lf < 3 * hi := Nat.lt_of_lt_of_le hi2.2.2 (Nat.mul_le_mul_right _ (by omega))
        have J118 : ∀  (H : Heap) (locs : List Loc) (ls : Array Slot), (g = gs (hi * 268435456 + nx) (pt * 268435456 + u2)) → zD E B v0 o H → va_S (zA B 80) s.heap H locs → lv_has ls 16 [(11, .long (lZ (↑g)))] → W p l e R s m args below meth c H locs 0 0 Q (F0 m 118 ls []) := by
          intro  H locs ls hF  hZ hS hl
          refine lv_lload hx hb dW_guess_118 (lv_at hl 0 rfl) ?_
          exact hend 120 (_) v0 _ _ _ dW_guess_120 (⟨rfl, congrArg lZ (by rw [hF, hpt, hu0e, hu1e, hu2e])⟩) hZ hS
        have J100 : ∀  (H : Heap) (locs : List Loc) (ls : Array Slot), (1 ≤ g ∧ (pt * 268435456 + u2 < (g - 1 + 1) * (hi * 268435456 + nx) ∨ 268435456 ≤ g - 1 + 1)) → (i < 2) → zD E B v0 o H → va_S (zA B 80) s.heap H locs → lv_has ls 16 [(0, .ref (B + k)), (3, .long (lZ (↑hi))), (5, .long (lZ (↑nx))), (9, .long (lZ (↑u2))), (11, .long (lZ (↑g))), (13, .long (lZ (↑lf))), (15, .int (iZ (↑i)))] → W p l e R s m args below meth c H locs 0 0 Q (F0 m 100 ls []) := by
          intro  H locs ls hdec hi1  hZ hS hl
          refine lv_lload hx hb dW_guess_100 (lv_at hl 4 rfl) ?_
          refine lv_lconst (v := lZ (1)) hx hb dW_guess_102 (by decide) ?_
          refine zr_lsub hx hb dW_guess_103 ?_
          refine zc_l (y := lZ (↑(g - 1))) (congrArg lZ (by have := hdec.1; omega)) ?_
          refine lv_lstore (lv' := [(11, .long (lZ (↑(g - 1)))), (0, .ref (B + k)), (3, .long (lZ (↑hi))), (5, .long (lZ (↑nx))), (9, .long (lZ (↑u2))), (13, .long (lZ (↑lf))), (15, .int (iZ (↑i)))]) hx hb dW_guess_104 hl (by decide) rfl (fun ls hl => ?_)
          refine lv_lload hx hb dW_guess_106 (lv_at hl 5 rfl) ?_
          refine lv_lload_n hx hb dW_guess_108 rfl (lv_at hl 2 rfl) ?_
          refine zr_ladd hx hb dW_guess_109 ?_
          refine zc_l (y := lZ (↑(lf + hi))) (congrArg lZ (Int.natCast_add _ _).symm) ?_
          refine lv_lstore (lv' := [(13, .long (lZ (↑(lf + hi)))), (11, .long (lZ (↑(g - 1)))), (0, .ref (B + k)), (3, .long (lZ (↑hi))), (5, .long (lZ (↑nx))), (9, .long (lZ (↑u2))), (15, .int (iZ (↑i)))]) hx hb dW_guess_110 hl (by decide) rfl (fun ls hl => ?_)
          refine lv_iinc (v := iZ (↑i + 1)) (lv' := [(15, .int (iZ (↑i + 1))), (13, .long (lZ (↑(lf + hi)))), (11, .long (lZ (↑(g - 1)))), (0, .ref (B + k)), (3, .long (lZ (↑hi))), (5, .long (lZ (↑nx))), (9, .long (lZ (↑u2)))]) hx hb dW_guess_112 hl (k := 6) rfl (iZ_add _ _) (by decide) rfl (fun ls hl => ?_)
          refine lv_goto (tgt := 56) hx hb dW_guess_115 (by decide) ?_
          exact ihL56 (i + 1) (g - 1) (lf + hi)  _ _ _ (by omega) (by rw [hp, Nat.sub_mul, Nat.one_mul]; have h9 : 1 * hi ≤ g * hi := Nat.mul_le_mul_right _ hdec.1; omega) (⟨by omega, by rw [Nat.add_mul, Nat.one_mul]; omega, by rw [Nat.add_mul (i + 1), Nat.one_mul]; omega⟩) (hdec.2)  hZ hS (lv_sub hl [3, 4, 5, 6, 2, 1, 0] rfl)
        refine lv_iload hx hb dW_guess_56 (lv_at hl 6 rfl) ?_
        refine lv_iconst (v := iZ (2)) hx hb dW_guess_58 (by decide) ?_
        refine zr_icmp_ge (tgt := 118) hx hb (by omega) (by omega) dW_guess_59 (by decide) (fun c_5 => ?_) (fun c_5 => ?_)
        · exact J118   _ _ _ (g_end hhi.1 hnx hp hptb hlow (by first | (left; omega) | (left; have h9 : 2 * hi ≤ lf := Nat.le_trans (Nat.mul_le_mul_right _ (by omega)) hi2.2.1; omega) | (right; exact ⟨by omega, by omega⟩)))  hZ hS (lv_sub hl [4] rfl)
        · refine lv_lload hx hb dW_guess_62 (lv_at hl 5 rfl) ?_
          refine lv_ldc2 (v := lZ (268435455)) hx hb hown (ht _ tw_291) dW_guess_64 ?_
          refine zr_lcmp_gt (tgt := 118) hx hb (by omega) (by omega) dW_guess_67 dW_guess_68 (by decide) (fun c_6 => ?_) (fun c_6 => ?_)
          · exact J118   _ _ _ (g_end hhi.1 hnx hp hptb hlow (by first | (left; omega) | (left; have h9 : 2 * hi ≤ lf := Nat.le_trans (Nat.mul_le_mul_right _ (by omega)) hi2.2.1; omega) | (right; exact ⟨by omega, by omega⟩)))  hZ hS (lv_sub hl [4] rfl)
          · refine lv_lload hx hb dW_guess_71 (lv_at hl 4 rfl) ?_
            refine lv_ldc2 (v := lZ (268435455)) hx hb hown (ht _ tw_291) dW_guess_73 ?_
            refine zr_lcmp_gt (tgt := 100) hx hb (by omega) (by omega) dW_guess_76 dW_guess_77 (by decide) (fun c_7 => ?_) (fun c_7 => ?_)
            · exact J100   _ _ _ (g_dec hp (by first | (left; omega) | (right; omega))) (by omega)  hZ hS (lv_sub hl [0, 1, 2, 3, 4, 5, 6] rfl)
            · have hgn : g * nx ≤ 268435455 * 268435455 := Nat.mul_le_mul (by omega) (by omega)
              refine lv_lload hx hb dW_guess_80 (lv_at hl 4 rfl) ?_
              refine lv_lload hx hb dW_guess_82 (lv_at hl 2 rfl) ?_
              refine zr_lmul hx hb dW_guess_84 ?_
              refine zc_l (y := lZ (↑(g * nx))) (congrArg lZ (Int.natCast_mul _ _).symm) ?_
              refine lv_lload hx hb dW_guess_85 (lv_at hl 5 rfl) ?_
              refine lv_bipush (v := iZ (28)) hx hb dW_guess_87 (by decide) ?_
              refine zr_lshl (n := 28) (P := 268435456) hx hb (Nat.le_of_ble_eq_true rfl) (p2_28) dW_guess_89 ?_
              refine lv_lload hx hb dW_guess_90 (lv_at hl 3 rfl) ?_
              refine zr_lor (n := 28) (P := 268435456) hx hb p2_28 (by omega) (by omega) (by omega) (by omega) dW_guess_92 ?_
              refine zr_lcmp_gt (tgt := 100) hx hb (by omega) (by omega) dW_guess_93 dW_guess_94 (by decide) (fun c_8 => ?_) (fun c_8 => ?_)
              · exact J100   _ _ _ (g_dec hp (by first | (left; omega) | (right; omega))) (by omega)  hZ hS (lv_sub hl [0, 1, 2, 3, 4, 5, 6] rfl)
              · refine lv_goto (tgt := 118) hx hb dW_guess_97 (by decide) ?_
                exact J118   _ _ _ (g_end hhi.1 hnx hp hptb hlow (by first | (left; omega) | (left; have h9 : 2 * hi ≤ lf := Nat.le_trans (Nat.mul_le_mul_right _ (by omega)) hi2.2.1; omega) | (right; exact ⟨by omega, by omega⟩)))  hZ hS (lv_sub hl [4] rfl)
    exact L56 _ 0 (pt / hi) (pt % hi)  _ _ _ (Nat.lt_succ_self _) (by rw [Nat.mul_comm]; exact (Nat.div_add_mod pt hi).symm) (⟨by omega, by omega, by rw [Nat.zero_add, Nat.one_mul]; exact Nat.mod_lt _ (by omega)⟩) (Or.inl (g_start (by omega) hu2))  hZ hS (lv_sub hl [5, 8, 9, 3, 2, 1, 0] rfl)
  · exfalso; omega
