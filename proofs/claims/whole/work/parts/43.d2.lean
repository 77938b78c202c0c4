/-- the number of k digits from st on -/
def hv (base : Nat) (f : Nat → Nat) (st : Nat) : Nat → Nat
  | 0 => 0
  | k + 1 => hv base f st k * base + dg (f (st + k))
theorem hv_s (base : Nat) (f : Nat → Nat) (st k : Nat) : hv base f st (k + 1) = hv base f st k * base + dg (f (st + k)) := rfl
theorem hv_mono {base : Nat} (hb : 1 ≤ base) (f : Nat → Nat) (st k j : Nat) : hv base f st k ≤ hv base f st (k + j) := by
  induction j with
  | zero => exact Nat.le_refl _
  | succ j ih =>
    rw [show k + (j + 1) = (k + j) + 1 by omega, hv_s]
    have := Nat.mul_le_mul_left (hv base f st (k + j)) hb
    omega
def sgz (ct : Nat) (f : Nat → Nat) (z : Nat) : Int := if 0 < ct ∧ f 0 = 45 then -(z : Int) else (z : Int)
theorem zN_b {w w' : zV} {x : Int} {b1 : Bool} (h : zN w x) (hx : 0 ≤ x) (ev : w' = (w.1, w.2.1, b1)) (hb : b1 = true → x ≠ 0) : zN w' (if b1 = true then -x else x) := by
  rw [ev]
  have h9 := zN_abs h
  refine ⟨h.1, fun h8 h7 => hb h8 ((zN_0 h).mp h7), ?_⟩
  show (if b1 = true then -x else x) = if b1 = true then -((wv w.1 w.2.1 : Nat) : Int) else ((wv w.1 w.2.1 : Nat) : Int)
  rw [← h9, show ((x.natAbs : Nat) : Int) = x by omega]
theorem pz_step {V wt pt base d h : Nat} (he : V * wt + pt = h) (hp : pt < wt) (hd : d < base) : V * (wt * base) + (pt * base + d) = h * base + d ∧ pt * base + d < wt * base := by
  constructor
  · rw [← he, Nat.add_mul, Nat.mul_assoc]; omega
  · have := Nat.mul_le_mul_right base (show pt + 1 ≤ wt by omega)
    rw [Nat.add_mul, Nat.one_mul] at this
    omega
theorem pz_room {V wt pt : Nat} (hV : V < wP 74) (hw : wt < 268435456) (hp : pt < wt) : V * wt + pt < wP 75 := by
  have h1 := Nat.mul_le_mul_right wt (show V + 1 ≤ wP 74 by omega)
  rw [Nat.add_mul, Nat.one_mul] at h1
  have h2 := Nat.mul_lt_mul_of_pos_left hw (wP_pos 74)
  have h3 : wP 75 = wP 74 * 268435456 := Nat.pow_succ _ _
  omega
theorem wP_74 : 2 ^ 2048 ≤ wP 74 := by rw [wP_two]; exact Nat.pow_le_pow_right (by decide) (by decide)
set_option maxHeartbeats 4000000 in
set_option maxRecDepth 100000 in
theorem mD_parsed (l : Launch) (E : zE) (B : Nat) (v0 : Nat → zV) (o : Nat → va_E) (ct0 : Nat) (f0 : Nat → Nat) (hf : ∀ i, f0 i < 256) (hc : ct0 ≤ 2100) (base : Nat) (hbs : 2 ≤ base ∧ base ≤ 36) (hnum : isnum ct0 f0 base) :
    Met l yD_parsed (zws yD_parsed cD_parsed 7 (some (.object "WholeDesk$Whole"))) { frames := 3, cells := 0, slots := 0, locals := 96 } (zPc E (zD E B v0 (zd E B o ct0 f0)) [.ref (B + 72), .int (iZ (↑base))]) (va_Qr (fun u : (Nat → zV) × Nat × (Nat → Nat) => (∀ j, j ≠ 74 → u.1 j = v0 j) ∧ u.2 = (ct0, f0) ∧ ∃ z : Nat, zN (u.1 74) (sgz ct0 f0 z) ∧ (z = hv base f0 (stt ct0 f0) (ct0 - stt ct0 f0) ∨ (2 ^ 2048 ≤ z ∧ 2 ^ 2048 ≤ hv base f0 (stt ct0 f0) (ct0 - stt ct0 f0)))) (fun (u : (Nat → zV) × Nat × (Nat → Nat)) a t => (a = B + 74 ∧ zD E B u.1 (zd E B o u.2.1 u.2.2) t.heap) ∧ zK E t) (zA B 80)) 0 0 (zA B 80) := by
  refine zof_r (P' := fun (u : (Nat → zV) × Nat × (Nat → Nat)) a H => a = B + 74 ∧ zD E B u.1 (zd E B o u.2.1 u.2.2) H) (by decide) (Nat.le_of_ble_eq_true rfl) fun p e R s m args below meth c Q ls hR hx hb hml ht hown hK hZ hl hend => ?_
  have hS : va_S (zA B 80) s.heap s.heap [] := va_S.rf
  have hown : s.vm.findClass "WholeDesk$Draft" = some m.cls := hown
  have hl : lv_has ls 7 [(0, .ref (B + 72)), (1, .int (iZ (↑base)))] := hl
  have fr : ∀ j, j ≠ 74 → v0 j = v0 j := fun j _ => rfl
  refine lv_aload_n hx hb dD_parsed_0 rfl (lv_at hl 0 rfl) ?_
  refine zd_value hx hb ht hown hK hZ tw_100 dD_parsed_1 ?_
  refine lv_lconst (v := lZ (0)) hx hb dD_parsed_4 (by decide) ?_
  refine zcV_v 1 (As := [.long (lZ (0))]) (rest := []) rfl ⟨hx, hb, hml, hown, ht⟩ (mW_become l E B v0 (zd E B o ct0 f0) 74 (by decide) (v0 74).1 (v0 74).2.1 (v0 74).2.2 rfl ((0 : Int)) (by omega)) tw_290 tw_287 tw_288 tw_289 tw_2 qW_become (by rw [hR]; decide) (zW_recv hK hZ (by decide)) hZ hK hl.1 rfl rfl (Nat.le_of_ble_eq_true rfl) dD_parsed_5 ⟨Nat.zero_le _, Nat.zero_le _⟩ hS (fun v H locs hp hZ _ hS => ?_)
  obtain ⟨ho, hN9⟩ := hp
  have fr : ∀ j, j ≠ 74 → v j = v0 j := fun j h0 => (ho j h0).trans (fr j h0)
  have hNv : zN (v 74) ((0 : Int)) := hN9
  refine lv_lconst (v := lZ (0)) hx hb dD_parsed_8 (by decide) ?_
  refine lv_lstore_n (lv' := [(2, .long (lZ (0))), (0, .ref (B + 72)), (1, .int (iZ (↑base)))]) hx hb dD_parsed_9 rfl hl (by decide) rfl (fun ls hl => ?_)
  refine lv_lconst (v := lZ (1)) hx hb dD_parsed_10 (by decide) ?_
  refine lv_lstore (lv' := [(4, .long (lZ (1))), (2, .long (lZ (0))), (0, .ref (B + 72)), (1, .int (iZ (↑base)))]) hx hb dD_parsed_11 hl (by decide) rfl (fun ls hl => ?_)
  refine lv_aload_n hx hb dD_parsed_13 rfl (lv_at hl 2 rfl) ?_
  refine zcV_i 0 (As := []) (rest := []) rfl ⟨hx, hb, hml, hown, ht⟩ (mD_start l E B v o ct0 f0 hf hc) tw_259 tw_256 tw_258 tp_2 tw_4 qD_start (by rw [hR]; decide) (zd_recv hK hZ) hZ hK hl.1 rfl rfl (Nat.le_of_ble_eq_true rfl) dD_parsed_14 ⟨Nat.zero_le _, Nat.zero_le _⟩ hS (fun r_1 u H locs hp hZ _ hS => ?_)
  obtain ⟨hu, hr1⟩ := hp
  subst hu
  subst hr1
  dsimp only at hZ
  have hst := stt_le ct0 f0
  have hst2 := hnum.1
  refine lv_istore (lv' := [(6, .int (iZ (↑(stt ct0 f0)))), (4, .long (lZ (1))), (2, .long (lZ (0))), (0, .ref (B + 72)), (1, .int (iZ (↑base)))]) hx hb dD_parsed_17 hl (by decide) rfl (fun ls hl => ?_)
  have L19 : ∀ (fu : Nat) (i : Nat) (V : Nat) (pt : Nat) (wt : Nat) (v : Nat → zV) (H : Heap) (locs : List Loc) (ls : Array Slot), ct0 - i < fu → (stt ct0 f0 ≤ i ∧ i ≤ ct0) → (V * wt + pt = hv base f0 (stt ct0 f0) (i - stt ct0 f0)) → (pt < wt) → (wt * base < 268435456) → (V < wP 75) → zN (v 74) (((V : Nat) : Int)) → (∀ j, j ≠ 74 → v j = v0 j) → zD E B v (zd E B o ct0 f0) H → va_S (zA B 80) s.heap H locs → lv_has ls 7 [(0, .ref (B + 72)), (1, .int (iZ (↑base))), (2, .long (lZ (↑pt))), (4, .long (lZ (↑wt))), (6, .int (iZ (↑i)))] → W p l e R s m args below meth c H locs 0 0 Q (F0 m 19 ls []) := by
    intro fu
    induction fu with
    | zero => intro i V pt wt v H locs ls hm; exact absurd hm (Nat.not_lt_zero _)
    | succ fu ihL19 =>
      intro i V pt wt v H locs ls hm hi he hp hw hV5 hNv fr hZ hS hl
      refine lv_iload hx hb dD_parsed_19 (lv_at hl 4 rfl) ?_
      refine lv_aload_n hx hb dD_parsed_21 rfl (lv_at hl 0 rfl) ?_
      refine zd_count hx hb ht hown hK hZ tw_97 dD_parsed_22 ?_
      refine zr_icmp_ge (tgt := 97) hx hb (by omega) (by omega) dD_parsed_25 (by decide) (fun c_2 => ?_) (fun c_2 => ?_)
      · have hlen5 := (zN_len (hZ.2 74 (by decide)).1 hNv (k := 75)).mpr (by rw [Int.natAbs_natCast]; exact hV5)
        have hwt : wt * 1 ≤ wt * base := Nat.mul_le_mul_left _ (by omega)
        have hfin : V * wt + pt = hv base f0 (stt ct0 f0) (ct0 - stt ct0 f0) ∨ (2 ^ 2048 ≤ V * wt + pt ∧ 2 ^ 2048 ≤ hv base f0 (stt ct0 f0) (ct0 - stt ct0 f0)) := Or.inl (by rw [he, show i = ct0 by omega])
        refine lv_aload_n hx hb dD_parsed_97 rfl (lv_at hl 0 rfl) ?_
        refine zd_value hx hb ht hown hK hZ tw_100 dD_parsed_98 ?_
        refine lv_lload hx hb dD_parsed_101 (lv_at hl 3 rfl) ?_
        refine lv_lload_n hx hb dD_parsed_103 rfl (lv_at hl 2 rfl) ?_
        refine zcV_v 2 (As := [.long (lZ (↑wt)), .long (lZ (↑pt))]) (rest := []) rfl ⟨hx, hb, hml, hown, ht⟩ (mW_scale l E B v (zd E B o ct0 f0) 74 (by decide) (v 74).1 (v 74).2.1 (v 74).2.2 rfl wt pt (by omega) (by omega) (by omega)) tw_300 tw_297 tw_298 tw_299 tw_2 qW_scale (by rw [hR]; decide) (zW_recv hK hZ (by decide)) hZ hK hl.1 rfl rfl (Nat.le_of_ble_eq_true rfl) dD_parsed_104 ⟨Nat.zero_le _, Nat.zero_le _⟩ hS (fun v H locs hp hZ _ hS => ?_)
        obtain ⟨ho, hN9⟩ := hp
        rw [← zN_abs hNv, zM_a hNv (Int.natCast_nonneg _), if_neg (by decide), Int.natAbs_natCast] at hN9
        have fr : ∀ j, j ≠ 74 → v j = v0 j := fun j h0 => (ho j h0).trans (fr j h0)
        have hNv : zN (v 74) (((V * wt + pt : Nat) : Int)) := by rw [Nat.mul_comm V]; exact hN9
        generalize V * wt + pt = z9 at hfin hNv
        clear hlen5 hwt he hp hw hV5
        refine lv_aload_n hx hb dD_parsed_107 rfl (lv_at hl 0 rfl) ?_
        refine zd_value hx hb ht hown hK hZ tw_100 dD_parsed_108 ?_
        refine lv_aload_n hx hb dD_parsed_111 rfl (lv_at hl 0 rfl) ?_
        refine lv_bipush (v := iZ (45)) hx hb dD_parsed_112 (by decide) ?_
        refine zcV_i 1 (As := [.int (iZ (45))]) (rest := [.ref (B + 74)]) rfl ⟨hx, hb, hml, hown, ht⟩ (mD_startsWith l E B v o ct0 f0 45 (by decide) hf hc) tw_263 tw_260 tw_262 tp_3 tw_4 qD_startsWith (by rw [hR]; decide) (zd_recv hK hZ) hZ hK hl.1 rfl rfl (Nat.le_of_ble_eq_true rfl) dD_parsed_114 ⟨Nat.zero_le _, Nat.zero_le _⟩ hS (fun r_3 u H locs hp hZ _ hS => ?_)
        obtain ⟨hu, hr1⟩ := hp
        subst hu
        subst hr1
        dsimp only at hZ
        refine zr_if_eq (tgt := 134) hx hb (by have := bZ_01 (decide (0 < ct0 ∧ f0 0 = 45)); omega) dD_parsed_117 (by decide) (fun c_4 => ?_) (fun c_4 => ?_)
        · have hneg := of_decide_eq_false (bZ_f.mp (by assumption : bZ (decide (0 < ct0 ∧ f0 0 = 45)) = 0))
          refine lv_iconst (v := iZ (0)) hx hb dD_parsed_134 (by decide) ?_
          have hNv0 := hNv
          have hM_val : zM (v 74) (v 74).2.1 (((z9 : Nat) : Int)).natAbs (v 74).2.2 := zN_M hNv
          obtain ⟨n_5, hnn_5⟩ : ∃ n9, n9 = (v 74).2.1 := ⟨_, rfl⟩
          obtain ⟨b_6, hbb_6⟩ : ∃ b9, b9 = (v 74).2.2 := ⟨_, rfl⟩
          rw [← hnn_5, ← hbb_6] at hM_val
          refine W.eq (g2 := F0 m 135 ls (.int (iZ (bZ false)) :: .ref (B + 74) :: [])) rfl ?_
          refine zw_put_below (d := (v 74).1) (n := (v 74).2.1) (b := (v 74).2.2) (b1 := false) hx hb ht hown hK hZ (by decide) rfl hS tw_41 dD_parsed_135 (fun v H locs ev ho hZ hS => ?_)
          have fr : ∀ j, j ≠ 74 → v j = v0 j := fun j h0 => (ho j h0).trans (fr j h0)
          have hM_val : zM (v 74) (n_5) ((((z9 : Nat) : Int)).natAbs) (false) := zM_b hM_val ev
          have hNv : zN (v 74) (sgz ct0 f0 z9) := by unfold sgz; rw [if_neg hneg]; exact zN_b (b1 := false) hNv0 (Int.natCast_nonneg z9) ev (fun h9 => absurd h9 (by decide))
          refine lv_aload_n hx hb dD_parsed_138 rfl (lv_at hl 0 rfl) ?_
          refine zd_value hx hb ht hown hK hZ tw_100 dD_parsed_139 ?_
          exact hend 142 (v, ct0, f0) _ _ _ _ dD_parsed_142 (⟨fr, rfl, z9, hNv, hfin⟩) ⟨rfl, hZ⟩ hS
        · have hneg := of_decide_eq_true (bZ_nf.mp (by assumption : ¬ bZ (decide (0 < ct0 ∧ f0 0 = 45)) = 0))
          refine lv_aload_n hx hb dD_parsed_120 rfl (lv_at hl 0 rfl) ?_
          refine zd_value hx hb ht hown hK hZ tw_100 dD_parsed_121 ?_
          refine zw_count (d := (v 74).1) (n := (v 74).2.1) (b := (v 74).2.2) hx hb ht hown hK hZ (by decide) rfl tw_36 dD_parsed_124 ?_
          refine zr_if_le (tgt := 134) hx hb (by unfold zi; have := (hZ.2 74 (by decide)).2; omega) dD_parsed_127 (by decide) (fun c_7 => ?_) (fun c_7 => ?_)
          · have hz0 : ((z9 : Nat) : Int) = 0 := (zN_0 hNv).mp (by omega)
            refine lv_iconst (v := iZ (0)) hx hb dD_parsed_134 (by decide) ?_
            have hNv0 := hNv
            have hM_val : zM (v 74) (v 74).2.1 (((z9 : Nat) : Int)).natAbs (v 74).2.2 := zN_M hNv
            obtain ⟨n_8, hnn_8⟩ : ∃ n9, n9 = (v 74).2.1 := ⟨_, rfl⟩
            obtain ⟨b_9, hbb_9⟩ : ∃ b9, b9 = (v 74).2.2 := ⟨_, rfl⟩
            rw [← hnn_8, ← hbb_9] at hM_val
            refine W.eq (g2 := F0 m 135 ls (.int (iZ (bZ false)) :: .ref (B + 74) :: [])) rfl ?_
            refine zw_put_below (d := (v 74).1) (n := (v 74).2.1) (b := (v 74).2.2) (b1 := false) hx hb ht hown hK hZ (by decide) rfl hS tw_41 dD_parsed_135 (fun v H locs ev ho hZ hS => ?_)
            have fr : ∀ j, j ≠ 74 → v j = v0 j := fun j h0 => (ho j h0).trans (fr j h0)
            have hM_val : zM (v 74) (n_8) ((((z9 : Nat) : Int)).natAbs) (false) := zM_b hM_val ev
            have hNv : zN (v 74) (sgz ct0 f0 z9) := by unfold sgz; rw [if_pos hneg, hz0]; exact (by rw [hz0] at hNv0; exact zN_b (b1 := false) hNv0 (Int.le_refl 0) ev (fun h9 => absurd h9 (by decide)))
            refine lv_aload_n hx hb dD_parsed_138 rfl (lv_at hl 0 rfl) ?_
            refine zd_value hx hb ht hown hK hZ tw_100 dD_parsed_139 ?_
            exact hend 142 (v, ct0, f0) _ _ _ _ dD_parsed_142 (⟨fr, rfl, z9, hNv, hfin⟩) ⟨rfl, hZ⟩ hS
          · have hz0 : ((z9 : Nat) : Int) ≠ 0 := fun h9 => absurd ((zN_0 hNv).mpr h9) (by omega)
            refine lv_iconst (v := iZ (1)) hx hb dD_parsed_130 (by decide) ?_
            refine lv_goto (tgt := 135) hx hb dD_parsed_131 (by decide) ?_
            have hNv0 := hNv
            have hM_val : zM (v 74) (v 74).2.1 (((z9 : Nat) : Int)).natAbs (v 74).2.2 := zN_M hNv
            obtain ⟨n_10, hnn_10⟩ : ∃ n9, n9 = (v 74).2.1 := ⟨_, rfl⟩
            obtain ⟨b_11, hbb_11⟩ : ∃ b9, b9 = (v 74).2.2 := ⟨_, rfl⟩
            rw [← hnn_10, ← hbb_11] at hM_val
            refine W.eq (g2 := F0 m 135 ls (.int (iZ (bZ true)) :: .ref (B + 74) :: [])) rfl ?_
            refine zw_put_below (d := (v 74).1) (n := (v 74).2.1) (b := (v 74).2.2) (b1 := true) hx hb ht hown hK hZ (by decide) rfl hS tw_41 dD_parsed_135 (fun v H locs ev ho hZ hS => ?_)
            have fr : ∀ j, j ≠ 74 → v j = v0 j := fun j h0 => (ho j h0).trans (fr j h0)
            have hM_val : zM (v 74) (n_10) ((((z9 : Nat) : Int)).natAbs) (true) := zM_b hM_val ev
            have hNv : zN (v 74) (sgz ct0 f0 z9) := by unfold sgz; rw [if_pos hneg]; exact zN_b (b1 := true) hNv0 (Int.natCast_nonneg z9) ev (fun _ => hz0)
            refine lv_aload_n hx hb dD_parsed_138 rfl (lv_at hl 0 rfl) ?_
            refine zd_value hx hb ht hown hK hZ tw_100 dD_parsed_139 ?_
            exact hend 142 (v, ct0, f0) _ _ _ _ dD_parsed_142 (⟨fr, rfl, z9, hNv, hfin⟩) ⟨rfl, hZ⟩ hS
      · refine lv_aload_n hx hb dD_parsed_28 rfl (lv_at hl 0 rfl) ?_
        refine zd_value hx hb ht hown hK hZ tw_100 dD_parsed_29 ?_
        refine zw_count (d := (v 74).1) (n := (v 74).2.1) (b := (v 74).2.2) hx hb ht hown hK hZ (by decide) rfl tw_36 dD_parsed_32 ?_
        have hcn := (hZ.2 74 (by decide)).2
        have hlen := zN_len (hZ.2 74 (by decide)).1 hNv (k := 74)
        refine lv_bipush (v := iZ (74)) hx hb dD_parsed_35 (by decide) ?_
        refine zr_icmp_gt (tgt := 97) hx hb (by unfold zi; have := (hZ.2 74 (by decide)).2; omega) (by unfold zi; omega) dD_parsed_37 (by decide) (fun c_12 => ?_) (fun c_12 => ?_)
        · have hlen5 := (zN_len (hZ.2 74 (by decide)).1 hNv (k := 75)).mpr (by rw [Int.natAbs_natCast]; exact hV5)
          have hwt : wt * 1 ≤ wt * base := Nat.mul_le_mul_left _ (by omega)
          have hbig : wP 74 ≤ V := by rcases Nat.lt_or_ge V (wP 74) with h9 | h9; exact absurd (hlen.mpr (by rw [Int.natAbs_natCast]; exact h9)) (by omega); exact h9
          have hVw : V * 1 ≤ V * wt := Nat.mul_le_mul_left _ (by omega)
          have hfin : V * wt + pt = hv base f0 (stt ct0 f0) (ct0 - stt ct0 f0) ∨ (2 ^ 2048 ≤ V * wt + pt ∧ 2 ^ 2048 ≤ hv base f0 (stt ct0 f0) (ct0 - stt ct0 f0)) := by have h7 := wP_74; have h8 := hv_mono (base := base) (by omega) f0 (stt ct0 f0) (i - stt ct0 f0) (ct0 - i); rw [show i - stt ct0 f0 + (ct0 - i) = ct0 - stt ct0 f0 by omega, ← he] at h8; generalize 2 ^ 2048 = Z at h7 ⊢; right; constructor <;> omega
          refine lv_aload_n hx hb dD_parsed_97 rfl (lv_at hl 0 rfl) ?_
          refine zd_value hx hb ht hown hK hZ tw_100 dD_parsed_98 ?_
          refine lv_lload hx hb dD_parsed_101 (lv_at hl 3 rfl) ?_
          refine lv_lload_n hx hb dD_parsed_103 rfl (lv_at hl 2 rfl) ?_
          refine zcV_v 2 (As := [.long (lZ (↑wt)), .long (lZ (↑pt))]) (rest := []) rfl ⟨hx, hb, hml, hown, ht⟩ (mW_scale l E B v (zd E B o ct0 f0) 74 (by decide) (v 74).1 (v 74).2.1 (v 74).2.2 rfl wt pt (by omega) (by omega) (by omega)) tw_300 tw_297 tw_298 tw_299 tw_2 qW_scale (by rw [hR]; decide) (zW_recv hK hZ (by decide)) hZ hK hl.1 rfl rfl (Nat.le_of_ble_eq_true rfl) dD_parsed_104 ⟨Nat.zero_le _, Nat.zero_le _⟩ hS (fun v H locs hp hZ _ hS => ?_)
          obtain ⟨ho, hN9⟩ := hp
          rw [← zN_abs hNv, zM_a hNv (Int.natCast_nonneg _), if_neg (by decide), Int.natAbs_natCast] at hN9
          have fr : ∀ j, j ≠ 74 → v j = v0 j := fun j h0 => (ho j h0).trans (fr j h0)
          have hNv : zN (v 74) (((V * wt + pt : Nat) : Int)) := by rw [Nat.mul_comm V]; exact hN9
          generalize V * wt + pt = z9 at hfin hNv
          clear hlen5 hwt he hp hw hV5
          refine lv_aload_n hx hb dD_parsed_107 rfl (lv_at hl 0 rfl) ?_
          refine zd_value hx hb ht hown hK hZ tw_100 dD_parsed_108 ?_
          refine lv_aload_n hx hb dD_parsed_111 rfl (lv_at hl 0 rfl) ?_
          refine lv_bipush (v := iZ (45)) hx hb dD_parsed_112 (by decide) ?_
          refine zcV_i 1 (As := [.int (iZ (45))]) (rest := [.ref (B + 74)]) rfl ⟨hx, hb, hml, hown, ht⟩ (mD_startsWith l E B v o ct0 f0 45 (by decide) hf hc) tw_263 tw_260 tw_262 tp_3 tw_4 qD_startsWith (by rw [hR]; decide) (zd_recv hK hZ) hZ hK hl.1 rfl rfl (Nat.le_of_ble_eq_true rfl) dD_parsed_114 ⟨Nat.zero_le _, Nat.zero_le _⟩ hS (fun r_13 u H locs hp hZ _ hS => ?_)
          obtain ⟨hu, hr1⟩ := hp
          subst hu
          subst hr1
          dsimp only at hZ
          refine zr_if_eq (tgt := 134) hx hb (by have := bZ_01 (decide (0 < ct0 ∧ f0 0 = 45)); omega) dD_parsed_117 (by decide) (fun c_14 => ?_) (fun c_14 => ?_)
          · have hneg := of_decide_eq_false (bZ_f.mp (by assumption : bZ (decide (0 < ct0 ∧ f0 0 = 45)) = 0))
            refine lv_iconst (v := iZ (0)) hx hb dD_parsed_134 (by decide) ?_
            have hNv0 := hNv
            have hM_val : zM (v 74) (v 74).2.1 (((z9 : Nat) : Int)).natAbs (v 74).2.2 := zN_M hNv
            obtain ⟨n_15, hnn_15⟩ : ∃ n9, n9 = (v 74).2.1 := ⟨_, rfl⟩
            obtain ⟨b_16, hbb_16⟩ : ∃ b9, b9 = (v 74).2.2 := ⟨_, rfl⟩
            rw [← hnn_15, ← hbb_16] at hM_val
            refine W.eq (g2 := F0 m 135 ls (.int (iZ (bZ false)) :: .ref (B + 74) :: [])) rfl ?_
            refine zw_put_below (d := (v 74).1) (n := (v 74).2.1) (b := (v 74).2.2) (b1 := false) hx hb ht hown hK hZ (by decide) rfl hS tw_41 dD_parsed_135 (fun v H locs ev ho hZ hS => ?_)
            have fr : ∀ j, j ≠ 74 → v j = v0 j := fun j h0 => (ho j h0).trans (fr j h0)
            have hM_val : zM (v 74) (n_15) ((((z9 : Nat) : Int)).natAbs) (false) := zM_b hM_val ev
            have hNv : zN (v 74) (sgz ct0 f0 z9) := by unfold sgz; rw [if_neg hneg]; exact zN_b (b1 := false) hNv0 (Int.natCast_nonneg z9) ev (fun h9 => absurd h9 (by decide))
            refine lv_aload_n hx hb dD_parsed_138 rfl (lv_at hl 0 rfl) ?_
            refine zd_value hx hb ht hown hK hZ tw_100 dD_parsed_139 ?_
            exact hend 142 (v, ct0, f0) _ _ _ _ dD_parsed_142 (⟨fr, rfl, z9, hNv, hfin⟩) ⟨rfl, hZ⟩ hS
          · have hneg := of_decide_eq_true (bZ_nf.mp (by assumption : ¬ bZ (decide (0 < ct0 ∧ f0 0 = 45)) = 0))
            refine lv_aload_n hx hb dD_parsed_120 rfl (lv_at hl 0 rfl) ?_
            refine zd_value hx hb ht hown hK hZ tw_100 dD_parsed_121 ?_
            refine zw_count (d := (v 74).1) (n := (v 74).2.1) (b := (v 74).2.2) hx hb ht hown hK hZ (by decide) rfl tw_36 dD_parsed_124 ?_
            refine zr_if_le (tgt := 134) hx hb (by unfold zi; have := (hZ.2 74 (by decide)).2; omega) dD_parsed_127 (by decide) (fun c_17 => ?_) (fun c_17 => ?_)
            · have hz0 : ((z9 : Nat) : Int) = 0 := (zN_0 hNv).mp (by omega)
              refine lv_iconst (v := iZ (0)) hx hb dD_parsed_134 (by decide) ?_
              have hNv0 := hNv
              have hM_val : zM (v 74) (v 74).2.1 (((z9 : Nat) : Int)).natAbs (v 74).2.2 := zN_M hNv
              obtain ⟨n_18, hnn_18⟩ : ∃ n9, n9 = (v 74).2.1 := ⟨_, rfl⟩
              obtain ⟨b_19, hbb_19⟩ : ∃ b9, b9 = (v 74).2.2 := ⟨_, rfl⟩
              rw [← hnn_18, ← hbb_19] at hM_val
              refine W.eq (g2 := F0 m 135 ls (.int (iZ (bZ false)) :: .ref (B + 74) :: [])) rfl ?_
              refine zw_put_below (d := (v 74).1) (n := (v 74).2.1) (b := (v 74).2.2) (b1 := false) hx hb ht hown hK hZ (by decide) rfl hS tw_41 dD_parsed_135 (fun v H locs ev ho hZ hS => ?_)
              have fr : ∀ j, j ≠ 74 → v j = v0 j := fun j h0 => (ho j h0).trans (fr j h0)
              have hM_val : zM (v 74) (n_18) ((((z9 : Nat) : Int)).natAbs) (false) := zM_b hM_val ev
              have hNv : zN (v 74) (sgz ct0 f0 z9) := by unfold sgz; rw [if_pos hneg, hz0]; exact (by rw [hz0] at hNv0; exact zN_b (b1 := false) hNv0 (Int.le_refl 0) ev (fun h9 => absurd h9 (by decide)))
              refine lv_aload_n hx hb dD_parsed_138 rfl (lv_at hl 0 rfl) ?_
              refine zd_value hx hb ht hown hK hZ tw_100 dD_parsed_139 ?_
              exact hend 142 (v, ct0, f0) _ _ _ _ dD_parsed_142 (⟨fr, rfl, z9, hNv, hfin⟩) ⟨rfl, hZ⟩ hS
            · have hz0 : ((z9 : Nat) : Int) ≠ 0 := fun h9 => absurd ((zN_0 hNv).mpr h9) (by omega)
              refine lv_iconst (v := iZ (1)) hx hb dD_parsed_130 (by decide) ?_
              refine lv_goto (tgt := 135) hx hb dD_parsed_131 (by decide) ?_
              have hNv0 := hNv
              have hM_val : zM (v 74) (v 74).2.1 (((z9 : Nat) : Int)).natAbs (v 74).2.2 := zN_M hNv
              obtain ⟨n_20, hnn_20⟩ : ∃ n9, n9 = (v 74).2.1 := ⟨_, rfl⟩
              obtain ⟨b_21, hbb_21⟩ : ∃ b9, b9 = (v 74).2.2 := ⟨_, rfl⟩
              rw [← hnn_20, ← hbb_21] at hM_val
              refine W.eq (g2 := F0 m 135 ls (.int (iZ (bZ true)) :: .ref (B + 74) :: [])) rfl ?_
              refine zw_put_below (d := (v 74).1) (n := (v 74).2.1) (b := (v 74).2.2) (b1 := true) hx hb ht hown hK hZ (by decide) rfl hS tw_41 dD_parsed_135 (fun v H locs ev ho hZ hS => ?_)
              have fr : ∀ j, j ≠ 74 → v j = v0 j := fun j h0 => (ho j h0).trans (fr j h0)
              have hM_val : zM (v 74) (n_20) ((((z9 : Nat) : Int)).natAbs) (true) := zM_b hM_val ev
              have hNv : zN (v 74) (sgz ct0 f0 z9) := by unfold sgz; rw [if_pos hneg]; exact zN_b (b1 := true) hNv0 (Int.natCast_nonneg z9) ev (fun _ => hz0)
              refine lv_aload_n hx hb dD_parsed_138 rfl (lv_at hl 0 rfl) ?_
              refine zd_value hx hb ht hown hK hZ tw_100 dD_parsed_139 ?_
              exact hend 142 (v, ct0, f0) _ _ _ _ dD_parsed_142 (⟨fr, rfl, z9, hNv, hfin⟩) ⟨rfl, hZ⟩ hS
        · have hV4 : V < wP 74 := by have := hlen.mp (by omega); rw [Int.natAbs_natCast] at this; exact this
          have hdi := hnum.2 i hi.1 (by omega)
          obtain ⟨hs1, hs2⟩ := pz_step he hp hdi
          have hh : hv base f0 (stt ct0 f0) (i + 1 - stt ct0 f0) = hv base f0 (stt ct0 f0) (i - stt ct0 f0) * base + dg (f0 i) := by rw [show i + 1 - stt ct0 f0 = (i - stt ct0 f0) + 1 by omega, hv_s, show stt ct0 f0 + (i - stt ct0 f0) = i by omega]
          refine lv_lload_n hx hb dD_parsed_40 rfl (lv_at hl 2 rfl) ?_
          refine lv_iload_n hx hb dD_parsed_41 rfl (lv_at hl 1 rfl) ?_
          refine zr_i2l hx hb (by unfold zi; omega) dD_parsed_42 ?_
          refine zr_lmul hx hb dD_parsed_43 ?_
          refine lv_aload_n hx hb dD_parsed_44 rfl (lv_at hl 0 rfl) ?_
          refine zd_characters hx hb ht hown hK hZ tw_99 dD_parsed_45 ?_
          refine lv_iload hx hb dD_parsed_48 (lv_at hl 4 rfl) ?_
          refine zd_ld (i := i) hx hb hK hZ (by omega) dD_parsed_50 ?_
          refine zcS_i 1 (As := [.int (iZ (sb (f0 i)))]) (rest := [.long (lZ (↑pt * ↑base))]) ⟨hx, hb, hml, hown, ht⟩ (mD_digitOf l E B v (zd E B o ct0 f0) (f0 i) (hf _)) tw_266 tw_264 tw_265 tw_4 qD_digitOf (by rw [hR]; decide) hZ hK hl.1 rfl rfl (Nat.le_of_ble_eq_true rfl) dD_parsed_51 ⟨Nat.zero_le _, Nat.zero_le _⟩ hS (fun r_22 v1 H locs hp hZ _ hS => ?_)
          obtain ⟨hv1, hr1⟩ := hp
          rw [hv1] at hZ
          subst hr1
          clear hv1 v1
          have hdl := dg_le (f0 i)
          refine zr_i2l hx hb (by unfold zi; omega) dD_parsed_54 ?_
          refine zr_ladd hx hb dD_parsed_55 ?_
          refine zc_l (y := lZ (↑(pt * base + dg (f0 i)))) (congrArg lZ (by rw [Int.natCast_add, Int.natCast_mul])) ?_
          refine lv_lstore_n (lv' := [(2, .long (lZ (↑(pt * base + dg (f0 i))))), (0, .ref (B + 72)), (1, .int (iZ (↑base))), (4, .long (lZ (↑wt))), (6, .int (iZ (↑i)))]) hx hb dD_parsed_56 rfl hl (by decide) rfl (fun ls hl => ?_)
          refine lv_lload hx hb dD_parsed_57 (lv_at hl 3 rfl) ?_
          refine lv_iload_n hx hb dD_parsed_59 rfl (lv_at hl 2 rfl) ?_
          refine zr_i2l hx hb (by unfold zi; omega) dD_parsed_60 ?_
          refine zr_lmul hx hb dD_parsed_61 ?_
          refine zc_l (y := lZ (↑(wt * base))) (congrArg lZ (by rw [Int.natCast_mul])) ?_
          refine lv_lstore (lv' := [(4, .long (lZ (↑(wt * base)))), (2, .long (lZ (↑(pt * base + dg (f0 i))))), (0, .ref (B + 72)), (1, .int (iZ (↑base))), (6, .int (iZ (↑i)))]) hx hb dD_parsed_62 hl (by decide) rfl (fun ls hl => ?_)
          refine lv_lload hx hb dD_parsed_64 (lv_at hl 0 rfl) ?_
          refine lv_iload_n hx hb dD_parsed_66 rfl (lv_at hl 3 rfl) ?_
          refine zr_i2l hx hb (by unfold zi; omega) dD_parsed_67 ?_
          refine zr_lmul hx hb dD_parsed_68 ?_
          refine zc_l (y := lZ (↑(wt * base * base))) (congrArg lZ (by rw [Int.natCast_mul (wt * base)])) ?_
          have hwb : wt * base * base ≤ wt * base * 36 := Nat.mul_le_mul_left _ hbs.2
          refine lv_ldc2 (v := lZ (268435455)) hx hb hown (ht _ tw_296) dD_parsed_69 ?_
          refine zr_lcmp_le (tgt := 91) hx hb (by unfold zl; omega) (by unfold zl; omega) dD_parsed_72 dD_parsed_73 (by decide) (fun c_23 => ?_) (fun c_23 => ?_)
          · have hw9 : wt * base * base < 268435456 := by omega
            refine lv_iinc (v := iZ (↑i + 1)) (lv' := [(6, .int (iZ (↑i + 1))), (4, .long (lZ (↑(wt * base)))), (2, .long (lZ (↑(pt * base + dg (f0 i))))), (0, .ref (B + 72)), (1, .int (iZ (↑base)))]) hx hb dD_parsed_91 hl (k := 4) rfl (iZ_add _ _) (by decide) rfl (fun ls hl => ?_)
            refine lv_goto (tgt := 19) hx hb dD_parsed_94 (by decide) ?_
            rw [show (↑i + 1 : Int) = ↑(i + 1) from by omega] at hl
            exact ihL19 (i + 1) V (pt * base + dg (f0 i)) (wt * base) v _ _ _ (by omega) (⟨by omega, by omega⟩) (by rw [hs1]; exact hh.symm) (hs2) (hw9) (hV5) hNv fr hZ hS (lv_sub hl [3, 4, 2, 1, 0] rfl)
          · refine lv_aload_n hx hb dD_parsed_76 rfl (lv_at hl 2 rfl) ?_
            refine zd_value hx hb ht hown hK hZ tw_100 dD_parsed_77 ?_
            refine lv_lload hx hb dD_parsed_80 (lv_at hl 0 rfl) ?_
            refine lv_lload_n hx hb dD_parsed_82 rfl (lv_at hl 1 rfl) ?_
            refine zcV_v 2 (As := [.long (lZ (↑(wt * base))), .long (lZ (↑(pt * base + dg (f0 i))))]) (rest := []) rfl ⟨hx, hb, hml, hown, ht⟩ (mW_scale l E B v (zd E B o ct0 f0) 74 (by decide) (v 74).1 (v 74).2.1 (v 74).2.2 rfl (wt * base) (pt * base + dg (f0 i)) (by omega) (by omega) (by omega)) tw_300 tw_297 tw_298 tw_299 tw_2 qW_scale (by rw [hR]; decide) (zW_recv hK hZ (by decide)) hZ hK hl.1 rfl rfl (Nat.le_of_ble_eq_true rfl) dD_parsed_83 ⟨Nat.zero_le _, Nat.zero_le _⟩ hS (fun v H locs hp hZ _ hS => ?_)
            obtain ⟨ho, hN9⟩ := hp
            rw [← zN_abs hNv, zM_a hNv (Int.natCast_nonneg _), if_neg (by decide), Int.natAbs_natCast] at hN9
            have fr : ∀ j, j ≠ 74 → v j = v0 j := fun j h0 => (ho j h0).trans (fr j h0)
            have hNv : zN (v 74) (((V * (wt * base) + (pt * base + dg (f0 i)) : Nat) : Int)) := by rw [Nat.mul_comm V]; exact hN9
            refine lv_lconst (v := lZ (0)) hx hb dD_parsed_86 (by decide) ?_
            refine lv_lstore_n (lv' := [(2, .long (lZ (0))), (4, .long (lZ (↑(wt * base)))), (0, .ref (B + 72)), (1, .int (iZ (↑base))), (6, .int (iZ (↑i)))]) hx hb dD_parsed_87 rfl hl (by decide) rfl (fun ls hl => ?_)
            refine lv_lconst (v := lZ (1)) hx hb dD_parsed_88 (by decide) ?_
            refine lv_lstore (lv' := [(4, .long (lZ (1))), (2, .long (lZ (0))), (0, .ref (B + 72)), (1, .int (iZ (↑base))), (6, .int (iZ (↑i)))]) hx hb dD_parsed_89 hl (by decide) rfl (fun ls hl => ?_)
            refine lv_iinc (v := iZ (↑i + 1)) (lv' := [(6, .int (iZ (↑i + 1))), (4, .long (lZ (1))), (2, .long (lZ (0))), (0, .ref (B + 72)), (1, .int (iZ (↑base)))]) hx hb dD_parsed_91 hl (k := 4) rfl (iZ_add _ _) (by decide) rfl (fun ls hl => ?_)
            refine lv_goto (tgt := 19) hx hb dD_parsed_94 (by decide) ?_
            rw [show (↑i + 1 : Int) = ↑(i + 1) from by omega] at hl
            exact ihL19 (i + 1) (V * (wt * base) + (pt * base + dg (f0 i))) 0 1 v _ _ _ (by omega) (⟨by omega, by omega⟩) (by rw [Nat.mul_one, Nat.add_zero, hs1]; exact hh.symm) (by decide) (by omega) (pz_room hV4 (by omega) hs2) (hNv) fr hZ hS (lv_sub hl [3, 4, 2, 1, 0] rfl)
  exact L19 _ (stt ct0 f0) 0 0 1 v _ _ _ (Nat.lt_succ_self _) (⟨Nat.le_refl _, by omega⟩) (by rw [Nat.sub_self]; rfl) (by decide) (by omega) (wP_pos 75) (hNv) fr hZ hS (lv_sub hl [3, 4, 2, 1, 0] rfl)
