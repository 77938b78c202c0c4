def J9 (x : Int) (md u v p w : Nat) (fB sB : Bool) : Prop := (u = (x % (md : Int)).toNat ∧ v = md ∧ p = 1 ∧ w = 0 ∧ fB = false ∧ sB = false) ∨ (∃ pb, eI x md u v p w pb ∧ lfb fB p = lfb pb p ∧ lfb sB w = lfb (!pb) w)
theorem lfb_inj {a b : Bool} {x y : Nat} (h : lfb a x = lfb b y) : x = y := by
  unfold lfb at h
  cases a <;> cases b <;> simp only [Bool.false_eq_true, if_true, if_false] at h <;> omega
theorem lfb_sg {a b : Bool} {x : Nat} (hx : x ≠ 0) (h : lfb a x = lfb b x) : a = b := by
  unfold lfb at h
  cases a <;> cases b <;> simp only [Bool.false_eq_true, if_true, if_false] at h
  · rfl
  · omega
  · omega
  · rfl
theorem lfb_add (a : Bool) (x y : Nat) : lfb a x + lfb a y = lfb a (x + y) := by
  unfold lfb
  split <;> omega
theorem J9_st {x : Int} {md u v p w X : Nat} {fB sB be : Bool} (hmd : 0 < md) (hv : v ≠ 0) (hJ : J9 x md u v p w fB sB) (hX : lfb be X = lfb fB p + lfb (!sB) (u / v * w)) : J9 x md v (u % v) w X sB be := by
  rcases hJ with ⟨h1, h2, h3, h4, h5, h6⟩ | ⟨pb, hE, hF, hS⟩
  · right
    have h9 := Int.emod_lt_of_pos x (show (0 : Int) < md by omega)
    have h8 := Int.emod_nonneg x (show (md : Int) ≠ 0 by omega)
    have hu : u < v := by omega
    rw [Nat.div_eq_of_lt hu, Nat.zero_mul, h3, h5, h6] at hX
    have hX1 : X = 1 := lfb_inj (b := false) (y := 1) (by rw [hX]; rfl)
    subst hX1
    refine ⟨true, ?_, by rw [h4, h6]; rfl, by rw [hX]; rfl⟩
    rw [Nat.mod_eq_of_lt hu, h4, h1, h2]
    exact eI_0 x md hmd
  · right
    have hw : w ≠ 0 := by have := hE.2.2.2.1; omega
    have hs : sB = !pb := lfb_sg hw hS
    rw [hs, Bool.not_not, hF, lfb_add] at hX
    have hXe := lfb_inj hX
    subst hXe
    exact ⟨!pb, eI_st hv hE, hS, by rw [hX, Bool.not_not]⟩
theorem J9_bd {x : Int} {md u v p w : Nat} {fB sB : Bool} (hmd : 0 < md) (hJ : J9 x md u v p w fB sB) : u ≤ md ∧ v ≤ md ∧ p ≤ md ∧ w ≤ md := by
  rcases hJ with ⟨h1, h2, h3, h4, h5, h6⟩ | ⟨pb, hE, hF, hS⟩
  · have h9 := Int.emod_lt_of_pos x (show (0 : Int) < md by omega)
    have h8 := Int.emod_nonneg x (show (md : Int) ≠ 0 by omega)
    omega
  · obtain ⟨e1, e2, e3, e4, _⟩ := hE
    have h1 : 1 * u ≤ w * u := Nat.mul_le_mul_right _ e4
    have h2 : w * 1 ≤ w * u := Nat.mul_le_mul_left _ (by omega)
    have h3 : 0 ≤ p * v := Nat.zero_le _
    omega
theorem J9_end {x : Int} {md u p w : Nat} {fB sB : Bool} (hmd : 0 < md) (hJ : J9 x md u 0 p w fB sB) : u = Nat.gcd md x.natAbs ∧ (u = 1 → p < md ∧ (fB = false ∨ p = 0 → (md : Int) ∣ x * (p : Int) - 1) ∧ (fB = true → p ≠ 0 → (md : Int) ∣ x * ((md - p : Nat) : Int) - 1)) := by
  rcases hJ with ⟨h1, h2, h3, h4, h5, h6⟩ | ⟨pb, hE, hF, hS⟩
  · omega
  · refine ⟨eI_end hE, fun hu => ?_⟩
    subst hu
    obtain ⟨r1, r2⟩ := eI_res hE
    refine ⟨hE.2.2.1, fun h => ?_, fun h hp => ?_⟩
    · rcases Nat.eq_zero_or_pos p with h0 | h0
      · exact (r1 (Or.inr h0)).2
      · have hpb := lfb_sg (by omega) hF
        rcases h with h | h
        · exact (r1 (Or.inl (by rw [← hpb, h]))).2
        · omega
    · have hpb := lfb_sg hp hF
      exact (r2 (by rw [← hpb, h]) hp).2.2
theorem rv_one {d : Nat → Nat} (hd : ∀ i, d i < 65536) {n X : Nat} (hn1 : n ≤ 264) (hn2 : ∀ i, n ≤ i → i < 264 → d i = 0) (hX : rv d 264 = X) (hn : n = 1) : d 0 = X := by
  rw [← hX, rv_drop (m := 1) (by decide) (fun i h1 h2 => hn2 i (by omega) h2), show 1 = 0 + 1 from rfl, rv_s, rv_0, rP_0]
  omega
theorem size_1 {n X : Nat} (hz : ∀ q, n ≤ q ↔ X < rP q) (h : X = 1) : n = 1 := by
  have h1 := (hz 1).mpr (by rw [h]; decide)
  have h2 : ¬ n ≤ 0 := fun h9 => by
    have h3 := (hz 0).mp h9
    rw [rP_0] at h3
    omega
  omega
theorem size_0 {n X : Nat} (hz : ∀ q, n ≤ q ↔ X < rP q) : n = 0 ↔ X = 0 := by
  have h1 := hz 0
  rw [rP_0] at h1
  omega
theorem rP128_264 : rP 128 + rP 128 * rP 128 ≤ rP 264 := by
  rw [← rP_add]
  have h1 := rP_mono (show 128 ≤ 256 by decide)
  have h2 := rP_mono (show 257 ≤ 264 by decide)
  rw [show 257 = 256 + 1 from rfl, rP_s] at h2
  show rP 128 + rP 256 ≤ rP 264
  omega
set_option maxHeartbeats 4000000 in
set_option maxRecDepth 100000 in
theorem mM_inverts (l : Launch) (E : zE) (B : Nat) (w0 : Nat → Nat → Nat) (q0 : zC) (rg : Nat → Int) (ct : Nat) (f : Nat → Nat) (st : Nat) (g : Nat → Nat) (hMR : MR w0 rg) (hdr : ∀ i, i < ct → w0 1 i = f i) (hpa : ∀ i, i < 2049 - st → w0 14 i = g (st + i)) (x : Int) (md : Nat) (hmd : 0 < md) (hmd1 : md < rP 128) (hv_9 : rv (w0 9) 264 = (x % ((md : Nat) : Int)).toNat) (hv_13 : rv (w0 13) 264 = md) :
    Met l yM_inverts (zws yM_inverts cM_inverts 1 (some .boolean)) { frames := 2, cells := 0, slots := 0, locals := 110 } (zPc E (zMD E B w0 q0) [.ref (B)]) (va_Qi (fun (r : Int32) (u : (Nat → Nat → Nat) × zC) => (∀ j, j ≠ 4 → j ≠ 5 → j ≠ 6 → j ≠ 7 → j ≠ 8 → j ≠ 9 → j ≠ 10 → j ≠ 11 → j ≠ 12 → u.1 j = w0 j) ∧ (∃ be fb sb9 : Bool, u.2 = (q0.1, q0.2.1, q0.2.2.1, be, fb, sb9, q0.2.2.2.2.2.2)) ∧ ∃ b : Bool, r = iZ (bZ b) ∧ (b = true → Nat.gcd md x.natAbs = 1 ∧ ∃ z : Nat, z < md ∧ ((md : Nat) : Int) ∣ x * ((z : Nat) : Int) - 1 ∧ rv (u.1 9) 264 = z) ∧ (b = false → Nat.gcd md x.natAbs ≠ 1)) (fun u t => zMD E B u.1 u.2 t.heap ∧ zK E t) (zA B 15)) 0 0 (zA B 15) := by
  obtain ⟨th, fa, le, be, fb, sb9, pr⟩ := q0
  refine zof_z (P' := fun (u : (Nat → Nat → Nat) × zC) H => zMD E B u.1 u.2 H) (by decide) (Nat.le_of_ble_eq_true rfl) fun p e R s m args below meth c Q ls hR hx hb hml ht hown hK hZ hl hend => ?_
  have hS : va_S (zA B 15) s.heap s.heap [] := va_S.rf
  have hown : s.vm.findClass "WholeDeskModel" = some m.cls := hown
  have hl : lv_has ls 1 [(0, .ref (B))] := hl
  have frx : ∀ jx, jx ≠ 4 → jx ≠ 5 → jx ≠ 6 → jx ≠ 7 → jx ≠ 8 → jx ≠ 9 → jx ≠ 10 → jx ≠ 11 → jx ≠ 12 → w0 jx = w0 jx := fun jx _ _ _ _ _ _ _ _ _ => rfl
  refine lv_aload_n hx hb dM_inverts_0 rfl (lv_at hl 0 rfl) ?_
  refine zm_modulus hx hb ht hown hK hZ tw_695 dM_inverts_1 ?_
  refine lv_aload_n hx hb dM_inverts_4 rfl (lv_at hl 0 rfl) ?_
  refine zm_two hx hb ht hown hK hZ tw_690 dM_inverts_5 ?_
  refine zcS_v (P' := fun (u : (Nat → Nat → Nat) × zC) H => zMD E B u.1 u.2 H) 2 (As := [.ref (B + 13), .ref (B + 10)]) (rest := []) ⟨hx, hb, hml, hown, ht⟩ (mM_copy l E B w0 (th, fa, le, be, fb, sb9, pr) 13 (by decide) 10 (by decide) 264 rfl (by decide) 264 rfl (by decide) (by decide)) tw_798 tw_796 tw_797 tw_6 qM_copy (by rw [hR]; decide) hZ hK hl.1 rfl rfl (Nat.le_of_ble_eq_true rfl) dM_inverts_8 ⟨Nat.zero_le _, Nat.zero_le _⟩ hS (fun u H locs hp hZ _ hS => ?_)
  obtain ⟨w, q9⟩ := u
  obtain ⟨ho, hq9, hcp⟩ := hp
  dsimp only at *
  rw [hq9] at hZ
  have hcv : rv (w 10) 264 = md := by rw [rv_congr (fun i hi => (hcp i hi).trans (if_pos hi))]; exact hv_13
  replace hMR : MR w rg := MR_same (ho 2 (by decide)) (ho 3 (by decide)) hMR
  replace hdr : ∀ i, i < ct → w 1 i = f i := fun i hi => by rw [ho 1 (by decide)]; exact hdr i hi
  replace hpa : ∀ i, i < 2049 - st → w 14 i = g (st + i) := fun i hi => by rw [ho 14 (by decide)]; exact hpa i hi
  replace hv_9 : rv (w 9) 264 = (x % ((md : Nat) : Int)).toNat := by rw [ho 9 (by decide)]; exact hv_9
  replace hv_13 : rv (w 13) 264 = md := by rw [ho 13 (by decide)]; exact hv_13
  have frx : ∀ jx, jx ≠ 4 → jx ≠ 5 → jx ≠ 6 → jx ≠ 7 → jx ≠ 8 → jx ≠ 9 → jx ≠ 10 → jx ≠ 11 → jx ≠ 12 → w jx = w0 jx := fun jx h0 h1 h2 h3 h4 h5 h6 h7 h8 => (ho jx h6).trans (frx jx h0 h1 h2 h3 h4 h5 h6 h7 h8)
  have hv_10 : rv (w 10) 264 = md := hcv
  clear hcv
  refine lv_aload_n hx hb dM_inverts_11 rfl (lv_at hl 0 rfl) ?_
  refine lv_aload_n hx hb dM_inverts_12 rfl (lv_at hl 0 rfl) ?_
  refine zm_first hx hb ht hown hK hZ tw_691 dM_inverts_13 ?_
  refine zcV_v (P' := fun (u : (Nat → Nat → Nat) × zC) H => zMD E B u.1 u.2 H) 1 (As := [.ref (B + 11)]) (rest := []) rfl ⟨hx, hb, hml, hown, ht⟩ (mM_setOne l E B w (th, fa, le, be, fb, sb9, pr) 11 (by decide) rfl) tw_844 tw_841 tw_843 tp_20 tw_6 qM_setOne (by rw [hR]; decide) (zm_recv hK hZ) hZ hK hl.1 rfl rfl (Nat.le_of_ble_eq_true rfl) dM_inverts_16 ⟨Nat.zero_le _, Nat.zero_le _⟩ hS (fun u H locs hp hZ _ hS => ?_)
  obtain ⟨w, q9⟩ := u
  obtain ⟨ho, hq9, hso⟩ := hp
  dsimp only at *
  rw [hq9] at hZ
  replace hMR : MR w rg := MR_same (ho 2 (by decide)) (ho 3 (by decide)) hMR
  replace hdr : ∀ i, i < ct → w 1 i = f i := fun i hi => by rw [ho 1 (by decide)]; exact hdr i hi
  replace hpa : ∀ i, i < 2049 - st → w 14 i = g (st + i) := fun i hi => by rw [ho 14 (by decide)]; exact hpa i hi
  replace hv_9 : rv (w 9) 264 = (x % ((md : Nat) : Int)).toNat := by rw [ho 9 (by decide)]; exact hv_9
  replace hv_13 : rv (w 13) 264 = md := by rw [ho 13 (by decide)]; exact hv_13
  replace hv_10 : rv (w 10) 264 = md := by rw [ho 10 (by decide)]; exact hv_10
  have frx : ∀ jx, jx ≠ 4 → jx ≠ 5 → jx ≠ 6 → jx ≠ 7 → jx ≠ 8 → jx ≠ 9 → jx ≠ 10 → jx ≠ 11 → jx ≠ 12 → w jx = w0 jx := fun jx h0 h1 h2 h3 h4 h5 h6 h7 h8 => (ho jx h7).trans (frx jx h0 h1 h2 h3 h4 h5 h6 h7 h8)
  have hv_11 : rv (w 11) 264 = 1 := hso
  clear hso
  refine lv_aload_n hx hb dM_inverts_19 rfl (lv_at hl 0 rfl) ?_
  refine zm_second hx hb ht hown hK hZ tw_692 dM_inverts_20 ?_
  refine zcS_v (P' := fun (u : (Nat → Nat → Nat) × zC) H => zMD E B u.1 u.2 H) 1 (As := [.ref (B + 12)]) (rest := []) ⟨hx, hb, hml, hown, ht⟩ (mM_clear l E B w (th, fa, le, be, fb, sb9, pr) 12 (by decide) 264 rfl (by decide)) tw_768 tw_766 tw_767 tw_6 qM_clear (by rw [hR]; decide) hZ hK hl.1 rfl rfl (Nat.le_of_ble_eq_true rfl) dM_inverts_23 ⟨Nat.zero_le _, Nat.zero_le _⟩ hS (fun u H locs hp hZ _ hS => ?_)
  obtain ⟨w, q9⟩ := u
  obtain ⟨ho, hq9, hcl⟩ := hp
  dsimp only at *
  rw [hq9] at hZ
  replace hMR : MR w rg := MR_same (ho 2 (by decide)) (ho 3 (by decide)) hMR
  replace hdr : ∀ i, i < ct → w 1 i = f i := fun i hi => by rw [ho 1 (by decide)]; exact hdr i hi
  replace hpa : ∀ i, i < 2049 - st → w 14 i = g (st + i) := fun i hi => by rw [ho 14 (by decide)]; exact hpa i hi
  replace hv_9 : rv (w 9) 264 = (x % ((md : Nat) : Int)).toNat := by rw [ho 9 (by decide)]; exact hv_9
  replace hv_13 : rv (w 13) 264 = md := by rw [ho 13 (by decide)]; exact hv_13
  replace hv_10 : rv (w 10) 264 = md := by rw [ho 10 (by decide)]; exact hv_10
  replace hv_11 : rv (w 11) 264 = 1 := by rw [ho 11 (by decide)]; exact hv_11
  have frx : ∀ jx, jx ≠ 4 → jx ≠ 5 → jx ≠ 6 → jx ≠ 7 → jx ≠ 8 → jx ≠ 9 → jx ≠ 10 → jx ≠ 11 → jx ≠ 12 → w jx = w0 jx := fun jx h0 h1 h2 h3 h4 h5 h6 h7 h8 => (ho jx h8).trans (frx jx h0 h1 h2 h3 h4 h5 h6 h7 h8)
  have hv_12 : rv (w 12) 264 = 0 := by rw [rv_drop (m := 0) (Nat.zero_le _) (fun i _ h => hcl i h)]; rfl
  have hcl12 := hcl
  refine lv_aload_n hx hb dM_inverts_26 rfl (lv_at hl 0 rfl) ?_
  refine lv_iconst (v := iZ (0)) hx hb dM_inverts_27 (by decide) ?_
  refine W.eq (g2 := F0 m 28 ls ([.int (iZ (bZ false)), .ref B])) rfl ?_
  refine zm_put_firstBelow (x := false) hx hb ht hown hK hZ hS tw_693 dM_inverts_28 (fun H locs hZ hS => ?_)
  have hZ : zMD E B w (th, fa, le, be, false, sb9, pr) H := hZ
  refine lv_aload_n hx hb dM_inverts_31 rfl (lv_at hl 0 rfl) ?_
  refine lv_iconst (v := iZ (0)) hx hb dM_inverts_32 (by decide) ?_
  refine W.eq (g2 := F0 m 33 ls ([.int (iZ (bZ false)), .ref B])) rfl ?_
  refine zm_put_secondBelow (x := false) hx hb ht hown hK hZ hS tw_694 dM_inverts_33 (fun H locs hZ hS => ?_)
  have hZ : zMD E B w (th, fa, le, be, false, false, pr) H := hZ
  have L36 : ∀ (fu : Nat) (u1 : Nat) (v1 : Nat) (p1 : Nat) (w1 : Nat) (be : Bool) (fb : Bool) (sb9 : Bool) (w : Nat → Nat → Nat) (H : Heap) (locs : List Loc) (ls : Array Slot), v1 < fu → (J9 x md u1 v1 p1 w1 fb sb9) → (∀ jx, jx ≠ 4 → jx ≠ 5 → jx ≠ 6 → jx ≠ 7 → jx ≠ 8 → jx ≠ 9 → jx ≠ 10 → jx ≠ 11 → jx ≠ 12 → w jx = w0 jx) → (MR w rg) → (∀ i, i < ct → w 1 i = f i) → (∀ i, i < 2049 - st → w 14 i = g (st + i)) → (rv (w 9) 264 = u1) → (rv (w 13) 264 = md) → (rv (w 10) 264 = v1) → (rv (w 11) 264 = p1) → (rv (w 12) 264 = w1) → zMD E B w (th, fa, le, be, fb, sb9, pr) H → va_S (zA B 15) s.heap H locs → lv_has ls 1 [(0, .ref (B))] → W p l e R s m args below meth c H locs 0 0 Q (F0 m 36 ls []) := by
    intro fu
    induction fu with
    | zero => intro u1 v1 p1 w1 be fb sb9 w H locs ls hm; exact absurd hm (Nat.not_lt_zero _)
    | succ fu ihL36 =>
      intro u1 v1 p1 w1 be fb sb9 w H locs ls hm hJ frx hMR hdr hpa hv_9 hv_13 hv_10 hv_11 hv_12 hZ hS hl
      refine lv_aload_n hx hb dM_inverts_36 rfl (lv_at hl 0 rfl) ?_
      refine zm_two hx hb ht hown hK hZ tw_690 dM_inverts_37 ?_
      refine zcS_i (P' := fun (u : (Nat → Nat → Nat) × zC) H => zMD E B u.1 u.2 H) 1 (As := [.ref (B + 10)]) (rest := []) ⟨hx, hb, hml, hown, ht⟩ (mM_size l E B w (th, fa, le, be, fb, sb9, pr) 10 (by decide) 264 rfl (by decide)) tw_774 tw_772 tw_773 tw_6 qM_size (by rw [hR]; decide) hZ hK hl.1 rfl rfl (Nat.le_of_ble_eq_true rfl) dM_inverts_40 ⟨Nat.zero_le _, Nat.zero_le _⟩ hS (fun r9 u H locs hp hZ _ hS => ?_)
      obtain ⟨hu9, n, hr1, hn1, hn2, hn3⟩ := hp
      subst hr1
      rw [hu9] at hZ
      dsimp only at hZ
      clear hu9
      have hnz : ∀ q, n ≤ q ↔ v1 < rP q := fun q => by rw [← hv_10]; exact size_le (hZ.2 10) hn1 hn2 hn3 q
      refine zr_if_le (tgt := 165) hx hb (by unfold zi; omega) dM_inverts_43 (by decide) (fun c_1 => ?_) (fun c_1 => ?_)
      · have hv0 : v1 = 0 := by have h8 := (hnz 0).mp (by omega); have h7 : rP 0 = 1 := rfl; omega
        rw [hv0] at hJ
        obtain ⟨hgd, hres⟩ := J9_end hmd hJ
        obtain ⟨hb1, hb2, hb3, hb4⟩ := J9_bd hmd hJ
        refine lv_aload_n hx hb dM_inverts_165 rfl (lv_at hl 0 rfl) ?_
        refine zm_one hx hb ht hown hK hZ tw_689 dM_inverts_166 ?_
        refine zcS_i (P' := fun (u : (Nat → Nat → Nat) × zC) H => zMD E B u.1 u.2 H) 1 (As := [.ref (B + 9)]) (rest := []) ⟨hx, hb, hml, hown, ht⟩ (mM_size l E B w (th, fa, le, be, fb, sb9, pr) 9 (by decide) 264 rfl (by decide)) tw_774 tw_772 tw_773 tw_6 qM_size (by rw [hR]; decide) hZ hK hl.1 rfl rfl (Nat.le_of_ble_eq_true rfl) dM_inverts_169 ⟨Nat.zero_le _, Nat.zero_le _⟩ hS (fun r9 u H locs hp hZ _ hS => ?_)
        obtain ⟨hu9, n1, hr1, hn11, hn12, hn13⟩ := hp
        subst hr1
        rw [hu9] at hZ
        dsimp only at hZ
        clear hu9
        have hn1z : ∀ q, n1 ≤ q ↔ u1 < rP q := fun q => by rw [← hv_9]; exact size_le (hZ.2 9) hn11 hn12 hn13 q
        refine lv_iconst (v := iZ (1)) hx hb dM_inverts_172 (by decide) ?_
        refine zr_icmp_ne (tgt := 186) hx hb (by unfold zi; omega) (by unfold zi; omega) dM_inverts_173 (by decide) (fun c_2 => ?_) (fun c_2 => ?_)
        · have hu1 : u1 ≠ 1 := fun h9 => by have h8 := size_1 hn1z h9; omega
          refine lv_iconst (v := iZ (0)) hx hb dM_inverts_186 (by decide) ?_
          exact hend 187 (false) (w, (th, fa, le, be, fb, sb9, pr)) _ _ _ dM_inverts_187 (⟨frx, ⟨be, fb, sb9, rfl⟩, false, rfl, fun h9 => absurd h9 (by decide), fun _ => by rw [← hgd]; exact hu1⟩) hZ hS
        · have hn11 : n1 = 1 := by omega
          have h90 := rv_one (hZ.2 9) (by omega) hn12 hv_9 (show n1 = 1 by omega)
          refine lv_aload_n hx hb dM_inverts_176 rfl (lv_at hl 0 rfl) ?_
          refine zm_one hx hb ht hown hK hZ tw_689 dM_inverts_177 ?_
          refine lv_iconst (v := iZ (0)) hx hb dM_inverts_180 (by decide) ?_
          refine W.eq (g2 := F0 m 181 ls (.int (iZ ((0 : Nat) : Int)) :: .ref (B + 9) :: [])) rfl ?_
          refine zm_ld (k := 9) (i := 0) hx hb hK hZ (by decide) (by show 0 < 264; omega) dM_inverts_181 ?_
          refine lv_iconst (v := iZ (1)) hx hb dM_inverts_182 (by decide) ?_
          have hl0 := hZ.2 9 0
          refine zr_icmp_eq (tgt := 188) hx hb (by unfold zi; omega) (by unfold zi; omega) dM_inverts_183 (by decide) (fun c_3 => ?_) (fun c_3 => ?_)
          · have hu1 : u1 = 1 := by omega
            obtain ⟨hpm, hr1, hr2⟩ := hres hu1
            refine lv_aload_n hx hb dM_inverts_188 rfl (lv_at hl 0 rfl) ?_
            refine lv_aload_n hx hb dM_inverts_189 rfl (lv_at hl 0 rfl) ?_
            refine zm_first hx hb ht hown hK hZ tw_691 dM_inverts_190 ?_
            refine lv_aload_n hx hb dM_inverts_193 rfl (lv_at hl 0 rfl) ?_
            refine zm_modulus hx hb ht hown hK hZ tw_695 dM_inverts_194 ?_
            refine zcV_v (P' := fun (u : (Nat → Nat → Nat) × zC) H => zMD E B u.1 u.2 H) 2 (As := [.ref (B + 11), .ref (B + 13)]) (rest := []) rfl ⟨hx, hb, hml, hown, ht⟩ (mM_divideRows l E B w (th, fa, le, be, fb, sb9, pr) 11 (by decide) 13 (by decide) rfl rfl (by decide) (by decide) (by rw [hv_13]; omega) (by rw [hv_13]; exact Nat.lt_of_lt_of_le hmd1 (rP_mono (by decide)))) tw_824 tw_821 tw_823 tp_17 tw_6 qM_divideRows (by rw [hR]; decide) (zm_recv hK hZ) hZ hK hl.1 rfl rfl (Nat.le_of_ble_eq_true rfl) dM_inverts_197 ⟨Nat.zero_le _, Nat.zero_le _⟩ hS (fun u H locs hp hZ _ hS => ?_)
            obtain ⟨w, q9⟩ := u
            obtain ⟨ho, hq9, hdq, hdr9⟩ := hp
            dsimp only at *
            rw [hq9] at hZ
            rw [hv_11, hv_13] at hdq hdr9
            replace hMR : MR w rg := MR_same (ho 2 (by decide) (by decide)) (ho 3 (by decide) (by decide)) hMR
            replace hdr : ∀ i, i < ct → w 1 i = f i := fun i hi => by rw [ho 1 (by decide) (by decide)]; exact hdr i hi
            replace hpa : ∀ i, i < 2049 - st → w 14 i = g (st + i) := fun i hi => by rw [ho 14 (by decide) (by decide)]; exact hpa i hi
            replace hv_9 : rv (w 9) 264 = u1 := by rw [ho 9 (by decide) (by decide)]; exact hv_9
            replace hv_13 : rv (w 13) 264 = md := by rw [ho 13 (by decide) (by decide)]; exact hv_13
            replace hv_10 : rv (w 10) 264 = v1 := by rw [ho 10 (by decide) (by decide)]; exact hv_10
            replace hv_11 : rv (w 11) 264 = p1 := by rw [ho 11 (by decide) (by decide)]; exact hv_11
            replace hv_12 : rv (w 12) 264 = w1 := by rw [ho 12 (by decide) (by decide)]; exact hv_12
            have frx : ∀ jx, jx ≠ 4 → jx ≠ 5 → jx ≠ 6 → jx ≠ 7 → jx ≠ 8 → jx ≠ 9 → jx ≠ 10 → jx ≠ 11 → jx ≠ 12 → w jx = w0 jx := fun jx h0 h1 h2 h3 h4 h5 h6 h7 h8 => (ho jx h3 h4).trans (frx jx h0 h1 h2 h3 h4 h5 h6 h7 h8)
            have hv_8 : rv (w 8) 264 = (p1) / (md) := hdq
            clear hdq
            have hv_7 : rv (w 7) 264 = (p1) % (md) := hdr9
            clear hdr9
            refine lv_aload_n hx hb dM_inverts_200 rfl (lv_at hl 0 rfl) ?_
            refine zm_rest hx hb ht hown hK hZ tw_687 dM_inverts_201 ?_
            refine lv_aload_n hx hb dM_inverts_204 rfl (lv_at hl 0 rfl) ?_
            refine zm_one hx hb ht hown hK hZ tw_689 dM_inverts_205 ?_
            refine zcS_v (P' := fun (u : (Nat → Nat → Nat) × zC) H => zMD E B u.1 u.2 H) 2 (As := [.ref (B + 7), .ref (B + 9)]) (rest := []) ⟨hx, hb, hml, hown, ht⟩ (mM_copy l E B w (th, fa, le, be, fb, sb9, pr) 7 (by decide) 9 (by decide) 264 rfl (by decide) 264 rfl (by decide) (by decide)) tw_798 tw_796 tw_797 tw_6 qM_copy (by rw [hR]; decide) hZ hK hl.1 rfl rfl (Nat.le_of_ble_eq_true rfl) dM_inverts_208 ⟨Nat.zero_le _, Nat.zero_le _⟩ hS (fun u H locs hp hZ _ hS => ?_)
            obtain ⟨w, q9⟩ := u
            obtain ⟨ho, hq9, hcp⟩ := hp
            dsimp only at *
            rw [hq9] at hZ
            have hcv : rv (w 9) 264 = (p1) % (md) := by rw [rv_congr (fun i hi => (hcp i hi).trans (if_pos hi))]; exact hv_7
            replace hMR : MR w rg := MR_same (ho 2 (by decide)) (ho 3 (by decide)) hMR
            replace hdr : ∀ i, i < ct → w 1 i = f i := fun i hi => by rw [ho 1 (by decide)]; exact hdr i hi
            replace hpa : ∀ i, i < 2049 - st → w 14 i = g (st + i) := fun i hi => by rw [ho 14 (by decide)]; exact hpa i hi
            clear hv_9
            replace hv_13 : rv (w 13) 264 = md := by rw [ho 13 (by decide)]; exact hv_13
            replace hv_10 : rv (w 10) 264 = v1 := by rw [ho 10 (by decide)]; exact hv_10
            replace hv_11 : rv (w 11) 264 = p1 := by rw [ho 11 (by decide)]; exact hv_11
            replace hv_12 : rv (w 12) 264 = w1 := by rw [ho 12 (by decide)]; exact hv_12
            replace hv_8 : rv (w 8) 264 = (p1) / (md) := by rw [ho 8 (by decide)]; exact hv_8
            replace hv_7 : rv (w 7) 264 = (p1) % (md) := by rw [ho 7 (by decide)]; exact hv_7
            have frx : ∀ jx, jx ≠ 4 → jx ≠ 5 → jx ≠ 6 → jx ≠ 7 → jx ≠ 8 → jx ≠ 9 → jx ≠ 10 → jx ≠ 11 → jx ≠ 12 → w jx = w0 jx := fun jx h0 h1 h2 h3 h4 h5 h6 h7 h8 => (ho jx h5).trans (frx jx h0 h1 h2 h3 h4 h5 h6 h7 h8)
            have hv_9 : rv (w 9) 264 = (p1) % (md) := hcv
            clear hcv
            rw [Nat.mod_eq_of_lt hpm] at hv_9
            refine lv_aload_n hx hb dM_inverts_211 rfl (lv_at hl 0 rfl) ?_
            refine zm_firstBelow hx hb ht hown hK hZ tw_693 dM_inverts_212 ?_
            refine zc_i (y := iZ (bZ fb)) rfl ?_
            refine zr_if_eq (tgt := 270) hx hb (by have := bZ_01 fb; omega) dM_inverts_215 (by decide) (fun c_4 => ?_) (fun c_4 => ?_)
            · refine lv_iconst (v := iZ (1)) hx hb dM_inverts_270 (by decide) ?_
              exact hend 271 (true) (w, (th, fa, le, be, fb, sb9, pr)) _ _ _ dM_inverts_271 (⟨frx, ⟨be, fb, sb9, rfl⟩, true, rfl, fun _ => ⟨by rw [← hgd]; exact hu1, p1, hpm, hr1 (Or.inl (bZ_f.mp (by assumption))), hv_9⟩, fun h9 => absurd h9 (by decide)⟩) hZ hS
            · have hfb : fb = true := bZ_nf.mp (by assumption)
              refine lv_aload_n hx hb dM_inverts_218 rfl (lv_at hl 0 rfl) ?_
              refine zm_one hx hb ht hown hK hZ tw_689 dM_inverts_219 ?_
              refine zcS_i (P' := fun (u : (Nat → Nat → Nat) × zC) H => zMD E B u.1 u.2 H) 1 (As := [.ref (B + 9)]) (rest := []) ⟨hx, hb, hml, hown, ht⟩ (mM_size l E B w (th, fa, le, be, fb, sb9, pr) 9 (by decide) 264 rfl (by decide)) tw_774 tw_772 tw_773 tw_6 qM_size (by rw [hR]; decide) hZ hK hl.1 rfl rfl (Nat.le_of_ble_eq_true rfl) dM_inverts_222 ⟨Nat.zero_le _, Nat.zero_le _⟩ hS (fun r9 u H locs hp hZ _ hS => ?_)
              obtain ⟨hu9, n2, hr1, hn21, hn22, hn23⟩ := hp
              subst hr1
              rw [hu9] at hZ
              dsimp only at hZ
              clear hu9
              have hn2z : ∀ q, n2 ≤ q ↔ p1 < rP q := fun q => by rw [← hv_9]; exact size_le (hZ.2 9) hn21 hn22 hn23 q
              refine zr_if_le (tgt := 270) hx hb (by unfold zi; omega) dM_inverts_225 (by decide) (fun c_5 => ?_) (fun c_5 => ?_)
              · refine lv_iconst (v := iZ (1)) hx hb dM_inverts_270 (by decide) ?_
                exact hend 271 (true) (w, (th, fa, le, be, fb, sb9, pr)) _ _ _ dM_inverts_271 (⟨frx, ⟨be, fb, sb9, rfl⟩, true, rfl, fun _ => ⟨by rw [← hgd]; exact hu1, p1, hpm, hr1 (Or.inr (by have h8 := (hn2z 0).mp (by omega); have h7 : rP 0 = 1 := rfl; omega)), hv_9⟩, fun h9 => absurd h9 (by decide)⟩) hZ hS
              · have hp0 : p1 ≠ 0 := by intro h9; have h8 := (hn2z 0).mpr (by rw [h9]; exact rP_pos 0); omega
                refine lv_aload_n hx hb dM_inverts_228 rfl (lv_at hl 0 rfl) ?_
                refine zm_modulus hx hb ht hown hK hZ tw_695 dM_inverts_229 ?_
                refine lv_aload_n hx hb dM_inverts_232 rfl (lv_at hl 0 rfl) ?_
                refine zm_row hx hb ht hown hK hZ tw_683 dM_inverts_233 ?_
                refine zcS_v (P' := fun (u : (Nat → Nat → Nat) × zC) H => zMD E B u.1 u.2 H) 2 (As := [.ref (B + 13), .ref (B + 4)]) (rest := []) ⟨hx, hb, hml, hown, ht⟩ (mM_copy l E B w (th, fa, le, be, fb, sb9, pr) 13 (by decide) 4 (by decide) 264 rfl (by decide) 264 rfl (by decide) (by decide)) tw_798 tw_796 tw_797 tw_6 qM_copy (by rw [hR]; decide) hZ hK hl.1 rfl rfl (Nat.le_of_ble_eq_true rfl) dM_inverts_236 ⟨Nat.zero_le _, Nat.zero_le _⟩ hS (fun u H locs hp hZ _ hS => ?_)
                obtain ⟨w, q9⟩ := u
                obtain ⟨ho, hq9, hcp⟩ := hp
                dsimp only at *
                rw [hq9] at hZ
                have hcv : rv (w 4) 264 = md := by rw [rv_congr (fun i hi => (hcp i hi).trans (if_pos hi))]; exact hv_13
                replace hMR : MR w rg := MR_same (ho 2 (by decide)) (ho 3 (by decide)) hMR
                replace hdr : ∀ i, i < ct → w 1 i = f i := fun i hi => by rw [ho 1 (by decide)]; exact hdr i hi
                replace hpa : ∀ i, i < 2049 - st → w 14 i = g (st + i) := fun i hi => by rw [ho 14 (by decide)]; exact hpa i hi
                replace hv_13 : rv (w 13) 264 = md := by rw [ho 13 (by decide)]; exact hv_13
                replace hv_10 : rv (w 10) 264 = v1 := by rw [ho 10 (by decide)]; exact hv_10
                replace hv_11 : rv (w 11) 264 = p1 := by rw [ho 11 (by decide)]; exact hv_11
                replace hv_12 : rv (w 12) 264 = w1 := by rw [ho 12 (by decide)]; exact hv_12
                replace hv_9 : rv (w 9) 264 = p1 := by rw [ho 9 (by decide)]; exact hv_9
                have frx : ∀ jx, jx ≠ 4 → jx ≠ 5 → jx ≠ 6 → jx ≠ 7 → jx ≠ 8 → jx ≠ 9 → jx ≠ 10 → jx ≠ 11 → jx ≠ 12 → w jx = w0 jx := fun jx h0 h1 h2 h3 h4 h5 h6 h7 h8 => (ho jx h0).trans (frx jx h0 h1 h2 h3 h4 h5 h6 h7 h8)
                have hv_4 : rv (w 4) 264 = md := hcv
                clear hcv
                refine lv_aload_n hx hb dM_inverts_239 rfl (lv_at hl 0 rfl) ?_
                refine zm_row hx hb ht hown hK hZ tw_683 dM_inverts_240 ?_
                refine lv_aload_n hx hb dM_inverts_243 rfl (lv_at hl 0 rfl) ?_
                refine zm_one hx hb ht hown hK hZ tw_689 dM_inverts_244 ?_
                refine lv_aload_n hx hb dM_inverts_247 rfl (lv_at hl 0 rfl) ?_
                refine zm_one hx hb ht hown hK hZ tw_689 dM_inverts_248 ?_
                refine zcS_i (P' := fun (u : (Nat → Nat → Nat) × zC) H => zMD E B u.1 u.2 H) 1 (As := [.ref (B + 9)]) (rest := [.ref (B + 9), .ref (B + 4)]) ⟨hx, hb, hml, hown, ht⟩ (mM_size l E B w (th, fa, le, be, fb, sb9, pr) 9 (by decide) 264 rfl (by decide)) tw_774 tw_772 tw_773 tw_6 qM_size (by rw [hR]; decide) hZ hK hl.1 rfl rfl (Nat.le_of_ble_eq_true rfl) dM_inverts_251 ⟨Nat.zero_le _, Nat.zero_le _⟩ hS (fun r9 u H locs hp hZ _ hS => ?_)
                obtain ⟨hu9, n3, hr1, hn31, hn32, hn33⟩ := hp
                subst hr1
                rw [hu9] at hZ
                dsimp only at hZ
                clear hu9
                have hn3z : ∀ q, n3 ≤ q ↔ p1 < rP q := fun q => by rw [← hv_9]; exact size_le (hZ.2 9) hn31 hn32 hn33 q
                refine lv_lconst (v := lZ (1)) hx hb dM_inverts_254 (by decide) ?_
                refine lv_iconst (v := iZ (1)) hx hb dM_inverts_255 (by decide) ?_
                refine W.eq (g2 := F0 m 256 ls (.int (iZ (bZ true)) :: .long (lZ ((1 : Nat) : Int)) :: .int (iZ ((n3 : Nat) : Int)) :: .ref (B + 9) :: .ref (B + 4) :: [])) rfl ?_
                refine zcS_v (P' := fun (u : (Nat → Nat → Nat) × zC) H => zMD E B u.1 u.2 H) 5 (As := [.ref (B + 4), .ref (B + 9), .int (iZ ((n3 : Nat) : Int)), .long (lZ ((1 : Nat) : Int)), .int (iZ (bZ true))]) (rest := []) ⟨hx, hb, hml, hown, ht⟩ (mM_join l E B w (th, fa, le, be, fb, sb9, pr) 4 (by decide) 9 (by decide) rfl rfl (by decide) n3 (by omega) 1 (by decide) true (hn32) (by rw [hv_4, hv_9]; rw [if_pos rfl]; omega) (by rw [hv_4, hv_9]; rw [if_pos rfl]; have h9 := rP_mono (show 128 ≤ 264 by decide); omega)) tw_801 tw_799 tw_800 tw_6 qM_join (by rw [hR]; decide) hZ hK hl.1 rfl rfl (Nat.le_of_ble_eq_true rfl) dM_inverts_256 ⟨Nat.zero_le _, Nat.zero_le _⟩ hS (fun u H locs hp hZ _ hS => ?_)
                obtain ⟨w, q9⟩ := u
                obtain ⟨ho, hq9, hjn⟩ := hp
                dsimp only at ho hq9 hZ hjn
                rw [hq9] at hZ
                rw [if_pos rfl, hv_4, hv_9] at hjn
                have hjv : rv (w 4) 264 = md - p1 := by omega
                replace hMR : MR w rg := MR_same (ho 2 (by decide)) (ho 3 (by decide)) hMR
                replace hdr : ∀ i, i < ct → w 1 i = f i := fun i hi => by rw [ho 1 (by decide)]; exact hdr i hi
                replace hpa : ∀ i, i < 2049 - st → w 14 i = g (st + i) := fun i hi => by rw [ho 14 (by decide)]; exact hpa i hi
                replace hv_13 : rv (w 13) 264 = md := by rw [ho 13 (by decide)]; exact hv_13
                replace hv_10 : rv (w 10) 264 = v1 := by rw [ho 10 (by decide)]; exact hv_10
                replace hv_11 : rv (w 11) 264 = p1 := by rw [ho 11 (by decide)]; exact hv_11
                replace hv_12 : rv (w 12) 264 = w1 := by rw [ho 12 (by decide)]; exact hv_12
                replace hv_9 : rv (w 9) 264 = p1 := by rw [ho 9 (by decide)]; exact hv_9
                clear hv_4
                have frx : ∀ jx, jx ≠ 4 → jx ≠ 5 → jx ≠ 6 → jx ≠ 7 → jx ≠ 8 → jx ≠ 9 → jx ≠ 10 → jx ≠ 11 → jx ≠ 12 → w jx = w0 jx := fun jx h0 h1 h2 h3 h4 h5 h6 h7 h8 => (ho jx h0).trans (frx jx h0 h1 h2 h3 h4 h5 h6 h7 h8)
                have hv_4 : rv (w 4) 264 = md - p1 := hjv
                clear hjv
                refine lv_aload_n hx hb dM_inverts_259 rfl (lv_at hl 0 rfl) ?_
                refine zm_row hx hb ht hown hK hZ tw_683 dM_inverts_260 ?_
                refine lv_aload_n hx hb dM_inverts_263 rfl (lv_at hl 0 rfl) ?_
                refine zm_one hx hb ht hown hK hZ tw_689 dM_inverts_264 ?_
                refine zcS_v (P' := fun (u : (Nat → Nat → Nat) × zC) H => zMD E B u.1 u.2 H) 2 (As := [.ref (B + 4), .ref (B + 9)]) (rest := []) ⟨hx, hb, hml, hown, ht⟩ (mM_copy l E B w (th, fa, le, be, fb, sb9, pr) 4 (by decide) 9 (by decide) 264 rfl (by decide) 264 rfl (by decide) (by decide)) tw_798 tw_796 tw_797 tw_6 qM_copy (by rw [hR]; decide) hZ hK hl.1 rfl rfl (Nat.le_of_ble_eq_true rfl) dM_inverts_267 ⟨Nat.zero_le _, Nat.zero_le _⟩ hS (fun u H locs hp hZ _ hS => ?_)
                obtain ⟨w, q9⟩ := u
                obtain ⟨ho, hq9, hcp⟩ := hp
                dsimp only at *
                rw [hq9] at hZ
                have hcv : rv (w 9) 264 = md - p1 := by rw [rv_congr (fun i hi => (hcp i hi).trans (if_pos hi))]; exact hv_4
                replace hMR : MR w rg := MR_same (ho 2 (by decide)) (ho 3 (by decide)) hMR
                replace hdr : ∀ i, i < ct → w 1 i = f i := fun i hi => by rw [ho 1 (by decide)]; exact hdr i hi
                replace hpa : ∀ i, i < 2049 - st → w 14 i = g (st + i) := fun i hi => by rw [ho 14 (by decide)]; exact hpa i hi
                replace hv_13 : rv (w 13) 264 = md := by rw [ho 13 (by decide)]; exact hv_13
                replace hv_10 : rv (w 10) 264 = v1 := by rw [ho 10 (by decide)]; exact hv_10
                replace hv_11 : rv (w 11) 264 = p1 := by rw [ho 11 (by decide)]; exact hv_11
                replace hv_12 : rv (w 12) 264 = w1 := by rw [ho 12 (by decide)]; exact hv_12
                clear hv_9
                replace hv_4 : rv (w 4) 264 = md - p1 := by rw [ho 4 (by decide)]; exact hv_4
                have frx : ∀ jx, jx ≠ 4 → jx ≠ 5 → jx ≠ 6 → jx ≠ 7 → jx ≠ 8 → jx ≠ 9 → jx ≠ 10 → jx ≠ 11 → jx ≠ 12 → w jx = w0 jx := fun jx h0 h1 h2 h3 h4 h5 h6 h7 h8 => (ho jx h5).trans (frx jx h0 h1 h2 h3 h4 h5 h6 h7 h8)
                have hv_9 : rv (w 9) 264 = md - p1 := hcv
                clear hcv
                refine lv_iconst (v := iZ (1)) hx hb dM_inverts_270 (by decide) ?_
                exact hend 271 (true) (w, (th, fa, le, be, fb, sb9, pr)) _ _ _ dM_inverts_271 (⟨frx, ⟨be, fb, sb9, rfl⟩, true, rfl, fun _ => ⟨by rw [← hgd]; exact hu1, md - p1, by omega, hr2 hfb hp0, hv_9⟩, fun h9 => absurd h9 (by decide)⟩) hZ hS
          · have hu1 : u1 ≠ 1 := by intro h9; omega
            refine lv_iconst (v := iZ (0)) hx hb dM_inverts_186 (by decide) ?_
            exact hend 187 (false) (w, (th, fa, le, be, fb, sb9, pr)) _ _ _ dM_inverts_187 (⟨frx, ⟨be, fb, sb9, rfl⟩, false, rfl, fun h9 => absurd h9 (by decide), fun _ => by rw [← hgd]; exact hu1⟩) hZ hS
      · have hv0 : v1 ≠ 0 := by intro h9; have h8 := (hnz 0).mpr (by rw [h9]; exact rP_pos 0); omega
        obtain ⟨hb1, hb2, hb3, hb4⟩ := J9_bd hmd hJ
        refine lv_aload_n hx hb dM_inverts_46 rfl (lv_at hl 0 rfl) ?_
        refine lv_aload_n hx hb dM_inverts_47 rfl (lv_at hl 0 rfl) ?_
        refine zm_one hx hb ht hown hK hZ tw_689 dM_inverts_48 ?_
        refine lv_aload_n hx hb dM_inverts_51 rfl (lv_at hl 0 rfl) ?_
        refine zm_two hx hb ht hown hK hZ tw_690 dM_inverts_52 ?_
        refine zcV_v (P' := fun (u : (Nat → Nat → Nat) × zC) H => zMD E B u.1 u.2 H) 2 (As := [.ref (B + 9), .ref (B + 10)]) (rest := []) rfl ⟨hx, hb, hml, hown, ht⟩ (mM_divideRows l E B w (th, fa, le, be, fb, sb9, pr) 9 (by decide) 10 (by decide) rfl rfl (by decide) (by decide) (by rw [hv_10]; omega) (by rw [hv_10]; exact Nat.lt_of_lt_of_le (Nat.lt_of_le_of_lt hb2 hmd1) (rP_mono (by decide)))) tw_824 tw_821 tw_823 tp_17 tw_6 qM_divideRows (by rw [hR]; decide) (zm_recv hK hZ) hZ hK hl.1 rfl rfl (Nat.le_of_ble_eq_true rfl) dM_inverts_55 ⟨Nat.zero_le _, Nat.zero_le _⟩ hS (fun u H locs hp hZ _ hS => ?_)
        obtain ⟨w, q9⟩ := u
        obtain ⟨ho, hq9, hdq, hdr9⟩ := hp
        dsimp only at *
        rw [hq9] at hZ
        rw [hv_9, hv_10] at hdq hdr9
        replace hMR : MR w rg := MR_same (ho 2 (by decide) (by decide)) (ho 3 (by decide) (by decide)) hMR
        replace hdr : ∀ i, i < ct → w 1 i = f i := fun i hi => by rw [ho 1 (by decide) (by decide)]; exact hdr i hi
        replace hpa : ∀ i, i < 2049 - st → w 14 i = g (st + i) := fun i hi => by rw [ho 14 (by decide) (by decide)]; exact hpa i hi
        replace hv_9 : rv (w 9) 264 = u1 := by rw [ho 9 (by decide) (by decide)]; exact hv_9
        replace hv_13 : rv (w 13) 264 = md := by rw [ho 13 (by decide) (by decide)]; exact hv_13
        replace hv_10 : rv (w 10) 264 = v1 := by rw [ho 10 (by decide) (by decide)]; exact hv_10
        replace hv_11 : rv (w 11) 264 = p1 := by rw [ho 11 (by decide) (by decide)]; exact hv_11
        replace hv_12 : rv (w 12) 264 = w1 := by rw [ho 12 (by decide) (by decide)]; exact hv_12
        have frx : ∀ jx, jx ≠ 4 → jx ≠ 5 → jx ≠ 6 → jx ≠ 7 → jx ≠ 8 → jx ≠ 9 → jx ≠ 10 → jx ≠ 11 → jx ≠ 12 → w jx = w0 jx := fun jx h0 h1 h2 h3 h4 h5 h6 h7 h8 => (ho jx h3 h4).trans (frx jx h0 h1 h2 h3 h4 h5 h6 h7 h8)
        have hv_8 : rv (w 8) 264 = (u1) / (v1) := hdq
        clear hdq
        have hv_7 : rv (w 7) 264 = (u1) % (v1) := hdr9
        clear hdr9
        refine lv_aload_n hx hb dM_inverts_58 rfl (lv_at hl 0 rfl) ?_
        refine zm_two hx hb ht hown hK hZ tw_690 dM_inverts_59 ?_
        refine lv_aload_n hx hb dM_inverts_62 rfl (lv_at hl 0 rfl) ?_
        refine zm_one hx hb ht hown hK hZ tw_689 dM_inverts_63 ?_
        refine zcS_v (P' := fun (u : (Nat → Nat → Nat) × zC) H => zMD E B u.1 u.2 H) 2 (As := [.ref (B + 10), .ref (B + 9)]) (rest := []) ⟨hx, hb, hml, hown, ht⟩ (mM_copy l E B w (th, fa, le, be, fb, sb9, pr) 10 (by decide) 9 (by decide) 264 rfl (by decide) 264 rfl (by decide) (by decide)) tw_798 tw_796 tw_797 tw_6 qM_copy (by rw [hR]; decide) hZ hK hl.1 rfl rfl (Nat.le_of_ble_eq_true rfl) dM_inverts_66 ⟨Nat.zero_le _, Nat.zero_le _⟩ hS (fun u H locs hp hZ _ hS => ?_)
        obtain ⟨w, q9⟩ := u
        obtain ⟨ho, hq9, hcp⟩ := hp
        dsimp only at *
        rw [hq9] at hZ
        have hcv : rv (w 9) 264 = v1 := by rw [rv_congr (fun i hi => (hcp i hi).trans (if_pos hi))]; exact hv_10
        replace hMR : MR w rg := MR_same (ho 2 (by decide)) (ho 3 (by decide)) hMR
        replace hdr : ∀ i, i < ct → w 1 i = f i := fun i hi => by rw [ho 1 (by decide)]; exact hdr i hi
        replace hpa : ∀ i, i < 2049 - st → w 14 i = g (st + i) := fun i hi => by rw [ho 14 (by decide)]; exact hpa i hi
        clear hv_9
        replace hv_13 : rv (w 13) 264 = md := by rw [ho 13 (by decide)]; exact hv_13
        replace hv_10 : rv (w 10) 264 = v1 := by rw [ho 10 (by decide)]; exact hv_10
        replace hv_11 : rv (w 11) 264 = p1 := by rw [ho 11 (by decide)]; exact hv_11
        replace hv_12 : rv (w 12) 264 = w1 := by rw [ho 12 (by decide)]; exact hv_12
        replace hv_8 : rv (w 8) 264 = (u1) / (v1) := by rw [ho 8 (by decide)]; exact hv_8
        replace hv_7 : rv (w 7) 264 = (u1) % (v1) := by rw [ho 7 (by decide)]; exact hv_7
        have frx : ∀ jx, jx ≠ 4 → jx ≠ 5 → jx ≠ 6 → jx ≠ 7 → jx ≠ 8 → jx ≠ 9 → jx ≠ 10 → jx ≠ 11 → jx ≠ 12 → w jx = w0 jx := fun jx h0 h1 h2 h3 h4 h5 h6 h7 h8 => (ho jx h5).trans (frx jx h0 h1 h2 h3 h4 h5 h6 h7 h8)
        have hv_9 : rv (w 9) 264 = v1 := hcv
        clear hcv
        refine lv_aload_n hx hb dM_inverts_69 rfl (lv_at hl 0 rfl) ?_
        refine zm_rest hx hb ht hown hK hZ tw_687 dM_inverts_70 ?_
        refine lv_aload_n hx hb dM_inverts_73 rfl (lv_at hl 0 rfl) ?_
        refine zm_two hx hb ht hown hK hZ tw_690 dM_inverts_74 ?_
        refine zcS_v (P' := fun (u : (Nat → Nat → Nat) × zC) H => zMD E B u.1 u.2 H) 2 (As := [.ref (B + 7), .ref (B + 10)]) (rest := []) ⟨hx, hb, hml, hown, ht⟩ (mM_copy l E B w (th, fa, le, be, fb, sb9, pr) 7 (by decide) 10 (by decide) 264 rfl (by decide) 264 rfl (by decide) (by decide)) tw_798 tw_796 tw_797 tw_6 qM_copy (by rw [hR]; decide) hZ hK hl.1 rfl rfl (Nat.le_of_ble_eq_true rfl) dM_inverts_77 ⟨Nat.zero_le _, Nat.zero_le _⟩ hS (fun u H locs hp hZ _ hS => ?_)
        obtain ⟨w, q9⟩ := u
        obtain ⟨ho, hq9, hcp⟩ := hp
        dsimp only at *
        rw [hq9] at hZ
        have hcv : rv (w 10) 264 = (u1) % (v1) := by rw [rv_congr (fun i hi => (hcp i hi).trans (if_pos hi))]; exact hv_7
        replace hMR : MR w rg := MR_same (ho 2 (by decide)) (ho 3 (by decide)) hMR
        replace hdr : ∀ i, i < ct → w 1 i = f i := fun i hi => by rw [ho 1 (by decide)]; exact hdr i hi
        replace hpa : ∀ i, i < 2049 - st → w 14 i = g (st + i) := fun i hi => by rw [ho 14 (by decide)]; exact hpa i hi
        replace hv_13 : rv (w 13) 264 = md := by rw [ho 13 (by decide)]; exact hv_13
        clear hv_10
        replace hv_11 : rv (w 11) 264 = p1 := by rw [ho 11 (by decide)]; exact hv_11
        replace hv_12 : rv (w 12) 264 = w1 := by rw [ho 12 (by decide)]; exact hv_12
        replace hv_8 : rv (w 8) 264 = (u1) / (v1) := by rw [ho 8 (by decide)]; exact hv_8
        replace hv_7 : rv (w 7) 264 = (u1) % (v1) := by rw [ho 7 (by decide)]; exact hv_7
        replace hv_9 : rv (w 9) 264 = v1 := by rw [ho 9 (by decide)]; exact hv_9
        have frx : ∀ jx, jx ≠ 4 → jx ≠ 5 → jx ≠ 6 → jx ≠ 7 → jx ≠ 8 → jx ≠ 9 → jx ≠ 10 → jx ≠ 11 → jx ≠ 12 → w jx = w0 jx := fun jx h0 h1 h2 h3 h4 h5 h6 h7 h8 => (ho jx h6).trans (frx jx h0 h1 h2 h3 h4 h5 h6 h7 h8)
        have hv_10 : rv (w 10) 264 = (u1) % (v1) := hcv
        clear hcv
        have hqw : u1 / v1 * w1 < rP 128 * rP 128 := Nat.lt_of_le_of_lt (Nat.mul_le_mul (Nat.le_trans (Nat.div_le_self _ _) hb1) hb4) (Nat.mul_lt_mul'' hmd1 hmd1)
        have hqp := rP_pos 128
        have hq264 := rP128_264
        refine lv_aload_n hx hb dM_inverts_80 rfl (lv_at hl 0 rfl) ?_
        refine lv_aload_n hx hb dM_inverts_81 rfl (lv_at hl 0 rfl) ?_
        refine zm_quotient hx hb ht hown hK hZ tw_688 dM_inverts_82 ?_
        refine lv_aload_n hx hb dM_inverts_85 rfl (lv_at hl 0 rfl) ?_
        refine zm_second hx hb ht hown hK hZ tw_692 dM_inverts_86 ?_
        refine lv_aload_n hx hb dM_inverts_89 rfl (lv_at hl 0 rfl) ?_
        refine zm_other hx hb ht hown hK hZ tw_685 dM_inverts_90 ?_
        refine zcV_v (P' := fun (u : (Nat → Nat → Nat) × zC) H => zMD E B u.1 u.2 H) 3 (As := [.ref (B + 8), .ref (B + 12), .ref (B + 5)]) (rest := []) rfl ⟨hx, hb, hml, hown, ht⟩ (mM_multiplyRows l E B w (th, fa, le, be, fb, sb9, pr) 8 (by decide) 12 (by decide) 5 (by decide) rfl rfl rfl (by decide) (by decide) (by decide)) tw_812 tw_809 tw_811 tp_15 tw_6 qM_multiplyRows (by rw [hR]; decide) (zm_recv hK hZ) hZ hK hl.1 rfl rfl (Nat.le_of_ble_eq_true rfl) dM_inverts_93 ⟨Nat.zero_le _, Nat.zero_le _⟩ hS (fun u H locs hp hZ _ hS => ?_)
        obtain ⟨w, q9⟩ := u
        obtain ⟨ho, hq9, hmv⟩ := hp
        dsimp only at *
        rw [hq9] at hZ
        rw [hv_8, hv_12] at hmv
        replace hMR : MR w rg := MR_same (ho 2 (by decide) (by decide)) (ho 3 (by decide) (by decide)) hMR
        replace hdr : ∀ i, i < ct → w 1 i = f i := fun i hi => by rw [ho 1 (by decide) (by decide)]; exact hdr i hi
        replace hpa : ∀ i, i < 2049 - st → w 14 i = g (st + i) := fun i hi => by rw [ho 14 (by decide) (by decide)]; exact hpa i hi
        replace hv_13 : rv (w 13) 264 = md := by rw [ho 13 (by decide) (by decide)]; exact hv_13
        replace hv_11 : rv (w 11) 264 = p1 := by rw [ho 11 (by decide) (by decide)]; exact hv_11
        replace hv_12 : rv (w 12) 264 = w1 := by rw [ho 12 (by decide) (by decide)]; exact hv_12
        replace hv_8 : rv (w 8) 264 = (u1) / (v1) := by rw [ho 8 (by decide) (by decide)]; exact hv_8
        replace hv_7 : rv (w 7) 264 = (u1) % (v1) := by rw [ho 7 (by decide) (by decide)]; exact hv_7
        replace hv_9 : rv (w 9) 264 = v1 := by rw [ho 9 (by decide) (by decide)]; exact hv_9
        replace hv_10 : rv (w 10) 264 = (u1) % (v1) := by rw [ho 10 (by decide) (by decide)]; exact hv_10
        have frx : ∀ jx, jx ≠ 4 → jx ≠ 5 → jx ≠ 6 → jx ≠ 7 → jx ≠ 8 → jx ≠ 9 → jx ≠ 10 → jx ≠ 11 → jx ≠ 12 → w jx = w0 jx := fun jx h0 h1 h2 h3 h4 h5 h6 h7 h8 => (ho jx h2 h1).trans (frx jx h0 h1 h2 h3 h4 h5 h6 h7 h8)
        have hv_5 : rv (w 5) 264 = u1 / v1 * w1 := by rw [hmv]; exact Nat.mod_eq_of_lt (by omega)
        refine lv_aload_n hx hb dM_inverts_96 rfl (lv_at hl 0 rfl) ?_
        refine lv_aload_n hx hb dM_inverts_97 rfl (lv_at hl 0 rfl) ?_
        refine zm_first hx hb ht hown hK hZ tw_691 dM_inverts_98 ?_
        refine lv_aload_n hx hb dM_inverts_101 rfl (lv_at hl 0 rfl) ?_
        refine zm_firstBelow hx hb ht hown hK hZ tw_693 dM_inverts_102 ?_
        refine zc_i (y := iZ (bZ fb)) rfl ?_
        refine lv_aload_n hx hb dM_inverts_105 rfl (lv_at hl 0 rfl) ?_
        refine zm_other hx hb ht hown hK hZ tw_685 dM_inverts_106 ?_
        refine lv_aload_n hx hb dM_inverts_109 rfl (lv_at hl 0 rfl) ?_
        refine zm_secondBelow hx hb ht hown hK hZ tw_694 dM_inverts_110 ?_
        refine zc_i (y := iZ (bZ sb9)) rfl ?_
        refine zr_if_ne (tgt := 120) hx hb (by have := bZ_01 sb9; omega) dM_inverts_113 (by decide) (fun c_6 => ?_) (fun c_6 => ?_)
        · refine lv_iconst (v := iZ (0)) hx hb dM_inverts_120 (by decide) ?_
          refine zc_i (y := iZ (bZ (!sb9))) (congrArg iZ (by rw [show sb9 = true from bZ_nf.mp (by assumption)]; rfl)) ?_
          refine zcV_v (P' := fun (u : (Nat → Nat → Nat) × zC) H => zMD E B u.1 u.2 H) 4 (As := [.ref (B + 11), .int (iZ (bZ fb)), .ref (B + 5), .int (iZ (bZ (!sb9)))]) (rest := []) rfl ⟨hx, hb, hml, hown, ht⟩ (mM_sum l E B w (th, fa, le, be, fb, sb9, pr) 11 (by decide) 5 (by decide) rfl rfl (by decide) (by decide) fb (!sb9) (by rw [hv_11, hv_5]; omega)) tw_795 tw_792 tw_794 tp_14 tw_6 qM_sum (by rw [hR]; decide) (zm_recv hK hZ) hZ hK hl.1 rfl rfl (Nat.le_of_ble_eq_true rfl) dM_inverts_121 ⟨Nat.zero_le _, Nat.zero_le _⟩ hS (fun u H locs hp hZ _ hS => ?_)
          obtain ⟨w, q9⟩ := u
          obtain ⟨ho, be9, hq9, hsv⟩ := hp
          dsimp only at *
          rw [hq9] at hZ
          rw [hv_11, hv_5] at hsv
          obtain ⟨X9, hX9⟩ : ∃ q, rv (w 4) 264 = q := ⟨_, rfl⟩
          rw [hX9] at hsv
          replace hMR : MR w rg := MR_same (ho 2 (by decide)) (ho 3 (by decide)) hMR
          replace hdr : ∀ i, i < ct → w 1 i = f i := fun i hi => by rw [ho 1 (by decide)]; exact hdr i hi
          replace hpa : ∀ i, i < 2049 - st → w 14 i = g (st + i) := fun i hi => by rw [ho 14 (by decide)]; exact hpa i hi
          replace hv_13 : rv (w 13) 264 = md := by rw [ho 13 (by decide)]; exact hv_13
          replace hv_11 : rv (w 11) 264 = p1 := by rw [ho 11 (by decide)]; exact hv_11
          replace hv_12 : rv (w 12) 264 = w1 := by rw [ho 12 (by decide)]; exact hv_12
          replace hv_8 : rv (w 8) 264 = (u1) / (v1) := by rw [ho 8 (by decide)]; exact hv_8
          replace hv_7 : rv (w 7) 264 = (u1) % (v1) := by rw [ho 7 (by decide)]; exact hv_7
          replace hv_9 : rv (w 9) 264 = v1 := by rw [ho 9 (by decide)]; exact hv_9
          replace hv_10 : rv (w 10) 264 = (u1) % (v1) := by rw [ho 10 (by decide)]; exact hv_10
          replace hv_5 : rv (w 5) 264 = u1 / v1 * w1 := by rw [ho 5 (by decide)]; exact hv_5
          have frx : ∀ jx, jx ≠ 4 → jx ≠ 5 → jx ≠ 6 → jx ≠ 7 → jx ≠ 8 → jx ≠ 9 → jx ≠ 10 → jx ≠ 11 → jx ≠ 12 → w jx = w0 jx := fun jx h0 h1 h2 h3 h4 h5 h6 h7 h8 => (ho jx h0).trans (frx jx h0 h1 h2 h3 h4 h5 h6 h7 h8)
          have hv_4 : rv (w 4) 264 = X9 := hX9
          clear hX9
          have hZ : zMD E B w (th, fa, le, be9, fb, sb9, pr) H := hZ
          refine lv_aload_n hx hb dM_inverts_124 rfl (lv_at hl 0 rfl) ?_
          refine zm_second hx hb ht hown hK hZ tw_692 dM_inverts_125 ?_
          refine lv_aload_n hx hb dM_inverts_128 rfl (lv_at hl 0 rfl) ?_
          refine zm_first hx hb ht hown hK hZ tw_691 dM_inverts_129 ?_
          refine zcS_v (P' := fun (u : (Nat → Nat → Nat) × zC) H => zMD E B u.1 u.2 H) 2 (As := [.ref (B + 12), .ref (B + 11)]) (rest := []) ⟨hx, hb, hml, hown, ht⟩ (mM_copy l E B w (th, fa, le, be9, fb, sb9, pr) 12 (by decide) 11 (by decide) 264 rfl (by decide) 264 rfl (by decide) (by decide)) tw_798 tw_796 tw_797 tw_6 qM_copy (by rw [hR]; decide) hZ hK hl.1 rfl rfl (Nat.le_of_ble_eq_true rfl) dM_inverts_132 ⟨Nat.zero_le _, Nat.zero_le _⟩ hS (fun u H locs hp hZ _ hS => ?_)
          obtain ⟨w, q9⟩ := u
          obtain ⟨ho, hq9, hcp⟩ := hp
          dsimp only at *
          rw [hq9] at hZ
          have hcv : rv (w 11) 264 = w1 := by rw [rv_congr (fun i hi => (hcp i hi).trans (if_pos hi))]; exact hv_12
          replace hMR : MR w rg := MR_same (ho 2 (by decide)) (ho 3 (by decide)) hMR
          replace hdr : ∀ i, i < ct → w 1 i = f i := fun i hi => by rw [ho 1 (by decide)]; exact hdr i hi
          replace hpa : ∀ i, i < 2049 - st → w 14 i = g (st + i) := fun i hi => by rw [ho 14 (by decide)]; exact hpa i hi
          replace hv_13 : rv (w 13) 264 = md := by rw [ho 13 (by decide)]; exact hv_13
          clear hv_11
          replace hv_12 : rv (w 12) 264 = w1 := by rw [ho 12 (by decide)]; exact hv_12
          replace hv_8 : rv (w 8) 264 = (u1) / (v1) := by rw [ho 8 (by decide)]; exact hv_8
          replace hv_7 : rv (w 7) 264 = (u1) % (v1) := by rw [ho 7 (by decide)]; exact hv_7
          replace hv_9 : rv (w 9) 264 = v1 := by rw [ho 9 (by decide)]; exact hv_9
          replace hv_10 : rv (w 10) 264 = (u1) % (v1) := by rw [ho 10 (by decide)]; exact hv_10
          replace hv_5 : rv (w 5) 264 = u1 / v1 * w1 := by rw [ho 5 (by decide)]; exact hv_5
          replace hv_4 : rv (w 4) 264 = X9 := by rw [ho 4 (by decide)]; exact hv_4
          have frx : ∀ jx, jx ≠ 4 → jx ≠ 5 → jx ≠ 6 → jx ≠ 7 → jx ≠ 8 → jx ≠ 9 → jx ≠ 10 → jx ≠ 11 → jx ≠ 12 → w jx = w0 jx := fun jx h0 h1 h2 h3 h4 h5 h6 h7 h8 => (ho jx h7).trans (frx jx h0 h1 h2 h3 h4 h5 h6 h7 h8)
          have hv_11 : rv (w 11) 264 = w1 := hcv
          clear hcv
          refine lv_aload_n hx hb dM_inverts_135 rfl (lv_at hl 0 rfl) ?_
          refine lv_aload_n hx hb dM_inverts_136 rfl (lv_at hl 0 rfl) ?_
          refine zm_secondBelow hx hb ht hown hK hZ tw_694 dM_inverts_137 ?_
          refine zc_i (y := iZ (bZ sb9)) rfl ?_
          refine zm_put_firstBelow (x := sb9) hx hb ht hown hK hZ hS tw_693 dM_inverts_140 (fun H locs hZ hS => ?_)
          have hZ : zMD E B w (th, fa, le, be9, sb9, sb9, pr) H := hZ
          refine lv_aload_n hx hb dM_inverts_143 rfl (lv_at hl 0 rfl) ?_
          refine zm_row hx hb ht hown hK hZ tw_683 dM_inverts_144 ?_
          refine lv_aload_n hx hb dM_inverts_147 rfl (lv_at hl 0 rfl) ?_
          refine zm_second hx hb ht hown hK hZ tw_692 dM_inverts_148 ?_
          refine zcS_v (P' := fun (u : (Nat → Nat → Nat) × zC) H => zMD E B u.1 u.2 H) 2 (As := [.ref (B + 4), .ref (B + 12)]) (rest := []) ⟨hx, hb, hml, hown, ht⟩ (mM_copy l E B w (th, fa, le, be9, sb9, sb9, pr) 4 (by decide) 12 (by decide) 264 rfl (by decide) 264 rfl (by decide) (by decide)) tw_798 tw_796 tw_797 tw_6 qM_copy (by rw [hR]; decide) hZ hK hl.1 rfl rfl (Nat.le_of_ble_eq_true rfl) dM_inverts_151 ⟨Nat.zero_le _, Nat.zero_le _⟩ hS (fun u H locs hp hZ _ hS => ?_)
          obtain ⟨w, q9⟩ := u
          obtain ⟨ho, hq9, hcp⟩ := hp
          dsimp only at *
          rw [hq9] at hZ
          have hcv : rv (w 12) 264 = X9 := by rw [rv_congr (fun i hi => (hcp i hi).trans (if_pos hi))]; exact hv_4
          replace hMR : MR w rg := MR_same (ho 2 (by decide)) (ho 3 (by decide)) hMR
          replace hdr : ∀ i, i < ct → w 1 i = f i := fun i hi => by rw [ho 1 (by decide)]; exact hdr i hi
          replace hpa : ∀ i, i < 2049 - st → w 14 i = g (st + i) := fun i hi => by rw [ho 14 (by decide)]; exact hpa i hi
          replace hv_13 : rv (w 13) 264 = md := by rw [ho 13 (by decide)]; exact hv_13
          clear hv_12
          replace hv_8 : rv (w 8) 264 = (u1) / (v1) := by rw [ho 8 (by decide)]; exact hv_8
          replace hv_7 : rv (w 7) 264 = (u1) % (v1) := by rw [ho 7 (by decide)]; exact hv_7
          replace hv_9 : rv (w 9) 264 = v1 := by rw [ho 9 (by decide)]; exact hv_9
          replace hv_10 : rv (w 10) 264 = (u1) % (v1) := by rw [ho 10 (by decide)]; exact hv_10
          replace hv_5 : rv (w 5) 264 = u1 / v1 * w1 := by rw [ho 5 (by decide)]; exact hv_5
          replace hv_4 : rv (w 4) 264 = X9 := by rw [ho 4 (by decide)]; exact hv_4
          replace hv_11 : rv (w 11) 264 = w1 := by rw [ho 11 (by decide)]; exact hv_11
          have frx : ∀ jx, jx ≠ 4 → jx ≠ 5 → jx ≠ 6 → jx ≠ 7 → jx ≠ 8 → jx ≠ 9 → jx ≠ 10 → jx ≠ 11 → jx ≠ 12 → w jx = w0 jx := fun jx h0 h1 h2 h3 h4 h5 h6 h7 h8 => (ho jx h8).trans (frx jx h0 h1 h2 h3 h4 h5 h6 h7 h8)
          have hv_12 : rv (w 12) 264 = X9 := hcv
          clear hcv
          refine lv_aload_n hx hb dM_inverts_154 rfl (lv_at hl 0 rfl) ?_
          refine lv_aload_n hx hb dM_inverts_155 rfl (lv_at hl 0 rfl) ?_
          refine zm_below hx hb ht hown hK hZ tw_684 dM_inverts_156 ?_
          refine zc_i (y := iZ (bZ be9)) rfl ?_
          refine zm_put_secondBelow (x := be9) hx hb ht hown hK hZ hS tw_694 dM_inverts_159 (fun H locs hZ hS => ?_)
          have hZ : zMD E B w (th, fa, le, be9, sb9, be9, pr) H := hZ
          refine lv_goto (tgt := 36) hx hb dM_inverts_162 (by decide) ?_
          exact ihL36 v1 (u1 % v1) w1 X9 be9 sb9 be9 w _ _ _ (by have := Nat.mod_lt u1 (show 0 < v1 by omega); omega) (J9_st hmd hv0 hJ hsv) (frx) hMR hdr hpa hv_9 hv_13 hv_10 hv_11 hv_12 hZ hS (lv_sub hl [0] rfl)
        · refine lv_iconst (v := iZ (1)) hx hb dM_inverts_116 (by decide) ?_
          refine lv_goto (tgt := 121) hx hb dM_inverts_117 (by decide) ?_
          refine zc_i (y := iZ (bZ (!sb9))) (congrArg iZ (by rw [show sb9 = false from bZ_f.mp (by assumption)]; rfl)) ?_
          refine zcV_v (P' := fun (u : (Nat → Nat → Nat) × zC) H => zMD E B u.1 u.2 H) 4 (As := [.ref (B + 11), .int (iZ (bZ fb)), .ref (B + 5), .int (iZ (bZ (!sb9)))]) (rest := []) rfl ⟨hx, hb, hml, hown, ht⟩ (mM_sum l E B w (th, fa, le, be, fb, sb9, pr) 11 (by decide) 5 (by decide) rfl rfl (by decide) (by decide) fb (!sb9) (by rw [hv_11, hv_5]; omega)) tw_795 tw_792 tw_794 tp_14 tw_6 qM_sum (by rw [hR]; decide) (zm_recv hK hZ) hZ hK hl.1 rfl rfl (Nat.le_of_ble_eq_true rfl) dM_inverts_121 ⟨Nat.zero_le _, Nat.zero_le _⟩ hS (fun u H locs hp hZ _ hS => ?_)
          obtain ⟨w, q9⟩ := u
          obtain ⟨ho, be9, hq9, hsv⟩ := hp
          dsimp only at *
          rw [hq9] at hZ
          rw [hv_11, hv_5] at hsv
          obtain ⟨X9, hX9⟩ : ∃ q, rv (w 4) 264 = q := ⟨_, rfl⟩
          rw [hX9] at hsv
          replace hMR : MR w rg := MR_same (ho 2 (by decide)) (ho 3 (by decide)) hMR
          replace hdr : ∀ i, i < ct → w 1 i = f i := fun i hi => by rw [ho 1 (by decide)]; exact hdr i hi
          replace hpa : ∀ i, i < 2049 - st → w 14 i = g (st + i) := fun i hi => by rw [ho 14 (by decide)]; exact hpa i hi
          replace hv_13 : rv (w 13) 264 = md := by rw [ho 13 (by decide)]; exact hv_13
          replace hv_11 : rv (w 11) 264 = p1 := by rw [ho 11 (by decide)]; exact hv_11
          replace hv_12 : rv (w 12) 264 = w1 := by rw [ho 12 (by decide)]; exact hv_12
          replace hv_8 : rv (w 8) 264 = (u1) / (v1) := by rw [ho 8 (by decide)]; exact hv_8
          replace hv_7 : rv (w 7) 264 = (u1) % (v1) := by rw [ho 7 (by decide)]; exact hv_7
          replace hv_9 : rv (w 9) 264 = v1 := by rw [ho 9 (by decide)]; exact hv_9
          replace hv_10 : rv (w 10) 264 = (u1) % (v1) := by rw [ho 10 (by decide)]; exact hv_10
          replace hv_5 : rv (w 5) 264 = u1 / v1 * w1 := by rw [ho 5 (by decide)]; exact hv_5
          have frx : ∀ jx, jx ≠ 4 → jx ≠ 5 → jx ≠ 6 → jx ≠ 7 → jx ≠ 8 → jx ≠ 9 → jx ≠ 10 → jx ≠ 11 → jx ≠ 12 → w jx = w0 jx := fun jx h0 h1 h2 h3 h4 h5 h6 h7 h8 => (ho jx h0).trans (frx jx h0 h1 h2 h3 h4 h5 h6 h7 h8)
          have hv_4 : rv (w 4) 264 = X9 := hX9
          clear hX9
          have hZ : zMD E B w (th, fa, le, be9, fb, sb9, pr) H := hZ
          refine lv_aload_n hx hb dM_inverts_124 rfl (lv_at hl 0 rfl) ?_
          refine zm_second hx hb ht hown hK hZ tw_692 dM_inverts_125 ?_
          refine lv_aload_n hx hb dM_inverts_128 rfl (lv_at hl 0 rfl) ?_
          refine zm_first hx hb ht hown hK hZ tw_691 dM_inverts_129 ?_
          refine zcS_v (P' := fun (u : (Nat → Nat → Nat) × zC) H => zMD E B u.1 u.2 H) 2 (As := [.ref (B + 12), .ref (B + 11)]) (rest := []) ⟨hx, hb, hml, hown, ht⟩ (mM_copy l E B w (th, fa, le, be9, fb, sb9, pr) 12 (by decide) 11 (by decide) 264 rfl (by decide) 264 rfl (by decide) (by decide)) tw_798 tw_796 tw_797 tw_6 qM_copy (by rw [hR]; decide) hZ hK hl.1 rfl rfl (Nat.le_of_ble_eq_true rfl) dM_inverts_132 ⟨Nat.zero_le _, Nat.zero_le _⟩ hS (fun u H locs hp hZ _ hS => ?_)
          obtain ⟨w, q9⟩ := u
          obtain ⟨ho, hq9, hcp⟩ := hp
          dsimp only at *
          rw [hq9] at hZ
          have hcv : rv (w 11) 264 = w1 := by rw [rv_congr (fun i hi => (hcp i hi).trans (if_pos hi))]; exact hv_12
          replace hMR : MR w rg := MR_same (ho 2 (by decide)) (ho 3 (by decide)) hMR
          replace hdr : ∀ i, i < ct → w 1 i = f i := fun i hi => by rw [ho 1 (by decide)]; exact hdr i hi
          replace hpa : ∀ i, i < 2049 - st → w 14 i = g (st + i) := fun i hi => by rw [ho 14 (by decide)]; exact hpa i hi
          replace hv_13 : rv (w 13) 264 = md := by rw [ho 13 (by decide)]; exact hv_13
          clear hv_11
          replace hv_12 : rv (w 12) 264 = w1 := by rw [ho 12 (by decide)]; exact hv_12
          replace hv_8 : rv (w 8) 264 = (u1) / (v1) := by rw [ho 8 (by decide)]; exact hv_8
          replace hv_7 : rv (w 7) 264 = (u1) % (v1) := by rw [ho 7 (by decide)]; exact hv_7
          replace hv_9 : rv (w 9) 264 = v1 := by rw [ho 9 (by decide)]; exact hv_9
          replace hv_10 : rv (w 10) 264 = (u1) % (v1) := by rw [ho 10 (by decide)]; exact hv_10
          replace hv_5 : rv (w 5) 264 = u1 / v1 * w1 := by rw [ho 5 (by decide)]; exact hv_5
          replace hv_4 : rv (w 4) 264 = X9 := by rw [ho 4 (by decide)]; exact hv_4
          have frx : ∀ jx, jx ≠ 4 → jx ≠ 5 → jx ≠ 6 → jx ≠ 7 → jx ≠ 8 → jx ≠ 9 → jx ≠ 10 → jx ≠ 11 → jx ≠ 12 → w jx = w0 jx := fun jx h0 h1 h2 h3 h4 h5 h6 h7 h8 => (ho jx h7).trans (frx jx h0 h1 h2 h3 h4 h5 h6 h7 h8)
          have hv_11 : rv (w 11) 264 = w1 := hcv
          clear hcv
          refine lv_aload_n hx hb dM_inverts_135 rfl (lv_at hl 0 rfl) ?_
          refine lv_aload_n hx hb dM_inverts_136 rfl (lv_at hl 0 rfl) ?_
          refine zm_secondBelow hx hb ht hown hK hZ tw_694 dM_inverts_137 ?_
          refine zc_i (y := iZ (bZ sb9)) rfl ?_
          refine zm_put_firstBelow (x := sb9) hx hb ht hown hK hZ hS tw_693 dM_inverts_140 (fun H locs hZ hS => ?_)
          have hZ : zMD E B w (th, fa, le, be9, sb9, sb9, pr) H := hZ
          refine lv_aload_n hx hb dM_inverts_143 rfl (lv_at hl 0 rfl) ?_
          refine zm_row hx hb ht hown hK hZ tw_683 dM_inverts_144 ?_
          refine lv_aload_n hx hb dM_inverts_147 rfl (lv_at hl 0 rfl) ?_
          refine zm_second hx hb ht hown hK hZ tw_692 dM_inverts_148 ?_
          refine zcS_v (P' := fun (u : (Nat → Nat → Nat) × zC) H => zMD E B u.1 u.2 H) 2 (As := [.ref (B + 4), .ref (B + 12)]) (rest := []) ⟨hx, hb, hml, hown, ht⟩ (mM_copy l E B w (th, fa, le, be9, sb9, sb9, pr) 4 (by decide) 12 (by decide) 264 rfl (by decide) 264 rfl (by decide) (by decide)) tw_798 tw_796 tw_797 tw_6 qM_copy (by rw [hR]; decide) hZ hK hl.1 rfl rfl (Nat.le_of_ble_eq_true rfl) dM_inverts_151 ⟨Nat.zero_le _, Nat.zero_le _⟩ hS (fun u H locs hp hZ _ hS => ?_)
          obtain ⟨w, q9⟩ := u
          obtain ⟨ho, hq9, hcp⟩ := hp
          dsimp only at *
          rw [hq9] at hZ
          have hcv : rv (w 12) 264 = X9 := by rw [rv_congr (fun i hi => (hcp i hi).trans (if_pos hi))]; exact hv_4
          replace hMR : MR w rg := MR_same (ho 2 (by decide)) (ho 3 (by decide)) hMR
          replace hdr : ∀ i, i < ct → w 1 i = f i := fun i hi => by rw [ho 1 (by decide)]; exact hdr i hi
          replace hpa : ∀ i, i < 2049 - st → w 14 i = g (st + i) := fun i hi => by rw [ho 14 (by decide)]; exact hpa i hi
          replace hv_13 : rv (w 13) 264 = md := by rw [ho 13 (by decide)]; exact hv_13
          clear hv_12
          replace hv_8 : rv (w 8) 264 = (u1) / (v1) := by rw [ho 8 (by decide)]; exact hv_8
          replace hv_7 : rv (w 7) 264 = (u1) % (v1) := by rw [ho 7 (by decide)]; exact hv_7
          replace hv_9 : rv (w 9) 264 = v1 := by rw [ho 9 (by decide)]; exact hv_9
          replace hv_10 : rv (w 10) 264 = (u1) % (v1) := by rw [ho 10 (by decide)]; exact hv_10
          replace hv_5 : rv (w 5) 264 = u1 / v1 * w1 := by rw [ho 5 (by decide)]; exact hv_5
          replace hv_4 : rv (w 4) 264 = X9 := by rw [ho 4 (by decide)]; exact hv_4
          replace hv_11 : rv (w 11) 264 = w1 := by rw [ho 11 (by decide)]; exact hv_11
          have frx : ∀ jx, jx ≠ 4 → jx ≠ 5 → jx ≠ 6 → jx ≠ 7 → jx ≠ 8 → jx ≠ 9 → jx ≠ 10 → jx ≠ 11 → jx ≠ 12 → w jx = w0 jx := fun jx h0 h1 h2 h3 h4 h5 h6 h7 h8 => (ho jx h8).trans (frx jx h0 h1 h2 h3 h4 h5 h6 h7 h8)
          have hv_12 : rv (w 12) 264 = X9 := hcv
          clear hcv
          refine lv_aload_n hx hb dM_inverts_154 rfl (lv_at hl 0 rfl) ?_
          refine lv_aload_n hx hb dM_inverts_155 rfl (lv_at hl 0 rfl) ?_
          refine zm_below hx hb ht hown hK hZ tw_684 dM_inverts_156 ?_
          refine zc_i (y := iZ (bZ be9)) rfl ?_
          refine zm_put_secondBelow (x := be9) hx hb ht hown hK hZ hS tw_694 dM_inverts_159 (fun H locs hZ hS => ?_)
          have hZ : zMD E B w (th, fa, le, be9, sb9, be9, pr) H := hZ
          refine lv_goto (tgt := 36) hx hb dM_inverts_162 (by decide) ?_
          exact ihL36 v1 (u1 % v1) w1 X9 be9 sb9 be9 w _ _ _ (by have := Nat.mod_lt u1 (show 0 < v1 by omega); omega) (J9_st hmd hv0 hJ hsv) (frx) hMR hdr hpa hv_9 hv_13 hv_10 hv_11 hv_12 hZ hS (lv_sub hl [0] rfl)
  exact L36 _ ((x % ((md : Nat) : Int)).toNat) md 1 0 be false false w _ _ _ (Nat.lt_succ_self _) (Or.inl ⟨rfl, rfl, rfl, rfl, rfl, rfl⟩) (frx) hMR hdr hpa hv_9 hv_13 hv_10 hv_11 hv_12 hZ hS (lv_sub hl [0] rfl)

theorem inv_gcd {x m z : Int} (hm : 0 < m) (h : m ∣ x * z - 1) : Nat.gcd m.natAbs x.natAbs = 1 := by
  have d1 : ((Nat.gcd m.natAbs x.natAbs : Nat) : Int) ∣ m := natCast_dvd9.mpr (Nat.gcd_dvd_left _ _)
  have d2 : ((Nat.gcd m.natAbs x.natAbs : Nat) : Int) ∣ x := natCast_dvd9.mpr (Nat.gcd_dvd_right _ _)
  have d3 := Int.dvd_sub (Int.dvd_mul_of_dvd_left (c := z) d2) (Int.dvd_trans d1 h)
  rw [show x * z - (x * z - 1) = 1 by omega] at d3
  have d4 := natCast_dvd9.mp d3
  exact Nat.dvd_one.mp d4
theorem inv_eq {x m : Int} {z z1 : Nat} (h1 : ((z : Nat) : Int) < m) (h2 : ((z1 : Nat) : Int) < m) (d1 : m ∣ x * ((z : Nat) : Int) - 1) (d2 : m ∣ x * ((z1 : Nat) : Int) - 1) : z = z1 := by
  have d3 := Int.dvd_sub (Int.dvd_mul_of_dvd_left (c := ((z1 : Nat) : Int)) d1) (Int.dvd_mul_of_dvd_left (c := ((z : Nat) : Int)) d2)
  have e : (x * ((z : Nat) : Int) - 1) * ((z1 : Nat) : Int) - (x * ((z1 : Nat) : Int) - 1) * ((z : Nat) : Int) = ((z : Nat) : Int) - ((z1 : Nat) : Int) := by
    rw [Int.sub_mul, Int.sub_mul, Int.one_mul, Int.one_mul, Int.mul_assoc, Int.mul_assoc, Int.mul_comm ((z : Nat) : Int) ((z1 : Nat) : Int)]
    omega
  rw [e] at d3
  obtain ⟨c, hc⟩ := d3
  rcases Int.lt_trichotomy c 0 with h | h | h
  · have := Int.mul_le_mul_of_nonneg_left (show c ≤ -1 by omega) (show 0 ≤ m by omega)
    omega
  · rw [h, Int.mul_zero] at hc; omega
  · have := Int.mul_le_mul_of_nonneg_left (show 1 ≤ c by omega) (show 0 ≤ m by omega)
    omega
set_option maxHeartbeats 4000000 in
set_option maxRecDepth 100000 in
theorem mM_inverse (l : Launch) (E : zE) (B : Nat) (rg : Nat → Int) (ct : Nat) (f : Nat → Nat) (st : Nat) (g : Nat → Nat) (t0 : Nat) (a : Int) (hz_a : zi a) (mm : Int) (hz_mm : zi mm) (to : Int) (hz_to : zi to) (k : Nat) (σ1 : zS) (hok1 : okS σ1) (hsp : SP (rok a ∧ rok mm ∧ rok to) (False) (¬ 0 < rg mm.toNat ∨ Nat.gcd (rg mm.toNat).natAbs (rg a.toNat).natAbs ≠ 1) (fun τ => 0 < rg mm.toNat ∧ ∃ z : Nat, ((z : Nat) : Int) < rg mm.toNat ∧ (rg mm.toNat) ∣ (rg a.toNat) * ((z : Nat) : Int) - 1 ∧ τ = (va_up rg to.toNat (((z : Nat) : Int)), ct, f, st, g)) (rg, ct, f, st, g) k σ1) :
    Met l yM_inverse (zws yM_inverse cM_inverse 4 none) { frames := 3, cells := 0, slots := 0, locals := 150 } (zPc E (zQM E B (rg, ct, f, st, g) t0) [.ref (B), .int (iZ (a)), .int (iZ (mm)), .int (iZ (to))]) (va_Qv (fun (u : Unit) => True) (fun u t => zQM E B σ1 (tc k) t.heap ∧ zK E t) (zA B 15)) 0 0 (zA B 15) := by
  refine zof_v (P' := fun (u : Unit) H => zQM E B σ1 (tc k) H) (by decide) (Nat.le_of_ble_eq_true rfl) fun p e R s m args below meth c Q ls hR hx hb hml ht hown hK hZ hl hend => ?_
  have hS : va_S (zA B 15) s.heap s.heap [] := va_S.rf
  have hown : s.vm.findClass "WholeDeskModel" = some m.cls := hown
  have hl : lv_has ls 4 [(0, .ref (B)), (1, .int (iZ (a))), (2, .int (iZ (mm))), (3, .int (iZ (to)))] := hl
  obtain ⟨hok, w0, ⟨th, fa, le, be, fb, sb9, pr⟩, hZ, ⟨hMR, hle, hdr, hpr, hpa⟩, hth⟩ := hZ
  dsimp only at *
  rw [hle, hpr] at hZ
  clear hth hle hpr le pr
  refine lv_aload_n hx hb dM_inverse_0 rfl (lv_at hl 0 rfl) ?_
  refine lv_iload_n hx hb dM_inverse_1 rfl (lv_at hl 1 rfl) ?_
  refine zcS_i (P' := fun (u : (Nat → Nat → Nat) × zC) H => zMD E B u.1 u.2 H) 1 (As := [.int (iZ (a))]) (rest := [.ref (B)]) ⟨hx, hb, hml, hown, ht⟩ (mM_no l E B w0 (th, fa, ct, be, fb, sb9, (2049 - st)) (a) hz_a) tw_762 tw_760 tw_761 tw_6 qM_no (by rw [hR]; decide) hZ hK hl.1 rfl rfl (Nat.le_of_ble_eq_true rfl) dM_inverse_2 ⟨Nat.zero_le _, Nat.zero_le _⟩ hS (fun r9 u H locs hp hZ _ hS => ?_)
  obtain ⟨hu9, ba, hr1, hba⟩ := hp
  subst hr1
  rw [hu9] at hZ
  dsimp only at hZ
  clear hu9
  refine zr_if_ne (tgt := 22) hx hb (by have := bZ_01 ba; omega) dM_inverse_5 (by decide) (fun c_1 => ?_) (fun c_1 => ?_)
  · have hng : ¬ rok a := hba.mp (bZ_nf.mp (by assumption))
    refine lv_iconst (v := iZ (1)) hx hb dM_inverse_22 (by decide) ?_
    refine lv_goto (tgt := 39) hx hb dM_inverse_23 (by decide) ?_
    refine W.eq (g2 := F0 m 39 ls ([.int (iZ ((1 : Nat) : Int)), .ref B])) rfl ?_
    refine zm_put_thrown (x := 1) hx hb ht hown hK hZ hS tw_677 dM_inverse_39 (fun H locs hZ hS => ?_)
    have hZ : zMD E B w0 (1, fa, ct, be, fb, sb9, (2049 - st)) H := hZ
    refine lv_aload_n hx hb dM_inverse_42 rfl (lv_at hl 0 rfl) ?_
    refine zm_thrown hx hb ht hown hK hZ tw_677 dM_inverse_43 ?_
    refine zc_i (y := iZ (((1 : Nat) : Int))) rfl ?_
    refine zr_if_le (tgt := 50) hx hb (by decide) dM_inverse_46 (by decide) (fun c_2 => ?_) (fun c_2 => ?_)
    · exact absurd c_2 (by decide)
    · exact hend 49 () _ _ _ dM_inverse_49 trivial (by obtain ⟨hk, hs⟩ := SP_1 hsp (fun h9 => hng (by first | exact h9 | exact h9.1 | exact h9.2.1 | exact h9.2.2.1 | exact h9.2.2.2.1 | exact h9.2.2.2 | exact h9.2.2 | exact h9.2)); subst hk; subst hs; exact ⟨hok1, w0, (1, fa, ct, be, fb, sb9, (2049 - st)), hZ, ⟨hMR, rfl, hdr, rfl, hpa⟩, rfl⟩) hS
  · have hk_na : rok a := Classical.byContradiction (fun h9 => absurd (hba.mpr h9) (by rw [show ba = false from bZ_f.mp (by assumption)]; decide))
    obtain ⟨na, rfl⟩ : ∃ n9 : Nat, a = (n9 : Int) := ⟨a.toNat, by have := hk_na.1; omega⟩
    have h10_na : na < 10 := by have := hk_na.2; omega
    refine lv_iload_n hx hb dM_inverse_8 rfl (lv_at hl 2 rfl) ?_
    refine zcS_i (P' := fun (u : (Nat → Nat → Nat) × zC) H => zMD E B u.1 u.2 H) 1 (As := [.int (iZ (mm))]) (rest := [.ref (B)]) ⟨hx, hb, hml, hown, ht⟩ (mM_no l E B w0 (th, fa, ct, be, fb, sb9, (2049 - st)) (mm) hz_mm) tw_762 tw_760 tw_761 tw_6 qM_no (by rw [hR]; decide) hZ hK hl.1 rfl rfl (Nat.le_of_ble_eq_true rfl) dM_inverse_9 ⟨Nat.zero_le _, Nat.zero_le _⟩ hS (fun r9 u H locs hp hZ _ hS => ?_)
    obtain ⟨hu9, bmm, hr1, hbmm⟩ := hp
    subst hr1
    rw [hu9] at hZ
    dsimp only at hZ
    clear hu9
    refine zr_if_ne (tgt := 22) hx hb (by have := bZ_01 bmm; omega) dM_inverse_12 (by decide) (fun c_3 => ?_) (fun c_3 => ?_)
    · have hng : ¬ rok mm := hbmm.mp (bZ_nf.mp (by assumption))
      refine lv_iconst (v := iZ (1)) hx hb dM_inverse_22 (by decide) ?_
      refine lv_goto (tgt := 39) hx hb dM_inverse_23 (by decide) ?_
      refine W.eq (g2 := F0 m 39 ls ([.int (iZ ((1 : Nat) : Int)), .ref B])) rfl ?_
      refine zm_put_thrown (x := 1) hx hb ht hown hK hZ hS tw_677 dM_inverse_39 (fun H locs hZ hS => ?_)
      have hZ : zMD E B w0 (1, fa, ct, be, fb, sb9, (2049 - st)) H := hZ
      refine lv_aload_n hx hb dM_inverse_42 rfl (lv_at hl 0 rfl) ?_
      refine zm_thrown hx hb ht hown hK hZ tw_677 dM_inverse_43 ?_
      refine zc_i (y := iZ (((1 : Nat) : Int))) rfl ?_
      refine zr_if_le (tgt := 50) hx hb (by decide) dM_inverse_46 (by decide) (fun c_4 => ?_) (fun c_4 => ?_)
      · exact absurd c_4 (by decide)
      · exact hend 49 () _ _ _ dM_inverse_49 trivial (by obtain ⟨hk, hs⟩ := SP_1 hsp (fun h9 => hng (by first | exact h9 | exact h9.1 | exact h9.2.1 | exact h9.2.2.1 | exact h9.2.2.2.1 | exact h9.2.2.2 | exact h9.2.2 | exact h9.2)); subst hk; subst hs; exact ⟨hok1, w0, (1, fa, ct, be, fb, sb9, (2049 - st)), hZ, ⟨hMR, rfl, hdr, rfl, hpa⟩, rfl⟩) hS
    · have hk_nmm : rok mm := Classical.byContradiction (fun h9 => absurd (hbmm.mpr h9) (by rw [show bmm = false from bZ_f.mp (by assumption)]; decide))
      obtain ⟨nmm, rfl⟩ : ∃ n9 : Nat, mm = (n9 : Int) := ⟨mm.toNat, by have := hk_nmm.1; omega⟩
      have h10_nmm : nmm < 10 := by have := hk_nmm.2; omega
      refine lv_iload_n hx hb dM_inverse_15 rfl (lv_at hl 3 rfl) ?_
      refine zcS_i (P' := fun (u : (Nat → Nat → Nat) × zC) H => zMD E B u.1 u.2 H) 1 (As := [.int (iZ (to))]) (rest := [.ref (B)]) ⟨hx, hb, hml, hown, ht⟩ (mM_no l E B w0 (th, fa, ct, be, fb, sb9, (2049 - st)) (to) hz_to) tw_762 tw_760 tw_761 tw_6 qM_no (by rw [hR]; decide) hZ hK hl.1 rfl rfl (Nat.le_of_ble_eq_true rfl) dM_inverse_16 ⟨Nat.zero_le _, Nat.zero_le _⟩ hS (fun r9 u H locs hp hZ _ hS => ?_)
      obtain ⟨hu9, bto, hr1, hbto⟩ := hp
      subst hr1
      rw [hu9] at hZ
      dsimp only at hZ
      clear hu9
      refine zr_if_eq (tgt := 26) hx hb (by have := bZ_01 bto; omega) dM_inverse_19 (by decide) (fun c_5 => ?_) (fun c_5 => ?_)
      · have hk_nto : rok to := Classical.byContradiction (fun h9 => absurd (hbto.mpr h9) (by rw [show bto = false from bZ_f.mp (by assumption)]; decide))
        obtain ⟨nto, rfl⟩ : ∃ n9 : Nat, to = (n9 : Int) := ⟨to.toNat, by have := hk_nto.1; omega⟩
        have h10_nto : nto < 10 := by have := hk_nto.2; omega
        refine lv_aload_n hx hb dM_inverse_26 rfl (lv_at hl 0 rfl) ?_
        refine lv_iload_n hx hb dM_inverse_27 rfl (lv_at hl 2 rfl) ?_
        refine zcV_i (P' := fun (u : (Nat → Nat → Nat) × zC) H => zMD E B u.1 u.2 H) 1 (As := [.int (iZ (↑nmm))]) (rest := [.ref (B)]) rfl ⟨hx, hb, hml, hown, ht⟩ (mM_isAbove0 l E B w0 (th, fa, ct, be, fb, sb9, (2049 - st)) rg ct f st g hMR hdr hpa nmm h10_nmm) tw_832 tw_829 tw_831 tp_18 tw_6 qM_isAbove0 (by rw [hR]; decide) (zm_recv hK hZ) hZ hK hl.1 rfl rfl (Nat.le_of_ble_eq_true rfl) dM_inverse_28 ⟨Nat.zero_le _, Nat.zero_le _⟩ hS (fun r9 u H locs hp hZ _ hS => ?_)
        obtain ⟨_, hu9, bp, hr1, hbp⟩ := hp
        subst hr1
        rw [hu9] at hZ
        dsimp only at hZ
        clear hu9
        refine zr_if_ne (tgt := 38) hx hb (by have := bZ_01 bp; omega) dM_inverse_31 (by decide) (fun c_6 => ?_) (fun c_6 => ?_)
        · have hm0 : 0 < rg nmm := hbp.mp (bZ_nf.mp (by assumption))
          have hm128 := rP_big (hok.1 nmm h10_nmm)
          refine lv_iconst (v := iZ (0)) hx hb dM_inverse_38 (by decide) ?_
          refine W.eq (g2 := F0 m 39 ls ([.int (iZ ((0 : Nat) : Int)), .ref B])) rfl ?_
          refine zm_put_thrown (x := 0) hx hb ht hown hK hZ hS tw_677 dM_inverse_39 (fun H locs hZ hS => ?_)
          have hZ : zMD E B w0 (0, fa, ct, be, fb, sb9, (2049 - st)) H := hZ
          refine lv_aload_n hx hb dM_inverse_42 rfl (lv_at hl 0 rfl) ?_
          refine zm_thrown hx hb ht hown hK hZ tw_677 dM_inverse_43 ?_
          refine zc_i (y := iZ (((0 : Nat) : Int))) rfl ?_
          refine zr_if_le (tgt := 50) hx hb (by decide) dM_inverse_46 (by decide) (fun c_7 => ?_) (fun c_7 => ?_)
          · refine lv_aload_n hx hb dM_inverse_50 rfl (lv_at hl 0 rfl) ?_
            refine lv_iload_n hx hb dM_inverse_51 rfl (lv_at hl 2 rfl) ?_
            refine lv_aload_n hx hb dM_inverse_52 rfl (lv_at hl 0 rfl) ?_
            refine zm_modulus hx hb ht hown hK hZ tw_695 dM_inverse_53 ?_
            refine zcV_v (P' := fun (u : (Nat → Nat → Nat) × zC) H => zMD E B u.1 u.2 H) 2 (As := [.int (iZ (↑nmm)), .ref (B + 13)]) (rest := []) rfl ⟨hx, hb, hml, hown, ht⟩ (mM_take l E B w0 (0, fa, ct, be, fb, sb9, (2049 - st)) nmm h10_nmm 13 (by decide) 264 rfl (by decide)) tw_791 tw_788 tw_790 tp_13 tw_6 qM_take (by rw [hR]; decide) (zm_recv hK hZ) hZ hK hl.1 rfl rfl (Nat.le_of_ble_eq_true rfl) dM_inverse_56 ⟨Nat.zero_le _, Nat.zero_le _⟩ hS (fun u H locs hp hZ _ hS => ?_)
            obtain ⟨w, q9⟩ := u
            obtain ⟨ho, hq9, hcp⟩ := hp
            dsimp only at *
            rw [hq9] at hZ
            have htk := take_val hcp (hMR nmm h10_nmm).1
            replace hMR : MR w rg := MR_same (ho 2 (by decide)) (ho 3 (by decide)) hMR
            replace hdr : ∀ i, i < ct → w 1 i = f i := fun i hi => by rw [ho 1 (by decide)]; exact hdr i hi
            replace hpa : ∀ i, i < 2049 - st → w 14 i = g (st + i) := fun i hi => by rw [ho 14 (by decide)]; exact hpa i hi
            have hv_13 : rv (w 13) 264 = (rg nmm).natAbs := htk
            clear htk
            refine lv_aload_n hx hb dM_inverse_59 rfl (lv_at hl 0 rfl) ?_
            refine lv_iload_n hx hb dM_inverse_60 rfl (lv_at hl 1 rfl) ?_
            refine lv_aload_n hx hb dM_inverse_61 rfl (lv_at hl 0 rfl) ?_
            refine zm_one hx hb ht hown hK hZ tw_689 dM_inverse_62 ?_
            refine zcV_v (P' := fun (u : (Nat → Nat → Nat) × zC) H => zMD E B u.1 u.2 H) 2 (As := [.int (iZ (↑na)), .ref (B + 9)]) (rest := []) rfl ⟨hx, hb, hml, hown, ht⟩ (mM_reduce l E B w (0, fa, ct, be, fb, sb9, (2049 - st)) rg ct f st g hMR hdr hpa na h10_na ((rg nmm).natAbs) (by omega) (hm128) hv_13) tw_836 tw_833 tw_835 tp_19 tw_6 qM_reduce (by rw [hR]; decide) (zm_recv hK hZ) hZ hK hl.1 rfl rfl (Nat.le_of_ble_eq_true rfl) dM_inverse_65 ⟨Nat.zero_le _, Nat.zero_le _⟩ hS (fun u H locs hp hZ _ hS => ?_)
            obtain ⟨w, q9⟩ := u
            obtain ⟨ho, hq9, hrv⟩ := hp
            dsimp only at *
            rw [hq9] at hZ
            replace hMR : MR w rg := MR_same (ho 2 (by decide) (by decide) (by decide) (by decide)) (ho 3 (by decide) (by decide) (by decide) (by decide)) hMR
            replace hdr : ∀ i, i < ct → w 1 i = f i := fun i hi => by rw [ho 1 (by decide) (by decide) (by decide) (by decide)]; exact hdr i hi
            replace hpa : ∀ i, i < 2049 - st → w 14 i = g (st + i) := fun i hi => by rw [ho 14 (by decide) (by decide) (by decide) (by decide)]; exact hpa i hi
            replace hv_13 : rv (w 13) 264 = (rg nmm).natAbs := by rw [ho 13 (by decide) (by decide) (by decide) (by decide)]; exact hv_13
            have hre : rv (w 9) 264 = (rg na % (((rg nmm).natAbs : Nat) : Int)).toNat := by omega
            have hv_9 : rv (w 9) 264 = (rg na % (((rg nmm).natAbs : Nat) : Int)).toNat := hre
            clear hre
            have hme : (((rg nmm).natAbs : Nat) : Int) = rg nmm := by omega
            refine lv_aload_n hx hb dM_inverse_68 rfl (lv_at hl 0 rfl) ?_
            refine zcV_i (P' := fun (u : (Nat → Nat → Nat) × zC) H => zMD E B u.1 u.2 H) 0 (As := []) (rest := []) rfl ⟨hx, hb, hml, hown, ht⟩ (mM_inverts l E B w (0, fa, ct, be, fb, sb9, (2049 - st)) rg ct f st g hMR hdr hpa (rg na) ((rg nmm).natAbs) (by omega) hm128 hv_9 hv_13) tw_864 tw_861 tw_863 tp_22 tw_6 qM_inverts (by rw [hR]; decide) (zm_recv hK hZ) hZ hK hl.1 rfl rfl (Nat.le_of_ble_eq_true rfl) dM_inverse_69 ⟨Nat.zero_le _, Nat.zero_le _⟩ hS (fun r9 u H locs hp hZ _ hS => ?_)
            obtain ⟨w, q9⟩ := u
            obtain ⟨ho, ⟨be9, fb9, sc9, hq9⟩, bi, hr1, hbt, hbf⟩ := hp
            dsimp only at *
            subst hr1
            rw [hq9] at hZ
            replace hMR : MR w rg := MR_same (ho 2 (by decide) (by decide) (by decide) (by decide) (by decide) (by decide) (by decide) (by decide) (by decide)) (ho 3 (by decide) (by decide) (by decide) (by decide) (by decide) (by decide) (by decide) (by decide) (by decide)) hMR
            replace hdr : ∀ i, i < ct → w 1 i = f i := fun i hi => by rw [ho 1 (by decide) (by decide) (by decide) (by decide) (by decide) (by decide) (by decide) (by decide) (by decide)]; exact hdr i hi
            replace hpa : ∀ i, i < 2049 - st → w 14 i = g (st + i) := fun i hi => by rw [ho 14 (by decide) (by decide) (by decide) (by decide) (by decide) (by decide) (by decide) (by decide) (by decide)]; exact hpa i hi
            replace hv_13 : rv (w 13) 264 = (rg nmm).natAbs := by rw [ho 13 (by decide) (by decide) (by decide) (by decide) (by decide) (by decide) (by decide) (by decide) (by decide)]; exact hv_13
            clear hv_9
            have hZ : zMD E B w (0, fa, ct, be9, fb9, sc9, (2049 - st)) H := hZ
            refine zr_if_ne (tgt := 81) hx hb (by have := bZ_01 bi; omega) dM_inverse_72 (by decide) (fun c_8 => ?_) (fun c_8 => ?_)
            · obtain ⟨hg1, z9, hz1, hz2, hv_9⟩ := hbt (bZ_nf.mp (by assumption))
              rw [hme] at hz2
              refine lv_aload_n hx hb dM_inverse_81 rfl (lv_at hl 0 rfl) ?_
              refine zm_one hx hb ht hown hK hZ tw_689 dM_inverse_82 ?_
              refine lv_aload_n hx hb dM_inverse_85 rfl (lv_at hl 0 rfl) ?_
              refine zm_row hx hb ht hown hK hZ tw_683 dM_inverse_86 ?_
              refine zcS_v (P' := fun (u : (Nat → Nat → Nat) × zC) H => zMD E B u.1 u.2 H) 2 (As := [.ref (B + 9), .ref (B + 4)]) (rest := []) ⟨hx, hb, hml, hown, ht⟩ (mM_copy l E B w (0, fa, ct, be9, fb9, sc9, (2049 - st)) 9 (by decide) 4 (by decide) 264 rfl (by decide) 264 rfl (by decide) (by decide)) tw_798 tw_796 tw_797 tw_6 qM_copy (by rw [hR]; decide) hZ hK hl.1 rfl rfl (Nat.le_of_ble_eq_true rfl) dM_inverse_89 ⟨Nat.zero_le _, Nat.zero_le _⟩ hS (fun u H locs hp hZ _ hS => ?_)
              obtain ⟨w, q9⟩ := u
              obtain ⟨ho, hq9, hcp⟩ := hp
              dsimp only at *
              rw [hq9] at hZ
              have hcv : rv (w 4) 264 = z9 := by rw [rv_congr (fun i hi => (hcp i hi).trans (if_pos hi))]; exact hv_9
              replace hMR : MR w rg := MR_same (ho 2 (by decide)) (ho 3 (by decide)) hMR
              replace hdr : ∀ i, i < ct → w 1 i = f i := fun i hi => by rw [ho 1 (by decide)]; exact hdr i hi
              replace hpa : ∀ i, i < 2049 - st → w 14 i = g (st + i) := fun i hi => by rw [ho 14 (by decide)]; exact hpa i hi
              replace hv_13 : rv (w 13) 264 = (rg nmm).natAbs := by rw [ho 13 (by decide)]; exact hv_13
              replace hv_9 : rv (w 9) 264 = z9 := by rw [ho 9 (by decide)]; exact hv_9
              have hv_4 : rv (w 4) 264 = z9 := hcv
              clear hcv
              refine lv_aload_n hx hb dM_inverse_92 rfl (lv_at hl 0 rfl) ?_
              refine lv_iconst (v := iZ (0)) hx hb dM_inverse_93 (by decide) ?_
              refine W.eq (g2 := F0 m 94 ls ([.int (iZ (bZ false)), .ref B])) rfl ?_
              refine zm_put_below (x := false) hx hb ht hown hK hZ hS tw_684 dM_inverse_94 (fun H locs hZ hS => ?_)
              have hZ : zMD E B w (0, fa, ct, false, fb9, sc9, (2049 - st)) H := hZ
              refine lv_aload_n hx hb dM_inverse_97 rfl (lv_at hl 0 rfl) ?_
              refine lv_iload_n hx hb dM_inverse_98 rfl (lv_at hl 3 rfl) ?_
              refine zcV_v (P' := fun (u : (Nat → Nat → Nat) × zC) H => zMD E B u.1 u.2 H) 1 (As := [.int (iZ (↑nto))]) (rest := []) rfl ⟨hx, hb, hml, hown, ht⟩ (mM_store l E B w (0, fa, ct, false, fb9, sc9, (2049 - st)) nto h10_nto rg hMR) tw_779 tw_776 tw_778 tp_12 tw_6 qM_store (by rw [hR]; decide) (zm_recv hK hZ) hZ hK hl.1 rfl rfl (Nat.le_of_ble_eq_true rfl) dM_inverse_99 ⟨Nat.zero_le _, Nat.zero_le _⟩ hS (fun u H locs hp hZ _ hS => ?_)
              obtain ⟨w, q9⟩ := u
              obtain ⟨ho, hbig, hfit⟩ := hp
              dsimp only at *
              rw [hv_4] at hbig hfit
              have hzz : (if false = true then -(((z9 : Nat) : Int)) else ((z9 : Nat) : Int)) = ((z9 : Nat) : Int) := by rw [if_neg (by decide)]
              have hzX : zX (((z9 : Nat) : Int)) ↔ z9 < rP 128 := by rw [← hzz]; exact zX_if
              rcases Nat.lt_or_ge (z9) (rP 128) with hX | hX
              · obtain ⟨hq9, hMR9⟩ := hfit hX
                rw [hq9] at hZ
                rw [hzz] at hMR9
                have hzx := hzX.mpr hX
                replace hdr : ∀ i, i < ct → w 1 i = f i := fun i hi => by rw [ho 1 (by decide) (by decide)]; exact hdr i hi
                replace hpa : ∀ i, i < 2049 - st → w 14 i = g (st + i) := fun i hi => by rw [ho 14 (by decide) (by decide)]; exact hpa i hi
                replace hv_13 : rv (w 13) 264 = (rg nmm).natAbs := by rw [ho 13 (by decide) (by decide)]; exact hv_13
                replace hv_9 : rv (w 9) 264 = z9 := by rw [ho 9 (by decide) (by decide)]; exact hv_9
                replace hv_4 : rv (w 4) 264 = z9 := by rw [ho 4 (by decide) (by decide)]; exact hv_4
                have hMR : MR w (va_up rg nto (((z9 : Nat) : Int))) := hMR9
                exact hend 102 () _ _ _ dM_inverse_102 trivial (by rcases SP_g hsp ⟨hk_na, hk_nmm, hk_nto⟩ with ⟨_, h, _⟩ | ⟨_, h, _⟩ | ⟨hk, _, z8, h1, h2, hs⟩; exact h.elim; rcases h with h | h; exact absurd hm0 h; exact absurd hg1 h; have hzq : z9 = z8 := inv_eq (by omega) (show ((z8 : Nat) : Int) < rg nmm from h1) hz2 h2; subst hzq; subst hk; subst hs; exact ⟨hok1, w, (0, fa, ct, false, fb9, sc9, (2049 - st)), hZ, ⟨hMR, rfl, hdr, rfl, hpa⟩, rfl⟩) hS
              · obtain ⟨e1, e2⟩ := Prod.mk.inj (hbig hX)
                rw [e2] at hZ
                rw [← e1] at hMR hdr hpa
                have hzx : ¬ zX (((z9 : Nat) : Int)) := fun h9 => absurd (hzX.mp h9) (Nat.not_lt.mpr hX)
                have hZ : zMD E B w (fa, fa, ct, false, fb9, sc9, (2049 - st)) H := hZ
                exact absurd (zX_le (hok.1 nmm h10_nmm) (by rw [Int.natAbs_natCast]; omega)) hzx
            · have hgn := hbf (bZ_f.mp (by assumption))
              refine lv_aload_n hx hb dM_inverse_75 rfl (lv_at hl 0 rfl) ?_
              refine lv_iconst (v := iZ (2)) hx hb dM_inverse_76 (by decide) ?_
              refine W.eq (g2 := F0 m 77 ls ([.int (iZ ((2 : Nat) : Int)), .ref B])) rfl ?_
              refine zm_put_thrown (x := 2) hx hb ht hown hK hZ hS tw_677 dM_inverse_77 (fun H locs hZ hS => ?_)
              have hZ : zMD E B w (2, fa, ct, be9, fb9, sc9, (2049 - st)) H := hZ
              exact hend 80 () _ _ _ dM_inverse_80 trivial (by rcases SP_g hsp ⟨hk_na, hk_nmm, hk_nto⟩ with ⟨_, h, _⟩ | ⟨hk, h, hs⟩ | ⟨_, h⟩; exact h.elim; subst hk; subst hs; exact ⟨hok1, w, (2, fa, ct, be9, fb9, sc9, (2049 - st)), hZ, ⟨hMR, rfl, hdr, rfl, hpa⟩, rfl⟩; obtain ⟨_, z8, h1, h2, _⟩ := h; exact absurd (inv_gcd hm0 h2) hgn) hS
          · exact absurd c_7 (by decide)
        · have hm0 : ¬ 0 < rg nmm := fun h9 => absurd (hbp.mpr h9) (by rw [show bp = false from bZ_f.mp (by assumption)]; decide)
          refine lv_iconst (v := iZ (2)) hx hb dM_inverse_34 (by decide) ?_
          refine lv_goto (tgt := 39) hx hb dM_inverse_35 (by decide) ?_
          refine W.eq (g2 := F0 m 39 ls ([.int (iZ ((2 : Nat) : Int)), .ref B])) rfl ?_
          refine zm_put_thrown (x := 2) hx hb ht hown hK hZ hS tw_677 dM_inverse_39 (fun H locs hZ hS => ?_)
          have hZ : zMD E B w0 (2, fa, ct, be, fb, sb9, (2049 - st)) H := hZ
          refine lv_aload_n hx hb dM_inverse_42 rfl (lv_at hl 0 rfl) ?_
          refine zm_thrown hx hb ht hown hK hZ tw_677 dM_inverse_43 ?_
          refine zc_i (y := iZ (((2 : Nat) : Int))) rfl ?_
          refine zr_if_le (tgt := 50) hx hb (by decide) dM_inverse_46 (by decide) (fun c_9 => ?_) (fun c_9 => ?_)
          · exact absurd c_9 (by decide)
          · exact hend 49 () _ _ _ dM_inverse_49 trivial (by rcases SP_g hsp ⟨hk_na, hk_nmm, hk_nto⟩ with ⟨_, h, _⟩ | ⟨hk, h, hs⟩ | ⟨_, h⟩; exact h.elim; subst hk; subst hs; exact ⟨hok1, w0, (2, fa, ct, be, fb, sb9, (2049 - st)), hZ, ⟨hMR, rfl, hdr, rfl, hpa⟩, rfl⟩; exact absurd h.1 hm0) hS
      · have hng : ¬ rok to := hbto.mp (bZ_nf.mp (by assumption))
        refine lv_iconst (v := iZ (1)) hx hb dM_inverse_22 (by decide) ?_
        refine lv_goto (tgt := 39) hx hb dM_inverse_23 (by decide) ?_
        refine W.eq (g2 := F0 m 39 ls ([.int (iZ ((1 : Nat) : Int)), .ref B])) rfl ?_
        refine zm_put_thrown (x := 1) hx hb ht hown hK hZ hS tw_677 dM_inverse_39 (fun H locs hZ hS => ?_)
        have hZ : zMD E B w0 (1, fa, ct, be, fb, sb9, (2049 - st)) H := hZ
        refine lv_aload_n hx hb dM_inverse_42 rfl (lv_at hl 0 rfl) ?_
        refine zm_thrown hx hb ht hown hK hZ tw_677 dM_inverse_43 ?_
        refine zc_i (y := iZ (((1 : Nat) : Int))) rfl ?_
        refine zr_if_le (tgt := 50) hx hb (by decide) dM_inverse_46 (by decide) (fun c_10 => ?_) (fun c_10 => ?_)
        · exact absurd c_10 (by decide)
        · exact hend 49 () _ _ _ dM_inverse_49 trivial (by obtain ⟨hk, hs⟩ := SP_1 hsp (fun h9 => hng (by first | exact h9 | exact h9.1 | exact h9.2.1 | exact h9.2.2.1 | exact h9.2.2.2.1 | exact h9.2.2.2 | exact h9.2.2 | exact h9.2)); subst hk; subst hs; exact ⟨hok1, w0, (1, fa, ct, be, fb, sb9, (2049 - st)), hZ, ⟨hMR, rfl, hdr, rfl, hpa⟩, rfl⟩) hS
