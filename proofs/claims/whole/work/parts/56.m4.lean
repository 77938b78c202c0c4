def dvt (r : Nat → Nat) (nb : Nat) : Nat := (r nb * 65536 + r (nb - 1)) * 65536 + (if 1 < nb then r (nb - 2) else 0)
def dvh (b : Nat → Nat) (nb : Nat) : Nat := b (nb - 1) * 65536 + (if 1 < nb then b (nb - 2) else 0)
theorem dv_ok {b r : Nat → Nat} {nb t N : Nat} (hb : ∀ i, b i < 65536) (h1 : 1 ≤ nb) (hn : nb + 1 ≤ N) (hbz : ∀ i, nb ≤ i → i < N → b i = 0) (h : t * (dvh b nb + 1) ≤ dvt r nb) : t * rv b N ≤ rv r N := by
  rw [rv_drop (m := nb) (by omega) hbz]
  refine Nat.le_trans ?_ (rv_mono hn)
  unfold dvh dvt at h
  rcases Nat.lt_or_ge 1 nb with h2 | h2
  · obtain ⟨k, rfl⟩ : ∃ k, nb = k + 2 := ⟨nb - 2, by omega⟩
    rw [if_pos h2, if_pos h2, show k + 2 - 1 = k + 1 by omega, show k + 2 - 2 = k by omega] at h
    have p1 : rP (k + 1) = 65536 * rP k := rP_s k
    have p2 : rP (k + 2) = 65536 * (65536 * rP k) := by rw [← p1]; exact rP_s (k + 1)
    have e1 : rv b (k + 2) = rv b k + (b (k + 1) * 65536 + b k) * rP k := by
      rw [rv_s, rv_s, p1]
      generalize rP k = P
      grind
    have e2 : rv r (k + 2 + 1) = rv r k + ((r (k + 2) * 65536 + r (k + 1)) * 65536 + r k) * rP k := by
      rw [rv_s, rv_s, rv_s, p1, p2]
      generalize rP k = P
      grind
    have e3 := rv_lt hb k
    have e4 : rv b (k + 2) ≤ (b (k + 1) * 65536 + b k + 1) * rP k := by rw [e1, Nat.add_mul _ 1, Nat.one_mul]; omega
    have e5 := Nat.mul_le_mul_left t e4
    have e6 := Nat.mul_le_mul_right (rP k) h
    rw [← Nat.mul_assoc] at e5
    rw [e2]
    omega
  · have h3 : nb = 1 := by omega
    subst h3
    rw [if_neg (by omega), if_neg (by omega)] at h
    have e1 : rv b 1 = b 0 := by rw [show 1 = 0 + 1 from rfl, rv_s, rv_0, rP_0]; omega
    have e2 : rv r (1 + 1) = r 0 + r 1 * 65536 := by rw [rv_s, show rv r 1 = r 0 by rw [show 1 = 0 + 1 from rfl, rv_s, rv_0, rP_0]; omega, show rP 1 = 65536 from rfl]
    rw [e1, e2]
    have h4 : t * (b 0 * 65536 + 1) = t * b 0 * 65536 + t := by rw [Nat.mul_add, Nat.mul_one, Nat.mul_assoc]
    have h5 : t * (b (1 - 1) * 65536 + 0 + 1) = t * (b 0 * 65536 + 1) := by rw [Nat.add_zero, Nat.sub_self]
    have h6 : r (1 - 1) = r 0 := by rw [Nat.sub_self]
    rw [h5, h4, h6] at h
    omega
theorem dv_bd {b r : Nat → Nat} {nb : Nat} (hr : ∀ i, r i < 65536) (hb : ∀ i, b i < 65536) (h1 : b (nb - 1) ≠ 0) : dvt r nb < 281474976710656 ∧ 65536 ≤ dvh b nb ∧ dvh b nb < 4294967296 ∧ dvt r nb / (dvh b nb + 1) ≤ 4294967296 := by
  have a1 := hr nb
  have a2 := hr (nb - 1)
  have a3 := hr (nb - 2)
  have a4 := hb (nb - 1)
  have a5 := hb (nb - 2)
  have c1 : dvt r nb < 281474976710656 := by unfold dvt; split <;> omega
  have c2 : 65536 ≤ dvh b nb := by unfold dvh; split <;> omega
  have c3 : dvh b nb < 4294967296 := by unfold dvh; split <;> omega
  refine ⟨c1, c2, c3, ?_⟩
  apply Nat.div_le_of_le_mul
  have := Nat.mul_le_mul_right 4294967296 (show 65536 ≤ dvh b nb + 1 by omega)
  omega
theorem dv_shift {rd e : Nat → Nat} {nb x : Nat} (hnb : nb + 1 ≤ 264) (h0 : e 0 = x) (h1 : ∀ q, 1 ≤ q → q ≤ nb → e q = rd (q - 1)) (h2 : ∀ q, nb < q → q < 264 → e q = 0) (hz : ∀ q, nb ≤ q → q < 264 → rd q = 0) : rv e 264 = rv rd 264 * 65536 + x := by
  rw [show 264 = 1 + 263 from rfl, rv_first, h0]
  have e1 : rv (fun i => e (1 + i)) 263 = rv rd 263 := rv_congr fun i hi => by
    show e (1 + i) = rd i
    rcases Nat.lt_or_ge i nb with h9 | h9
    · rw [h1 _ (by omega) (by omega), Nat.add_sub_cancel_left]
    · rw [h2 _ (by omega) (by omega), hz i h9 (by omega)]
  have e2 : rv rd (1 + 263) = rv rd 263 := rv_drop (m := 263) (by omega) (fun q h8 h9 => hz q (by omega) (by omega))
  rw [e1, e2]
  omega
theorem rv_zeros {d : Nat → Nat} (hd : ∀ i, d i < 65536) {k n : Nat} (h : rv d n < rP k) {q : Nat} (hq : k ≤ q) (hqn : q < n) : d q = 0 := by
  rw [← rv_digit hd hqn, Nat.div_eq_of_lt (Nat.lt_of_lt_of_le h (rP_mono hq))]
theorem dv_quo {q8 : Nat → Nat} {k t : Nat} (hk : k < 264) (hz : ∀ q, q ≤ k → q8 q = 0) (hd : ∀ i, q8 i < 65536) (ht : t < 65536) : rv (va_up q8 k t) 264 / rP k = rv q8 264 / rP (k + 1) * 65536 + t := by
  have hd2 : ∀ i, va_up q8 k t i < 65536 := up_lt hd ht
  obtain ⟨r, hr⟩ : ∃ r, 264 = k + (1 + r) := ⟨263 - k, by omega⟩
  rw [hr, rv_div hd2, show rv q8 (k + (1 + r)) = rv q8 ((k + 1) + r) by rw [Nat.add_assoc], rv_div hd, rv_first, Nat.add_zero, va_up_self]
  rw [rv_congr (d := fun i => va_up q8 k t (k + (1 + i))) (e := fun i => q8 (k + 1 + i)) (fun i hi => by show va_up q8 k t (k + (1 + i)) = q8 (k + 1 + i); rw [va_up_ne _ _ (by omega), Nat.add_assoc])]
  omega
theorem dvn_next {a : Nat → Nat} (ha : ∀ i, a i < 65536) {k n A : Nat} (hA : A = rv a n) (hk : k < n) : A / rP k = A / rP (k + 1) * 65536 + a k := by
  have h1 := rv_digit ha hk
  rw [← hA] at h1
  rw [rP_s, Nat.mul_comm 65536, ← Nat.div_div_eq_div_mul]
  omega
theorem dv_fin {Ak Ak1 Q8 t Bv R r7 R1 a : Nat} (h1 : Ak = Ak1 * 65536 + a) (hQ : Ak1 = Q8 * Bv + R) (hR1 : R1 = R * 65536 + a) (hT : r7 + t * Bv = R1) : Ak = (Q8 * 65536 + t) * Bv + r7 := by
  subst h1 hQ
  have e : (Q8 * Bv + R) * 65536 = Q8 * 65536 * Bv + R * 65536 := by rw [Nat.add_mul, Nat.mul_right_comm]
  rw [e, Nat.add_mul]
  omega
theorem dv_dig {t s Bv r7 R1 : Nat} (hT : r7 + t * Bv = R1) (hs : s * Bv ≤ r7) (hR : R1 < Bv * 65536) : t + s < 65536 ∧ (r7 - s * Bv) + (t + s) * Bv = R1 := by
  have e : (t + s) * Bv = t * Bv + s * Bv := Nat.add_mul _ _ _
  refine ⟨?_, by omega⟩
  have h9 : (t + s) * Bv < 65536 * Bv := by rw [e, Nat.mul_comm 65536]; omega
  exact Nat.lt_of_mul_lt_mul_right h9
theorem up_id (f : Nat → Nat) (k : Nat) (h : f k = 0) : va_up f k 0 = f := by
  funext i
  by_cases h9 : i = k
  · subst h9; rw [va_up_self, h]
  · rw [va_up_ne _ _ h9]
theorem up_up (f : Nat → Nat) (k x y : Nat) : va_up (va_up f k x) k y = va_up f k y := bx_uu _ _ _ _
set_option maxHeartbeats 4000000 in
set_option maxRecDepth 100000 in
theorem mM_divideRows (l : Launch) (E : zE) (B : Nat) (w0 : Nat → Nat → Nat) (q0 : zC) (ka : Nat) (hk_ka : 4 ≤ ka ∧ ka ≤ 13) (kb : Nat) (hk_kb : 4 ≤ kb ∧ kb ≤ 13) (hln_ka : mln ka = 264) (hln_kb : mln kb = 264) (ha7 : ka ≠ 7 ∧ ka ≠ 8) (hb7 : kb ≠ 7 ∧ kb ≠ 8) (hB0 : rv (w0 kb) 264 ≠ 0) (hB1 : rv (w0 kb) 264 < rP 200) :
    Met l yM_divideRows (zws yM_divideRows cM_divideRows 13 none) { frames := 1, cells := 0, slots := 0, locals := 60 } (zPc E (zMD E B w0 q0) [.ref (B), .ref (B + ka), .ref (B + kb)]) (va_Qv (fun u : (Nat → Nat → Nat) × zC => (∀ j, j ≠ 7 → j ≠ 8 → u.1 j = w0 j) ∧ u.2 = q0 ∧ rv (u.1 8) 264 = rv (w0 ka) 264 / rv (w0 kb) 264 ∧ rv (u.1 7) 264 = rv (w0 ka) 264 % rv (w0 kb) 264) (fun u t => zMD E B u.1 u.2 t.heap ∧ zK E t) (zA B 15)) 0 0 (zA B 15) := by
  refine zof_v (P' := fun (u : (Nat → Nat → Nat) × zC) H => zMD E B u.1 u.2 H) (by decide) (Nat.le_of_ble_eq_true rfl) fun p e R s m args below meth c Q ls hR hx hb hml ht hown hK hZ hl hend => ?_
  have hS : va_S (zA B 15) s.heap s.heap [] := va_S.rf
  have hown : s.vm.findClass "WholeDeskModel" = some m.cls := hown
  have hl : lv_has ls 13 [(0, .ref (B)), (1, .ref (B + ka)), (2, .ref (B + kb))] := hl
  have hdA : ∀ i, w0 ka i < 65536 := hZ.2 ka
  have hdB : ∀ i, w0 kb i < 65536 := hZ.2 kb
  obtain ⟨Bv, hBv⟩ : ∃ q, q = rv (w0 kb) 264 := ⟨_, rfl⟩
  obtain ⟨Av, hAv⟩ : ∃ q, q = rv (w0 ka) 264 := ⟨_, rfl⟩
  rw [← hBv, ← hAv] at hend
  rw [← hBv] at hB0 hB1
  have fr : ∀ jx, jx ≠ 7 → jx ≠ 8 → w0 jx = w0 jx := fun jx _ _ => rfl
  refine lv_aload_n hx hb dM_divideRows_0 rfl (lv_at hl 1 rfl) ?_
  refine zcS_i (P' := fun (u : (Nat → Nat → Nat) × zC) H => zMD E B u.1 u.2 H) 1 (As := [.ref (B + ka)]) (rest := []) ⟨hx, hb, hml, hown, ht⟩ (mM_size l E B w0 q0 ka hk_ka 264 hln_ka (by omega)) tw_774 tw_772 tw_773 tw_6 qM_size (by rw [hR]; decide) hZ hK hl.1 rfl rfl (Nat.le_of_ble_eq_true rfl) dM_divideRows_1 ⟨Nat.zero_le _, Nat.zero_le _⟩ hS (fun r9 u H locs hp hZ _ hS => ?_)
  obtain ⟨hu9, na, hr1, hna1, hna2, hna3⟩ := hp
  subst hr1
  subst hu9
  dsimp only at hZ
  refine lv_istore_n (lv' := [(3, .int (iZ (↑na))), (0, .ref (B)), (1, .ref (B + ka)), (2, .ref (B + kb))]) hx hb dM_divideRows_4 rfl hl (by decide) rfl (fun ls hl => ?_)
  refine lv_aload_n hx hb dM_divideRows_5 rfl (lv_at hl 3 rfl) ?_
  refine zcS_i (P' := fun (u : (Nat → Nat → Nat) × zC) H => zMD E B u.1 u.2 H) 1 (As := [.ref (B + kb)]) (rest := []) ⟨hx, hb, hml, hown, ht⟩ (mM_size l E B w0 q0 kb hk_kb 264 hln_kb (by omega)) tw_774 tw_772 tw_773 tw_6 qM_size (by rw [hR]; decide) hZ hK hl.1 rfl rfl (Nat.le_of_ble_eq_true rfl) dM_divideRows_6 ⟨Nat.zero_le _, Nat.zero_le _⟩ hS (fun r9 u H locs hp hZ _ hS => ?_)
  obtain ⟨hu9, nb, hr1, hnb1, hnb2, hnb3⟩ := hp
  subst hr1
  subst hu9
  dsimp only at hZ
  refine lv_istore (lv' := [(4, .int (iZ (↑nb))), (3, .int (iZ (↑na))), (0, .ref (B)), (1, .ref (B + ka)), (2, .ref (B + kb))]) hx hb dM_divideRows_9 hl (by decide) rfl (fun ls hl => ?_)
  have eA : Av = rv (w0 ka) na := by rw [hAv]; exact rv_drop hna1 hna2
  have eB : Bv = rv (w0 kb) nb := by rw [hBv]; exact rv_drop hnb1 hnb2
  have hnb0 : nb ≠ 0 := fun h9 => hB0 (by rw [eB, h9]; rfl)
  have hbt := hnb3 hnb0
  have hBg : rP (nb - 1) ≤ Bv := by have h9 := rv_ge hbt; rw [show nb - 1 + 1 = nb by omega] at h9; rw [eB]; exact h9
  have hBl : Bv < rP nb := by rw [eB]; exact rv_lt hdB nb
  have hnb200 : nb ≤ 200 := by
    rcases Nat.lt_or_ge 200 nb with h9 | h9
    · exact absurd (Nat.lt_of_le_of_lt (Nat.le_trans (rP_mono (show 200 ≤ nb - 1 by omega)) hBg) hB1) (Nat.lt_irrefl _)
    · exact h9
  clear hB1
  refine lv_aload_n hx hb dM_divideRows_11 rfl (lv_at hl 2 rfl) ?_
  refine zm_quotient hx hb ht hown hK hZ tw_688 dM_divideRows_12 ?_
  refine zcS_v (P' := fun (u : (Nat → Nat → Nat) × zC) H => zMD E B u.1 u.2 H) 1 (As := [.ref (B + 8)]) (rest := []) ⟨hx, hb, hml, hown, ht⟩ (mM_clear l E B w0 q0 8 (by decide) 264 rfl (by decide)) tw_768 tw_766 tw_767 tw_6 qM_clear (by rw [hR]; decide) hZ hK hl.1 rfl rfl (Nat.le_of_ble_eq_true rfl) dM_divideRows_15 ⟨Nat.zero_le _, Nat.zero_le _⟩ hS (fun u H locs hp hZ _ hS => ?_)
  obtain ⟨w, q9⟩ := u
  obtain ⟨ho, hq9, hcl8⟩ := hp
  dsimp only at ho hq9 hZ hcl8
  rw [hq9] at hZ
  have fr : ∀ jx, jx ≠ 7 → jx ≠ 8 → w jx = w0 jx := fun jx h0 h1 => (ho jx h1).trans (fr jx h0 h1)
  refine lv_aload_n hx hb dM_divideRows_18 rfl (lv_at hl 2 rfl) ?_
  refine zm_rest hx hb ht hown hK hZ tw_687 dM_divideRows_19 ?_
  refine zcS_v (P' := fun (u : (Nat → Nat → Nat) × zC) H => zMD E B u.1 u.2 H) 1 (As := [.ref (B + 7)]) (rest := []) ⟨hx, hb, hml, hown, ht⟩ (mM_clear l E B w q0 7 (by decide) 264 rfl (by decide)) tw_768 tw_766 tw_767 tw_6 qM_clear (by rw [hR]; decide) hZ hK hl.1 rfl rfl (Nat.le_of_ble_eq_true rfl) dM_divideRows_22 ⟨Nat.zero_le _, Nat.zero_le _⟩ hS (fun u H locs hp hZ _ hS => ?_)
  obtain ⟨w, q9⟩ := u
  obtain ⟨ho, hq9, hcl7⟩ := hp
  dsimp only at ho hq9 hZ hcl7
  rw [hq9] at hZ
  have fr : ∀ jx, jx ≠ 7 → jx ≠ 8 → w jx = w0 jx := fun jx h0 h1 => (ho jx h0).trans (fr jx h0 h1)
  have J41 : ∀ (fm : Nat) (w : Nat → Nat → Nat) (H : Heap) (locs : List Loc) (ls : Array Slot), fm ≤ na → na - fm ≤ nb - 1 → (∀ q, q < 264 → w 7 q = 0) → (∀ q, q < 264 → w 8 q = 0) → (∀ jx, jx ≠ 7 → jx ≠ 8 → w jx = w0 jx) → zMD E B w q0 H → va_S (zA B 15) s.heap H locs → lv_has ls 13 [(0, .ref (B)), (1, .ref (B + ka)), (2, .ref (B + kb)), (3, .int (iZ (↑na))), (4, .int (iZ (↑nb)))] → W p l e R s m args below meth c H locs 0 0 Q (F0 m 41 ls [.int (iZ ↑fm)]) := by
    intro fm w H locs ls hfm3 hfm4 hcl7 hcl8 fr hZ hS hl
    refine lv_istore (lv' := [(5, .int (iZ (↑fm))), (0, .ref (B)), (1, .ref (B + ka)), (2, .ref (B + kb)), (3, .int (iZ (↑na))), (4, .int (iZ (↑nb)))]) hx hb dM_divideRows_41 hl (by decide) rfl (fun ls hl => ?_)
    refine lv_iload hx hb dM_divideRows_43 (lv_at hl 0 rfl) ?_
    refine lv_istore (lv' := [(6, .int (iZ (↑fm))), (5, .int (iZ (↑fm))), (0, .ref (B)), (1, .ref (B + ka)), (2, .ref (B + kb)), (3, .int (iZ (↑na))), (4, .int (iZ (↑nb)))]) hx hb dM_divideRows_45 hl (by decide) rfl (fun ls hl => ?_)
    have L47 : ∀ (fu : Nat) (k : Nat) (w : Nat → Nat → Nat) (H : Heap) (locs : List Loc) (ls : Array Slot), na - k < fu → (fm ≤ k ∧ k ≤ na) → (∀ q, q < 264 → w 7 q = if q < k - fm then w0 ka (fm + q) else 0) → (∀ q, q < 264 → w 8 q = 0) → (∀ jx, jx ≠ 7 → jx ≠ 8 → w jx = w0 jx) → zMD E B w q0 H → va_S (zA B 15) s.heap H locs → lv_has ls 13 [(0, .ref (B)), (1, .ref (B + ka)), (2, .ref (B + kb)), (3, .int (iZ (↑na))), (4, .int (iZ (↑nb))), (5, .int (iZ (↑fm))), (6, .int (iZ (↑k)))] → W p l e R s m args below meth c H locs 0 0 Q (F0 m 47 ls []) := by
      intro fu
      induction fu with
      | zero => intro k w H locs ls hm; exact absurd hm (Nat.not_lt_zero _)
      | succ fu ihL47 =>
        intro k w H locs ls hm hk hr h8 fr hZ hS hl
        refine lv_iload hx hb dM_divideRows_47 (lv_at hl 6 rfl) ?_
        refine lv_iload_n hx hb dM_divideRows_49 rfl (lv_at hl 3 rfl) ?_
        refine zr_icmp_ge (tgt := 73) hx hb (by unfold zi; omega) (by unfold zi; omega) dM_divideRows_50 (by decide) (fun c_1 => ?_) (fun c_1 => ?_)
        · have hkn : k = na := by omega
          rw [hkn] at hr
          obtain ⟨r7, h7⟩ : ∃ q, rv (w 7) 264 = q := ⟨_, rfl⟩
          have hR0 : r7 = Av / rP fm := by
            rw [← h7, eA, show rv (w0 ka) na = rv (w0 ka) (fm + (na - fm)) by congr 1; omega, rv_div hdA, rv_drop (m := na - fm) (by omega) (fun q h1 h2 => by rw [hr q h2, if_neg (by omega)])]
            exact rv_congr fun q hq => by rw [hr q (by omega), if_pos hq]
          have hR1 : r7 < Bv := by
            refine Nat.lt_of_lt_of_le ?_ hBg
            rw [← h7, rv_drop (m := na - fm) (by omega) (fun q h1 h2 => by rw [hr q h2, if_neg (by omega)])]
            exact Nat.lt_of_lt_of_le (rv_lt (hZ.2 7) _) (rP_mono hfm4)
          have hQ0 : rv (w 8) 264 = 0 := by rw [rv_drop (m := 0) (Nat.zero_le _) (fun q _ h => h8 q h)]; rfl
          refine lv_iload hx hb dM_divideRows_73 (lv_at hl 5 rfl) ?_
          refine lv_iconst (v := iZ (1)) hx hb dM_divideRows_75 (by decide) ?_
          refine zr_isub hx hb dM_divideRows_76 ?_
          refine lv_istore (lv' := [(6, .int (iZ (↑fm - 1))), (0, .ref (B)), (1, .ref (B + ka)), (2, .ref (B + kb)), (3, .int (iZ (↑na))), (4, .int (iZ (↑nb))), (5, .int (iZ (↑fm)))]) hx hb dM_divideRows_77 hl (by decide) rfl (fun ls hl => ?_)
          have L79 : ∀ (fu : Nat) (i : Nat) (r7 : Nat) (w : Nat → Nat → Nat) (H : Heap) (locs : List Loc) (ls : Array Slot), i < fu → (i ≤ fm) → (rv (w 7) 264 = r7) → (Av / rP i = rv (w 8) 264 / rP i * Bv + r7) → (r7 < Bv) → (∀ q, q < i → w 8 q = 0) → (∀ jx, jx ≠ 7 → jx ≠ 8 → w jx = w0 jx) → zMD E B w q0 H → va_S (zA B 15) s.heap H locs → lv_has ls 13 [(0, .ref (B)), (1, .ref (B + ka)), (2, .ref (B + kb)), (4, .int (iZ (↑nb))), (6, .int (iZ (↑i - 1)))] → W p l e R s m args below meth c H locs 0 0 Q (F0 m 79 ls []) := by
            intro fu
            induction fu with
            | zero => intro i r7 w H locs ls hm; exact absurd hm (Nat.not_lt_zero _)
            | succ fu ihL79 =>
              intro i r7 w H locs ls hm hi h7 hQ hRl hq0 fr hZ hS hl
              refine lv_iload hx hb dM_divideRows_79 (lv_at hl 4 rfl) ?_
              refine zr_if_lt (tgt := 278) hx hb (by unfold zi; omega) dM_divideRows_81 (by decide) (fun c_2 => ?_) (fun c_2 => ?_)
              · have hi0 : i = 0 := by omega
                rw [hi0, show rP 0 = 1 from rfl, Nat.div_one, Nat.div_one] at hQ
                have hfq : rv (w 8) 264 = Av / Bv := by rw [hQ, Nat.mul_comm, Nat.mul_add_div (by omega), Nat.div_eq_of_lt hRl, Nat.add_zero]
                have hfr : rv (w 7) 264 = Av % Bv := by rw [h7, hQ, Nat.mul_comm, Nat.mul_add_mod, Nat.mod_eq_of_lt hRl]
                exact hend 278 (w, q0) _ _ _ dM_divideRows_278 (⟨fr, rfl, hfq, hfr⟩) hZ hS
              · obtain ⟨k, rfl⟩ : ∃ k, i = k + 1 := ⟨i - 1, by omega⟩
                rw [show ((k + 1 : Nat) : Int) - 1 = (k : Int) by omega] at hl
                obtain ⟨rd, hrd⟩ : ∃ d, d = w 7 := ⟨_, rfl⟩
                obtain ⟨q8, hq8⟩ : ∃ d, d = w 8 := ⟨_, rfl⟩
                have hdr : ∀ i, rd i < 65536 := by rw [hrd]; exact hZ.2 7
                have hdq : ∀ i, q8 i < 65536 := by rw [hq8]; exact hZ.2 8
                rw [← hq8] at hQ hq0
                rw [← hrd] at h7
                have hrz : ∀ q, nb ≤ q → q < 264 → rd q = 0 := fun q h1 h2 => rv_zeros hdr (by rw [h7]; exact Nat.lt_trans hRl hBl) h1 h2
                refine lv_iload hx hb dM_divideRows_84 (lv_at hl 3 rfl) ?_
                refine lv_istore (lv' := [(7, .int (iZ (↑nb))), (0, .ref (B)), (1, .ref (B + ka)), (2, .ref (B + kb)), (4, .int (iZ (↑nb))), (6, .int (iZ (↑k)))]) hx hb dM_divideRows_86 hl (by decide) rfl (fun ls hl => ?_)
                have L88 : ∀ (fu : Nat) (j : Nat) (w : Nat → Nat → Nat) (H : Heap) (locs : List Loc) (ls : Array Slot), j < fu → (j ≤ nb) → (∀ q, j < q → q ≤ nb → w 7 q = rd (q - 1)) → (∀ q, (q ≤ j ∨ nb < q) → w 7 q = rd q) → (w 8 = q8) → (∀ jx, jx ≠ 7 → jx ≠ 8 → w jx = w0 jx) → zMD E B w q0 H → va_S (zA B 15) s.heap H locs → lv_has ls 13 [(0, .ref (B)), (1, .ref (B + ka)), (2, .ref (B + kb)), (4, .int (iZ (↑nb))), (6, .int (iZ (↑k))), (7, .int (iZ (↑j)))] → W p l e R s m args below meth c H locs 0 0 Q (F0 m 88 ls []) := by
                  intro fu
                  induction fu with
                  | zero => intro j w H locs ls hm; exact absurd hm (Nat.not_lt_zero _)
                  | succ fu ihL88 =>
                    intro j w H locs ls hm hj hs1 hs2 hs8 fr hZ hS hl
                    refine lv_iload hx hb dM_divideRows_88 (lv_at hl 5 rfl) ?_
                    refine zr_if_le (tgt := 115) hx hb (by unfold zi; omega) dM_divideRows_90 (by decide) (fun c_3 => ?_) (fun c_3 => ?_)
                    · have hka : w ka k = w0 ka k := by rw [fr ka ha7.1 ha7.2]
                      have hj0 : j = 0 := by omega
                      subst hj0
                      refine lv_aload_n hx hb dM_divideRows_115 rfl (lv_at hl 0 rfl) ?_
                      refine zm_rest hx hb ht hown hK hZ tw_687 dM_divideRows_116 ?_
                      refine lv_iconst (v := iZ (0)) hx hb dM_divideRows_119 (by decide) ?_
                      refine lv_aload_n hx hb dM_divideRows_120 rfl (lv_at hl 1 rfl) ?_
                      refine lv_iload hx hb dM_divideRows_121 (lv_at hl 4 rfl) ?_
                      refine zm_ld (k := ka) (i := k) hx hb hK hZ (by omega) (by rw [hln_ka]; omega) dM_divideRows_123 ?_
                      refine W.eq (g2 := F0 m 124 ls (.int (iZ ((w ka k : Nat) : Int)) :: .int (iZ ((0 : Nat) : Int)) :: .ref (B + 7) :: [])) rfl ?_
                      refine zm_st (k := 7) (i := 0) (x := w ka k) hx hb hK hZ hS (by decide) (by show 0 < 264; omega) (hZ.2 _ _) dM_divideRows_124 (fun H locs hZ hS => ?_)
                      have fr : ∀ jx, jx ≠ 7 → jx ≠ 8 → (mup w 7 0 (w ka k)) jx = w0 jx := fun jx h0 h1 => (mup_ne _ _ _ h0).trans (fr jx h0 h1)
                      obtain ⟨R1, hR1⟩ : ∃ q, q = r7 * 65536 + w0 ka k := ⟨_, rfl⟩
                      have hv7 : rv (mup w 7 0 (w ka k) 7) 264 = R1 := by
                        rw [mup_at, hR1, ← h7]
                        exact dv_shift (nb := nb) (by omega) (by rw [va_up_self, hka]) (fun q h1 h2 => by rw [va_up_ne _ _ (by omega)]; exact hs1 q (by omega) h2) (fun q h1 h2 => by rw [va_up_ne _ _ (by omega), hs2 q (Or.inr h1)]; exact hrz q (by omega) h2) hrz
                      have hv8 : mup w 7 0 (w ka k) 8 = q8 := by rw [mup_ne _ _ _ (by decide)]; exact hs8
                      have hRB : R1 < Bv * 65536 := by have := hdA k; rw [hR1]; omega
                      obtain ⟨hd, hhd⟩ : ∃ q, q = dvh (w0 kb) nb := ⟨_, rfl⟩
                      have J153 : ∀ (w : Nat → Nat → Nat) (H : Heap) (locs : List Loc) (ls : Array Slot), rv (w 7) 264 = R1 → w 8 = q8 → (∀ jx, jx ≠ 7 → jx ≠ 8 → w jx = w0 jx) → zMD E B w q0 H → va_S (zA B 15) s.heap H locs → lv_has ls 13 [(0, .ref (B)), (1, .ref (B + ka)), (2, .ref (B + kb)), (4, .int (iZ (↑nb))), (6, .int (iZ (↑k)))] → W p l e R s m args below meth c H locs 0 0 Q (F0 m 153 ls [.long (lZ ↑hd)]) := by
                        intro w H locs ls hv7 hv8 fr hZ hS hl
                        refine lv_lstore (lv' := [(7, .long (lZ (↑hd))), (0, .ref (B)), (1, .ref (B + ka)), (2, .ref (B + kb)), (4, .int (iZ (↑nb))), (6, .int (iZ (↑k)))]) hx hb dM_divideRows_153 hl (by decide) rfl (fun ls hl => ?_)
                        have L155 : ∀ (fu : Nat) (t : Nat) (r8 : Nat) (w : Nat → Nat → Nat) (H : Heap) (locs : List Loc) (ls : Array Slot), r8 < fu → (rv (w 7) 264 = r8) → (r8 + t * Bv = R1) → (w 8 = va_up q8 k t) → (t < 65536) → (∀ jx, jx ≠ 7 → jx ≠ 8 → w jx = w0 jx) → zMD E B w q0 H → va_S (zA B 15) s.heap H locs → lv_has ls 13 [(0, .ref (B)), (1, .ref (B + ka)), (2, .ref (B + kb)), (4, .int (iZ (↑nb))), (6, .int (iZ (↑k))), (7, .long (lZ (↑hd)))] → W p l e R s m args below meth c H locs 0 0 Q (F0 m 155 ls []) := by
                          intro fu
                          induction fu with
                          | zero => intro t r8 w H locs ls hm; exact absurd hm (Nat.not_lt_zero _)
                          | succ fu ihL155 =>
                            intro t r8 w H locs ls hm h78 hT hw8 ht9 fr hZ hS hl
                            refine lv_aload_n hx hb dM_divideRows_155 rfl (lv_at hl 0 rfl) ?_
                            refine zm_rest hx hb ht hown hK hZ tw_687 dM_divideRows_156 ?_
                            refine lv_aload_n hx hb dM_divideRows_159 rfl (lv_at hl 2 rfl) ?_
                            refine zcS_i (P' := fun (u : (Nat → Nat → Nat) × zC) H => zMD E B u.1 u.2 H) 2 (As := [.ref (B + 7), .ref (B + kb)]) (rest := []) ⟨hx, hb, hml, hown, ht⟩ (mM_compareRows l E B w q0 7 (by decide) kb hk_kb rfl hln_kb) tw_804 tw_802 tw_803 tw_6 qM_compareRows (by rw [hR]; decide) hZ hK hl.1 rfl rfl (Nat.le_of_ble_eq_true rfl) dM_divideRows_160 ⟨Nat.zero_le _, Nat.zero_le _⟩ hS (fun r9 u H locs hp hZ _ hS => ?_)
                            obtain ⟨hu9, hr1⟩ := hp
                            subst hr1
                            rw [hu9] at hZ
                            dsimp only at hZ
                            rw [h78, fr kb hb7.1 hb7.2, ← hBv]
                            refine zr_if_lt (tgt := 272) hx hb (cmp_zi _ _) dM_divideRows_163 (by decide) (fun c_4 => ?_) (fun c_4 => ?_)
                            · have hRn : r8 < Bv := by have h9 := cmp_lt9 (by omega : cmpZ ((r8 : Nat) : Int) ((Bv : Nat) : Int) < 0); omega
                              have hQn : Av / rP k = rv (w 8) 264 / rP k * Bv + r8 := by
                                rw [hw8, dv_quo (by omega) (fun q hq => hq0 q (by omega)) hdq ht9]
                                exact dv_fin (dvn_next hdA hAv (show k < 264 by omega)) hQ hR1 hT
                              refine lv_iinc (v := iZ (↑k - 1)) (lv' := [(6, .int (iZ (↑k - 1))), (0, .ref (B)), (1, .ref (B + ka)), (2, .ref (B + kb)), (4, .int (iZ (↑nb))), (7, .long (lZ (↑hd)))]) hx hb dM_divideRows_272 hl (k := 4) rfl (iZ_dec _ _) (by decide) rfl (fun ls hl => ?_)
                              refine lv_goto (tgt := 79) hx hb dM_divideRows_275 (by decide) ?_
                              exact ihL79 k r8 w _ _ _ (by omega) (by omega) (h78) (hQn) (hRn) (fun q hq => by rw [hw8, va_up_ne _ _ (by omega)]; exact hq0 q (by omega)) fr hZ hS (lv_sub hl [1, 2, 3, 4, 0] rfl)
                            · have hge : Bv ≤ r8 := by have h9 := cmp_ge (by omega : ¬ cmpZ ((r8 : Nat) : Int) ((Bv : Nat) : Int) < 0); omega
                              have hd7 : ∀ i, w 7 i < 65536 := hZ.2 7
                              obtain ⟨tp, htp⟩ : ∃ q, q = dvt (w 7) nb := ⟨_, rfl⟩
                              obtain ⟨hb1, hb2, hb3, hb4⟩ := dv_bd (r := w 7) hd7 hdB hbt
                              rw [← htp, ← hhd] at hb4
                              rw [← htp] at hb1
                              rw [← hhd] at hb2 hb3
                              have l0 := hd7 nb
                              have l1 := hd7 (nb - 1)
                              have l2 := hd7 (nb - 2)
                              refine lv_aload_n hx hb dM_divideRows_166 rfl (lv_at hl 0 rfl) ?_
                              refine zm_rest hx hb ht hown hK hZ tw_687 dM_divideRows_167 ?_
                              refine lv_iload hx hb dM_divideRows_170 (lv_at hl 3 rfl) ?_
                              refine zm_ld (k := 7) (i := nb) hx hb hK hZ (by decide) (by show nb < 264; omega) dM_divideRows_172 ?_
                              refine zr_i2l hx hb (by unfold zi; omega) dM_divideRows_173 ?_
                              refine lv_bipush (v := iZ (16)) hx hb dM_divideRows_174 (by decide) ?_
                              refine zr_lshl (n := 16) (P := 65536) hx hb (Nat.le_of_ble_eq_true rfl) (p2_16) dM_divideRows_176 ?_
                              refine lv_aload_n hx hb dM_divideRows_177 rfl (lv_at hl 0 rfl) ?_
                              refine zm_rest hx hb ht hown hK hZ tw_687 dM_divideRows_178 ?_
                              refine lv_iload hx hb dM_divideRows_181 (lv_at hl 3 rfl) ?_
                              refine lv_iconst (v := iZ (1)) hx hb dM_divideRows_183 (by decide) ?_
                              refine zr_isub hx hb dM_divideRows_184 ?_
                              rw [show (↑nb - 1 : Int) = ((nb - 1 : Nat) : Int) by omega]
                              refine zm_ld (k := 7) (i := nb - 1) hx hb hK hZ (by decide) (by show nb - 1 < 264; omega) dM_divideRows_185 ?_
                              refine zr_i2l hx hb (by unfold zi; omega) dM_divideRows_186 ?_
                              refine zr_lor (n := 16) (P := 65536) hx hb p2_16 (by omega) (by omega) (by omega) (by omega) dM_divideRows_187 ?_
                              refine lv_bipush (v := iZ (16)) hx hb dM_divideRows_188 (by decide) ?_
                              refine zr_lshl (n := 16) (P := 65536) hx hb (Nat.le_of_ble_eq_true rfl) (p2_16) dM_divideRows_190 ?_
                              have J212 : ∀ (ls : Array Slot), lv_has ls 13 [(0, .ref (B)), (1, .ref (B + ka)), (2, .ref (B + kb)), (4, .int (iZ (↑nb))), (6, .int (iZ (↑k))), (7, .long (lZ (↑hd)))] → W p l e R s m args below meth c H locs 0 0 Q (F0 m 212 ls [.long (lZ ↑tp)]) := by
                                intro ls hl
                                refine lv_lstore (lv' := [(9, .long (lZ (↑tp))), (0, .ref (B)), (1, .ref (B + ka)), (2, .ref (B + kb)), (4, .int (iZ (↑nb))), (6, .int (iZ (↑k))), (7, .long (lZ (↑hd)))]) hx hb dM_divideRows_212 hl (by decide) rfl (fun ls hl => ?_)
                                refine lv_lload hx hb dM_divideRows_214 (lv_at hl 0 rfl) ?_
                                refine lv_lload hx hb dM_divideRows_216 (lv_at hl 6 rfl) ?_
                                refine lv_lconst (v := lZ (1)) hx hb dM_divideRows_218 (by decide) ?_
                                refine zr_ladd hx hb dM_divideRows_219 ?_
                                refine zr_ldiv hx hb (by unfold zl; omega) (by unfold zl; omega) (by omega) (by omega) dM_divideRows_220 ?_
                                refine zc_l (y := lZ (((tp / (hd + 1) : Nat) : Int))) (congrArg lZ (by rw [Int.natCast_ediv]; rfl)) ?_
                                obtain ⟨s0, hs0⟩ : ∃ q, q = tp / (hd + 1) := ⟨_, rfl⟩
                                rw [← hs0] at hb4 ⊢
                                refine lv_lstore (lv' := [(11, .long (lZ (↑s0))), (9, .long (lZ (↑tp))), (0, .ref (B)), (1, .ref (B + ka)), (2, .ref (B + kb)), (4, .int (iZ (↑nb))), (6, .int (iZ (↑k))), (7, .long (lZ (↑hd)))]) hx hb dM_divideRows_221 hl (by decide) rfl (fun ls hl => ?_)
                                refine lv_lload hx hb dM_divideRows_223 (lv_at hl 0 rfl) ?_
                                refine lv_lconst (v := lZ (1)) hx hb dM_divideRows_225 (by decide) ?_
                                refine zr_lcmp_ge (tgt := 234) hx hb (by unfold zl; omega) (by unfold zl; omega) dM_divideRows_226 dM_divideRows_227 (by decide) (fun c_5 => ?_) (fun c_5 => ?_)
                                · refine lv_lload hx hb dM_divideRows_234 (lv_at hl 0 rfl) ?_
                                  obtain ⟨sm, hsm⟩ : ∃ q : Nat, q = if s0 < 1 then 1 else s0 := ⟨_, rfl⟩
                                  refine zc_l (y := lZ ↑sm) (congrArg lZ (by rw [hsm]; rw [if_neg (by omega)])) ?_
                                  have hsm1 : 1 ≤ sm ∧ sm ≤ 4294967296 := by rw [hsm]; split <;> omega
                                  have hsmB : sm * Bv ≤ r8 := by
                                    rw [hsm]
                                    split
                                    · rw [Nat.one_mul]; exact hge
                                    · rw [hBv, ← h78]; exact dv_ok hdB (by omega) (show nb + 1 ≤ 264 by omega) hnb2 (by rw [← hhd, ← htp, hs0]; exact Nat.div_mul_le_self _ _)
                                  have hdg := dv_dig hT hsmB hRB
                                  have hless : r8 - sm * Bv < fu := by have h9 : 1 * Bv ≤ sm * Bv := Nat.mul_le_mul_right _ hsm1.1; omega
                                  refine lv_lstore (lv' := [(11, .long (lZ (↑sm))), (9, .long (lZ (↑tp))), (0, .ref (B)), (1, .ref (B + ka)), (2, .ref (B + kb)), (4, .int (iZ (↑nb))), (6, .int (iZ (↑k))), (7, .long (lZ (↑hd)))]) hx hb dM_divideRows_236 hl (by decide) rfl (fun ls hl => ?_)
                                  refine lv_aload_n hx hb dM_divideRows_238 rfl (lv_at hl 2 rfl) ?_
                                  refine zm_rest hx hb ht hown hK hZ tw_687 dM_divideRows_239 ?_
                                  refine lv_aload_n hx hb dM_divideRows_242 rfl (lv_at hl 4 rfl) ?_
                                  refine lv_iload hx hb dM_divideRows_243 (lv_at hl 5 rfl) ?_
                                  refine lv_lload hx hb dM_divideRows_245 (lv_at hl 0 rfl) ?_
                                  refine lv_iconst (v := iZ (1)) hx hb dM_divideRows_247 (by decide) ?_
                                  refine W.eq (g2 := F0 m 248 ls (.int (iZ (bZ true)) :: .long (lZ ((sm : Nat) : Int)) :: .int (iZ ((nb : Nat) : Int)) :: .ref (B + kb) :: .ref (B + 7) :: [])) rfl ?_
                                  refine zcS_v (P' := fun (u : (Nat → Nat → Nat) × zC) H => zMD E B u.1 u.2 H) 5 (As := [.ref (B + 7), .ref (B + kb), .int (iZ ((nb : Nat) : Int)), .long (lZ ((sm : Nat) : Int)), .int (iZ (bZ true))]) (rest := []) ⟨hx, hb, hml, hown, ht⟩ (mM_join l E B w q0 7 (by decide) kb hk_kb rfl hln_kb hb7.1 nb (by omega) sm (hsm1.2) true (fun q h1 h2 => by rw [fr kb hb7.1 hb7.2]; exact hnb2 q h1 h2) (by rw [if_pos rfl, fr kb hb7.1 hb7.2, Int.neg_mul, h78, ← hBv, ← Int.natCast_mul]; omega) (by rw [if_pos rfl, fr kb hb7.1 hb7.2, Int.neg_mul, h78, ← hBv, ← Int.natCast_mul]; have h9 := rv_lt hd7 264; rw [h78] at h9; omega)) tw_801 tw_799 tw_800 tw_6 qM_join (by rw [hR]; decide) hZ hK hl.1 rfl rfl (Nat.le_of_ble_eq_true rfl) dM_divideRows_248 ⟨Nat.zero_le _, Nat.zero_le _⟩ hS (fun u H locs hp hZ _ hS => ?_)
                                  obtain ⟨w, q9⟩ := u
                                  obtain ⟨ho, hq9, hjn⟩ := hp
                                  dsimp only at ho hq9 hZ hjn
                                  rw [hq9] at hZ
                                  rw [if_pos rfl] at hjn
                                  rw [fr kb hb7.1 hb7.2, Int.neg_mul, h78, ← hBv, ← Int.natCast_mul] at hjn
                                  have hjr : rv (w 7) 264 = r8 - sm * Bv := by omega
                                  have hw8n : w 8 = va_up q8 k t := by rw [ho 8 (by decide)]; exact hw8
                                  have fr : ∀ jx, jx ≠ 7 → jx ≠ 8 → w jx = w0 jx := fun jx h0 h1 => (ho jx h0).trans (fr jx h0 h1)
                                  refine lv_aload_n hx hb dM_divideRows_251 rfl (lv_at hl 2 rfl) ?_
                                  refine zm_quotient hx hb ht hown hK hZ tw_688 dM_divideRows_252 ?_
                                  refine lv_iload hx hb dM_divideRows_255 (lv_at hl 6 rfl) ?_
                                  refine lv_aload_n hx hb dM_divideRows_257 rfl (lv_at hl 2 rfl) ?_
                                  refine zm_quotient hx hb ht hown hK hZ tw_688 dM_divideRows_258 ?_
                                  refine lv_iload hx hb dM_divideRows_261 (lv_at hl 6 rfl) ?_
                                  refine zm_ld (k := 8) (i := k) hx hb hK hZ (by decide) (by show k < 264; omega) dM_divideRows_263 ?_
                                  rw [hw8n, va_up_self]
                                  refine lv_lload hx hb dM_divideRows_264 (lv_at hl 0 rfl) ?_
                                  refine zr_l2i hx hb dM_divideRows_266 ?_
                                  refine zr_iadd hx hb dM_divideRows_267 ?_
                                  rw [show (((t : Nat) : Int) + ↑sm : Int) = ((t + sm : Nat) : Int) from by omega]
                                  refine zm_st (k := 8) (i := k) (x := t + sm) hx hb hK hZ hS (by decide) (by show k < 264; omega) (hdg.1) dM_divideRows_268 (fun H locs hZ hS => ?_)
                                  have fr : ∀ jx, jx ≠ 7 → jx ≠ 8 → (mup w 8 k (t + sm)) jx = w0 jx := fun jx h0 h1 => (mup_ne _ _ _ h1).trans (fr jx h0 h1)
                                  refine lv_goto (tgt := 155) hx hb dM_divideRows_269 (by decide) ?_
                                  exact ihL155 (t + sm) (r8 - sm * Bv) (mup w 8 k (t + sm)) _ _ _ (hless) (by rw [mup_ne _ _ _ (by decide)]; exact hjr) (hdg.2) (by rw [mup_at, hw8n, up_up]) (hdg.1) fr hZ hS (lv_sub hl [2, 3, 4, 5, 6, 7] rfl)
                                · refine lv_lconst (v := lZ (1)) hx hb dM_divideRows_230 (by decide) ?_
                                  refine lv_goto (tgt := 236) hx hb dM_divideRows_231 (by decide) ?_
                                  obtain ⟨sm, hsm⟩ : ∃ q : Nat, q = if s0 < 1 then 1 else s0 := ⟨_, rfl⟩
                                  refine zc_l (y := lZ ↑sm) (congrArg lZ (by rw [hsm]; rw [if_pos (by omega)]; rfl)) ?_
                                  have hsm1 : 1 ≤ sm ∧ sm ≤ 4294967296 := by rw [hsm]; split <;> omega
                                  have hsmB : sm * Bv ≤ r8 := by
                                    rw [hsm]
                                    split
                                    · rw [Nat.one_mul]; exact hge
                                    · rw [hBv, ← h78]; exact dv_ok hdB (by omega) (show nb + 1 ≤ 264 by omega) hnb2 (by rw [← hhd, ← htp, hs0]; exact Nat.div_mul_le_self _ _)
                                  have hdg := dv_dig hT hsmB hRB
                                  have hless : r8 - sm * Bv < fu := by have h9 : 1 * Bv ≤ sm * Bv := Nat.mul_le_mul_right _ hsm1.1; omega
                                  refine lv_lstore (lv' := [(11, .long (lZ (↑sm))), (9, .long (lZ (↑tp))), (0, .ref (B)), (1, .ref (B + ka)), (2, .ref (B + kb)), (4, .int (iZ (↑nb))), (6, .int (iZ (↑k))), (7, .long (lZ (↑hd)))]) hx hb dM_divideRows_236 hl (by decide) rfl (fun ls hl => ?_)
                                  refine lv_aload_n hx hb dM_divideRows_238 rfl (lv_at hl 2 rfl) ?_
                                  refine zm_rest hx hb ht hown hK hZ tw_687 dM_divideRows_239 ?_
                                  refine lv_aload_n hx hb dM_divideRows_242 rfl (lv_at hl 4 rfl) ?_
                                  refine lv_iload hx hb dM_divideRows_243 (lv_at hl 5 rfl) ?_
                                  refine lv_lload hx hb dM_divideRows_245 (lv_at hl 0 rfl) ?_
                                  refine lv_iconst (v := iZ (1)) hx hb dM_divideRows_247 (by decide) ?_
                                  refine W.eq (g2 := F0 m 248 ls (.int (iZ (bZ true)) :: .long (lZ ((sm : Nat) : Int)) :: .int (iZ ((nb : Nat) : Int)) :: .ref (B + kb) :: .ref (B + 7) :: [])) rfl ?_
                                  refine zcS_v (P' := fun (u : (Nat → Nat → Nat) × zC) H => zMD E B u.1 u.2 H) 5 (As := [.ref (B + 7), .ref (B + kb), .int (iZ ((nb : Nat) : Int)), .long (lZ ((sm : Nat) : Int)), .int (iZ (bZ true))]) (rest := []) ⟨hx, hb, hml, hown, ht⟩ (mM_join l E B w q0 7 (by decide) kb hk_kb rfl hln_kb hb7.1 nb (by omega) sm (hsm1.2) true (fun q h1 h2 => by rw [fr kb hb7.1 hb7.2]; exact hnb2 q h1 h2) (by rw [if_pos rfl, fr kb hb7.1 hb7.2, Int.neg_mul, h78, ← hBv, ← Int.natCast_mul]; omega) (by rw [if_pos rfl, fr kb hb7.1 hb7.2, Int.neg_mul, h78, ← hBv, ← Int.natCast_mul]; have h9 := rv_lt hd7 264; rw [h78] at h9; omega)) tw_801 tw_799 tw_800 tw_6 qM_join (by rw [hR]; decide) hZ hK hl.1 rfl rfl (Nat.le_of_ble_eq_true rfl) dM_divideRows_248 ⟨Nat.zero_le _, Nat.zero_le _⟩ hS (fun u H locs hp hZ _ hS => ?_)
                                  obtain ⟨w, q9⟩ := u
                                  obtain ⟨ho, hq9, hjn⟩ := hp
                                  dsimp only at ho hq9 hZ hjn
                                  rw [hq9] at hZ
                                  rw [if_pos rfl] at hjn
                                  rw [fr kb hb7.1 hb7.2, Int.neg_mul, h78, ← hBv, ← Int.natCast_mul] at hjn
                                  have hjr : rv (w 7) 264 = r8 - sm * Bv := by omega
                                  have hw8n : w 8 = va_up q8 k t := by rw [ho 8 (by decide)]; exact hw8
                                  have fr : ∀ jx, jx ≠ 7 → jx ≠ 8 → w jx = w0 jx := fun jx h0 h1 => (ho jx h0).trans (fr jx h0 h1)
                                  refine lv_aload_n hx hb dM_divideRows_251 rfl (lv_at hl 2 rfl) ?_
                                  refine zm_quotient hx hb ht hown hK hZ tw_688 dM_divideRows_252 ?_
                                  refine lv_iload hx hb dM_divideRows_255 (lv_at hl 6 rfl) ?_
                                  refine lv_aload_n hx hb dM_divideRows_257 rfl (lv_at hl 2 rfl) ?_
                                  refine zm_quotient hx hb ht hown hK hZ tw_688 dM_divideRows_258 ?_
                                  refine lv_iload hx hb dM_divideRows_261 (lv_at hl 6 rfl) ?_
                                  refine zm_ld (k := 8) (i := k) hx hb hK hZ (by decide) (by show k < 264; omega) dM_divideRows_263 ?_
                                  rw [hw8n, va_up_self]
                                  refine lv_lload hx hb dM_divideRows_264 (lv_at hl 0 rfl) ?_
                                  refine zr_l2i hx hb dM_divideRows_266 ?_
                                  refine zr_iadd hx hb dM_divideRows_267 ?_
                                  rw [show (((t : Nat) : Int) + ↑sm : Int) = ((t + sm : Nat) : Int) from by omega]
                                  refine zm_st (k := 8) (i := k) (x := t + sm) hx hb hK hZ hS (by decide) (by show k < 264; omega) (hdg.1) dM_divideRows_268 (fun H locs hZ hS => ?_)
                                  have fr : ∀ jx, jx ≠ 7 → jx ≠ 8 → (mup w 8 k (t + sm)) jx = w0 jx := fun jx h0 h1 => (mup_ne _ _ _ h1).trans (fr jx h0 h1)
                                  refine lv_goto (tgt := 155) hx hb dM_divideRows_269 (by decide) ?_
                                  exact ihL155 (t + sm) (r8 - sm * Bv) (mup w 8 k (t + sm)) _ _ _ (hless) (by rw [mup_ne _ _ _ (by decide)]; exact hjr) (hdg.2) (by rw [mup_at, hw8n, up_up]) (hdg.1) fr hZ hS (lv_sub hl [2, 3, 4, 5, 6, 7] rfl)
                              refine lv_iload hx hb dM_divideRows_191 (lv_at hl 3 rfl) ?_
                              refine lv_iconst (v := iZ (1)) hx hb dM_divideRows_193 (by decide) ?_
                              refine zr_icmp_le (tgt := 209) hx hb (by unfold zi; omega) (by unfold zi; omega) dM_divideRows_194 (by decide) (fun c_6 => ?_) (fun c_6 => ?_)
                              · refine lv_iconst (v := iZ (0)) hx hb dM_divideRows_209 (by decide) ?_
                                refine zr_i2l hx hb (by unfold zi; omega) dM_divideRows_210 ?_
                                refine zr_lor (n := 16) (P := 65536) hx hb p2_16 (by omega) (by omega) (by omega) (by omega) dM_divideRows_211 ?_
                                refine zc_l (y := lZ ↑tp) (congrArg lZ (by rw [htp]; unfold dvt; rw [if_neg (by omega)]; omega)) ?_
                                exact J212 _ (lv_sub hl [0, 1, 2, 3, 4, 5] rfl)
                              · refine lv_aload_n hx hb dM_divideRows_197 rfl (lv_at hl 0 rfl) ?_
                                refine zm_rest hx hb ht hown hK hZ tw_687 dM_divideRows_198 ?_
                                refine lv_iload hx hb dM_divideRows_201 (lv_at hl 3 rfl) ?_
                                refine lv_iconst (v := iZ (2)) hx hb dM_divideRows_203 (by decide) ?_
                                refine zr_isub hx hb dM_divideRows_204 ?_
                                rw [show (↑nb - 2 : Int) = ((nb - 2 : Nat) : Int) by omega]
                                refine zm_ld (k := 7) (i := nb - 2) hx hb hK hZ (by decide) (by show nb - 2 < 264; omega) dM_divideRows_205 ?_
                                refine lv_goto (tgt := 210) hx hb dM_divideRows_206 (by decide) ?_
                                refine zr_i2l hx hb (by unfold zi; omega) dM_divideRows_210 ?_
                                refine zr_lor (n := 16) (P := 65536) hx hb p2_16 (by omega) (by omega) (by omega) (by omega) dM_divideRows_211 ?_
                                refine zc_l (y := lZ ↑tp) (congrArg lZ (by rw [htp]; unfold dvt; rw [if_pos (by omega)]; omega)) ?_
                                exact J212 _ (lv_sub hl [0, 1, 2, 3, 4, 5] rfl)
                        exact L155 _ 0 R1 w _ _ _ (Nat.lt_succ_self _) (hv7) (by rw [Nat.zero_mul, Nat.add_zero]) (by rw [hv8]; exact (up_id _ _ (hq0 k (by omega))).symm) (by decide) fr hZ hS (lv_sub hl [1, 2, 3, 4, 5, 0] rfl)
                      refine lv_aload_n hx hb dM_divideRows_125 rfl (lv_at hl 2 rfl) ?_
                      refine lv_iload hx hb dM_divideRows_126 (lv_at hl 3 rfl) ?_
                      refine lv_iconst (v := iZ (1)) hx hb dM_divideRows_128 (by decide) ?_
                      refine zr_isub hx hb dM_divideRows_129 ?_
                      rw [show (↑nb - 1 : Int) = ((nb - 1 : Nat) : Int) by omega]
                      refine zm_ld (k := kb) (i := nb - 1) hx hb hK hZ (by omega) (by omega) dM_divideRows_130 ?_
                      rw [fr kb hb7.1 hb7.2]
                      have hlb_1 := hdB (nb - 1)
                      refine zr_i2l hx hb (by unfold zi; omega) dM_divideRows_131 ?_
                      refine lv_bipush (v := iZ (16)) hx hb dM_divideRows_132 (by decide) ?_
                      refine zr_lshl (n := 16) (P := 65536) hx hb (Nat.le_of_ble_eq_true rfl) (p2_16) dM_divideRows_134 ?_
                      refine lv_iload hx hb dM_divideRows_135 (lv_at hl 3 rfl) ?_
                      refine lv_iconst (v := iZ (1)) hx hb dM_divideRows_137 (by decide) ?_
                      refine zr_icmp_le (tgt := 150) hx hb (by unfold zi; omega) (by unfold zi; omega) dM_divideRows_138 (by decide) (fun c_7 => ?_) (fun c_7 => ?_)
                      · refine lv_iconst (v := iZ (0)) hx hb dM_divideRows_150 (by decide) ?_
                        refine zr_i2l hx hb (by unfold zi; omega) dM_divideRows_151 ?_
                        refine zr_lor (n := 16) (P := 65536) hx hb p2_16 (by omega) (by omega) (by omega) (by omega) dM_divideRows_152 ?_
                        refine zc_l (y := lZ ↑hd) (congrArg lZ (by rw [hhd]; unfold dvh; rw [if_neg (by omega)]; omega)) ?_
                        exact J153 (mup w 7 0 (w ka k)) _ _ _ hv7 hv8 fr hZ hS (lv_sub hl [0, 1, 2, 3, 4] rfl)
                      · refine lv_aload_n hx hb dM_divideRows_141 rfl (lv_at hl 2 rfl) ?_
                        refine lv_iload hx hb dM_divideRows_142 (lv_at hl 3 rfl) ?_
                        refine lv_iconst (v := iZ (2)) hx hb dM_divideRows_144 (by decide) ?_
                        refine zr_isub hx hb dM_divideRows_145 ?_
                        rw [show (↑nb - 2 : Int) = ((nb - 2 : Nat) : Int) by omega]
                        refine zm_ld (k := kb) (i := nb - 2) hx hb hK hZ (by omega) (by omega) dM_divideRows_146 ?_
                        rw [fr kb hb7.1 hb7.2]
                        have hlb_2 := hdB (nb - 2)
                        refine lv_goto (tgt := 151) hx hb dM_divideRows_147 (by decide) ?_
                        refine zr_i2l hx hb (by unfold zi; omega) dM_divideRows_151 ?_
                        refine zr_lor (n := 16) (P := 65536) hx hb p2_16 (by omega) (by omega) (by omega) (by omega) dM_divideRows_152 ?_
                        refine zc_l (y := lZ ↑hd) (congrArg lZ (by rw [hhd]; unfold dvh; rw [if_pos (by omega)]; omega)) ?_
                        exact J153 (mup w 7 0 (w ka k)) _ _ _ hv7 hv8 fr hZ hS (lv_sub hl [0, 1, 2, 3, 4] rfl)
                    · refine lv_aload_n hx hb dM_divideRows_93 rfl (lv_at hl 0 rfl) ?_
                      refine zm_rest hx hb ht hown hK hZ tw_687 dM_divideRows_94 ?_
                      refine lv_iload hx hb dM_divideRows_97 (lv_at hl 5 rfl) ?_
                      refine lv_aload_n hx hb dM_divideRows_99 rfl (lv_at hl 0 rfl) ?_
                      refine zm_rest hx hb ht hown hK hZ tw_687 dM_divideRows_100 ?_
                      refine lv_iload hx hb dM_divideRows_103 (lv_at hl 5 rfl) ?_
                      refine lv_iconst (v := iZ (1)) hx hb dM_divideRows_105 (by decide) ?_
                      refine zr_isub hx hb dM_divideRows_106 ?_
                      rw [show (↑j - 1 : Int) = ((j - 1 : Nat) : Int) by omega]
                      refine zm_ld (k := 7) (i := j - 1) hx hb hK hZ (by decide) (by show j - 1 < 264; omega) dM_divideRows_107 ?_
                      refine zm_st (k := 7) (i := j) (x := w 7 (j - 1)) hx hb hK hZ hS (by decide) (by show j < 264; omega) (hZ.2 _ _) dM_divideRows_108 (fun H locs hZ hS => ?_)
                      have fr : ∀ jx, jx ≠ 7 → jx ≠ 8 → (mup w 7 j (w 7 (j - 1))) jx = w0 jx := fun jx h0 h1 => (mup_ne _ _ _ h0).trans (fr jx h0 h1)
                      refine lv_iinc (v := iZ (↑j - 1)) (lv' := [(7, .int (iZ (↑j - 1))), (0, .ref (B)), (1, .ref (B + ka)), (2, .ref (B + kb)), (4, .int (iZ (↑nb))), (6, .int (iZ (↑k)))]) hx hb dM_divideRows_109 hl (k := 5) rfl (iZ_dec _ _) (by decide) rfl (fun ls hl => ?_)
                      refine lv_goto (tgt := 88) hx hb dM_divideRows_112 (by decide) ?_
                      rw [show (↑j - 1 : Int) = ↑(j - 1) from by omega] at hl
                      exact ihL88 (j - 1) (mup w 7 j (w 7 (j - 1))) _ _ _ (by omega) (by omega) (fun q h1 h2 => by rw [mup_at]; by_cases h9 : q = j; rw [h9, va_up_self]; exact hs2 (j - 1) (by omega); rw [va_up_ne _ _ h9]; exact hs1 q (by omega) h2) (fun q h1 => by rw [mup_at, va_up_ne _ _ (by omega)]; exact hs2 q (by omega)) (by rw [mup_ne _ _ _ (by decide)]; exact hs8) fr hZ hS (lv_sub hl [1, 2, 3, 4, 5, 0] rfl)
                exact L88 _ nb w _ _ _ (Nat.lt_succ_self _) (Nat.le_refl _) (fun q h1 h2 => absurd h1 (by omega)) (fun q _ => by rw [hrd]) (hq8.symm) fr hZ hS (lv_sub hl [1, 2, 3, 4, 5, 0] rfl)
          exact L79 _ fm r7 w _ _ _ (Nat.lt_succ_self _) (Nat.le_refl _) (h7) (by rw [hQ0, Nat.zero_div, Nat.zero_mul, Nat.zero_add, hR0]) (hR1) (fun q hq => h8 q (by omega)) fr hZ hS (lv_sub hl [1, 2, 3, 5, 0] rfl)
        · refine lv_aload_n hx hb dM_divideRows_53 rfl (lv_at hl 0 rfl) ?_
          refine zm_rest hx hb ht hown hK hZ tw_687 dM_divideRows_54 ?_
          refine lv_iload hx hb dM_divideRows_57 (lv_at hl 6 rfl) ?_
          refine lv_iload hx hb dM_divideRows_59 (lv_at hl 5 rfl) ?_
          refine zr_isub hx hb dM_divideRows_61 ?_
          refine lv_aload_n hx hb dM_divideRows_62 rfl (lv_at hl 1 rfl) ?_
          refine lv_iload hx hb dM_divideRows_63 (lv_at hl 6 rfl) ?_
          refine zm_ld (k := ka) (i := k) hx hb hK hZ (by omega) (by omega) dM_divideRows_65 ?_
          have hka : w ka k = w0 ka k := by rw [fr ka ha7.1 ha7.2]
          rw [show (↑k - ↑fm : Int) = ((k - fm : Nat) : Int) by omega]
          refine zm_st (k := 7) (i := k - fm) (x := w ka k) hx hb hK hZ hS (by decide) (by show k - fm < 264; omega) (hZ.2 _ _) dM_divideRows_66 (fun H locs hZ hS => ?_)
          have fr : ∀ jx, jx ≠ 7 → jx ≠ 8 → (mup w 7 (k - fm) (w ka k)) jx = w0 jx := fun jx h0 h1 => (mup_ne _ _ _ h0).trans (fr jx h0 h1)
          refine lv_iinc (v := iZ (↑k + 1)) (lv' := [(6, .int (iZ (↑k + 1))), (0, .ref (B)), (1, .ref (B + ka)), (2, .ref (B + kb)), (3, .int (iZ (↑na))), (4, .int (iZ (↑nb))), (5, .int (iZ (↑fm)))]) hx hb dM_divideRows_67 hl (k := 6) rfl (iZ_add _ _) (by decide) rfl (fun ls hl => ?_)
          refine lv_goto (tgt := 47) hx hb dM_divideRows_70 (by decide) ?_
          rw [show (↑k + 1 : Int) = ↑(k + 1) from by omega] at hl
          exact ihL47 (k + 1) (mup w 7 (k - fm) (w ka k)) _ _ _ (by omega) (⟨by omega, by omega⟩) (fun q hq => by rw [mup_at]; by_cases h9 : q = k - fm; rw [h9, va_up_self, if_pos (by omega), hka, show fm + (k - fm) = k by omega]; rw [va_up_ne _ _ h9, hr q hq]; by_cases h7 : q < k - fm; rw [if_pos h7, if_pos (by omega)]; rw [if_neg h7, if_neg (by omega)]) (fun q hq => by rw [mup_ne _ _ _ (by decide)]; exact h8 q hq) fr hZ hS (lv_sub hl [1, 2, 3, 4, 5, 6, 0] rfl)
    exact L47 _ fm w _ _ _ (Nat.lt_succ_self _) (⟨Nat.le_refl _, hfm3⟩) (fun q hq => by rw [if_neg (by omega)]; exact hcl7 q hq) (hcl8) fr hZ hS (lv_sub hl [2, 3, 4, 5, 6, 1, 0] rfl)
  refine lv_iload_n hx hb dM_divideRows_25 rfl (lv_at hl 1 rfl) ?_
  refine lv_iload hx hb dM_divideRows_26 (lv_at hl 0 rfl) ?_
  refine zr_icmp_ge (tgt := 35) hx hb (by unfold zi; omega) (by unfold zi; omega) dM_divideRows_28 (by decide) (fun c_8 => ?_) (fun c_8 => ?_)
  · refine lv_iload_n hx hb dM_divideRows_35 rfl (lv_at hl 1 rfl) ?_
    refine lv_iload hx hb dM_divideRows_36 (lv_at hl 0 rfl) ?_
    refine zr_isub hx hb dM_divideRows_38 ?_
    refine lv_iconst (v := iZ (1)) hx hb dM_divideRows_39 (by decide) ?_
    refine zr_iadd hx hb dM_divideRows_40 ?_
    refine zc_i (y := iZ ((na - nb + 1 : Nat) : Int)) (congrArg iZ (by omega)) ?_
    exact J41 (na - nb + 1) w _ _ _ (by omega) (by omega) hcl7 (fun q hq => by rw [ho 8 (by decide)]; exact hcl8 q hq) fr hZ hS (lv_sub hl [2, 3, 4, 1, 0] rfl)
  · refine lv_iconst (v := iZ (0)) hx hb dM_divideRows_31 (by decide) ?_
    refine lv_goto (tgt := 41) hx hb dM_divideRows_32 (by decide) ?_
    refine zc_i (y := iZ ((0 : Nat) : Int)) (congrArg iZ (by omega)) ?_
    exact J41 0 w _ _ _ (by omega) (by omega) hcl7 (fun q hq => by rw [ho 8 (by decide)]; exact hcl8 q hq) fr hZ hS (lv_sub hl [2, 3, 4, 1, 0] rfl)
