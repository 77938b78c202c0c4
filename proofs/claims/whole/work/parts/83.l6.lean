theorem lw_str {args : Array Value} {s : State} {own tx : String} {k : Nat} (h : (Cond.stringRef own k tx).before args s = true) : ∃ sa, vk_R own k tx sa s := by
  have hcur : ∃ cur, s.vm.findClass own = some cur := by
    have h1 := h
    simp only [Cond.before, Cond.holds, Cond.value] at h1
    cases hc : s.vm.findClass own with
    | none => simp [hc] at h1
    | some cur => exact ⟨cur, rfl⟩
  obtain ⟨cur, hcur⟩ := hcur
  obtain ⟨-, -, -, sa, -, -, -, -, -, hev⟩ := Cond.stringRef_spec hcur h
  exact ⟨sa, vk_R.of (A := args) h hev⟩
theorem lw_AO {args : Array Value} {s : State} (hts : ∀ w ∈ lw_tbl, w.before args s = true) : va_AO "WholeDesk$Whole" s := va_AO.of (hts (.arrayOver (.object "WholeDesk$Whole")) (by decide +kernel))
theorem lw_world {args : Array Value} {s : State} (hts : ∀ w ∈ lw_tbl, w.before args s = true) : ∃ E : zE, zK E s := by
  have ht : ∀ w ∈ zt, w.before args s = true := fun w h => hts w (zt_tbl w h)
  obtain ⟨c0, o0, k0⟩ := u_known (C := "WholeDesk$Whole") (T := TW) (N := 3) ht inW (ht _ tw_26)
  obtain ⟨c1, o1, k1⟩ := u_known (C := "WholeDesk$Reckoner") (T := TK) (N := 9) ht inK (ht _ tw_52)
  obtain ⟨c2, o2, k2⟩ := u_known (C := "WholeDesk$Draft") (T := TD) (N := 3) ht inD (ht _ tw_90)
  obtain ⟨c3, o3, k3⟩ := u_known (C := "WholeDesk$Writing") (T := TG) (N := 3) ht inG (ht _ tw_110)
  obtain ⟨c4, o4, k4⟩ := u_known (C := "WholeDesk") (T := TS) (N := 4) ht inS (ht _ tw_17)
  obtain ⟨c5, o5, k5⟩ := u_known (C := "WholeDeskModel") (T := TM) (N := 21) ht inM (ht _ tw_672)
  obtain ⟨al, kl, pl, l1, l2, l3⟩ := Cond.arrayClass_spec (ht _ tw_50)
  obtain ⟨ab, kb, pb, b1, b2, b3⟩ := Cond.arrayClass_spec (ht _ tw_108)
  obtain ⟨ai, ki, pi, i1, i2, i3⟩ := Cond.arrayClass_spec (ht _ tw_741)
  obtain ⟨az, kz, pz, z1, z2, z3⟩ := Cond.arrayClass_spec (ht _ tw_742)
  obtain ⟨comp, aw, kw, w1, w2, w3, w4, w5⟩ := Cond.arrayOver_spec (lw_AO hts)
  refine ⟨((fun q => match q with | 0 => c0 | 1 => c1 | 2 => c2 | 3 => c3 | 4 => c4 | _ => c5, fun q => match q with | 0 => o0 | 1 => o1 | 2 => o2 | 3 => o3 | 4 => o4 | _ => o5), al, ab, aw, ai, az), fun q r hq => ?_, fun q r hq => ?_⟩
  · rcases q with _ | _ | _ | _ | _ | _ | q
    · have h9 : some ("WholeDesk$Whole", TW, 3) = some r := hq
      cases h9
      exact k0
    · have h9 : some ("WholeDesk$Reckoner", TK, 9) = some r := hq
      cases h9
      exact k1
    · have h9 : some ("WholeDesk$Draft", TD, 3) = some r := hq
      cases h9
      exact k2
    · have h9 : some ("WholeDesk$Writing", TG, 3) = some r := hq
      cases h9
      exact k3
    · have h9 : some ("WholeDesk", TS, 4) = some r := hq
      cases h9
      exact k4
    · have h9 : some ("WholeDeskModel", TM, 21) = some r := hq
      cases h9
      exact k5
    · have h9 : (none : Option vw_C) = some r := hq
      cases h9
  · rcases q with _ | _ | _ | _ | _ | q
    · have h9 : some (al, FieldType.long) = some r := hq
      cases h9
      exact ⟨fun n z => ⟨fun k h => (by cases h), kl, l2, pl, l3⟩, l1⟩
    · have h9 : some (ab, FieldType.byte) = some r := hq
      cases h9
      exact ⟨fun n z => ⟨fun k h => (by cases h), kb, b2, pb, b3⟩, b1⟩
    · have h9 : some (aw, FieldType.object "WholeDesk$Whole") = some r := hq
      cases h9
      exact ⟨fun n z => ⟨fun k h => (by cases h), kw, w3, comp, w4⟩, kw, comp, w3, w4, w1, w5⟩
    · have h9 : some (ai, FieldType.int) = some r := hq
      cases h9
      exact ⟨fun n z => ⟨fun k h => (by cases h), ki, i2, pi, i3⟩, i1⟩
    · have h9 : some (az, FieldType.boolean) = some r := hq
      cases h9
      exact ⟨fun n z => ⟨fun k h => (by cases h), kz, z2, pz, z3⟩, z1⟩
    · have h9 : (none : Option (ClassId × FieldType)) = some r := hq
      cases h9
theorem lw_sin : ∀ q ∈ zStr, Cond.stringRef q.1 q.2.1 q.2.2 ∈ lw_tbl := by decide +kernel
theorem lw_din : ∀ x ∈ zDe, Cond.declares x ∈ lw_tbl := by decide +kernel
theorem lw_xin : ∀ x ∈ zXs, Cond.castable x x ∈ lw_tbl := by decide +kernel
theorem lw_H {args : Array Value} {s : State} (hts : ∀ w ∈ lw_tbl, w.before args s = true) (hgv : (Jvm.Cond.and given_1 narrow_1).before args s = true) : zH (zGA s.heap.size) s s.heap := by
  have hs := flat_of_before _ hgv
  exact ⟨fun q hq => lw_str (hts _ (lw_sin q hq)), fun x hx => va_Nw.of rfl (hts _ (lw_din x hx)), fun x hx => va_Nw.of rfl (hts _ (lw_xin x hx)), vx_Zqof (hts _ (by decide +kernel)) (hts _ (by decide +kernel)) (hs _ (by decide +kernel)) (fun a h h9 => Nat.not_lt.mpr h9 h), vx_Zqof (hts _ (by decide +kernel)) (hts _ (by decide +kernel)) (hs _ (by decide +kernel)) (fun a h h9 => Nat.not_lt.mpr h9 h)⟩
theorem lw_Nc {args : Array Value} {s : State} (hgv : (Jvm.Cond.and given_1 narrow_1).before args s = true) : zNc s := by
  have hs := flat_of_before _ hgv
  exact ⟨va_Nc.of (hs (.not (.castable "java/lang/IllegalStateException" "java/lang/IllegalArgumentException")) (by decide +kernel)), va_Nc.of (hs (.not (.castable "java/lang/ArithmeticException" "java/lang/IllegalArgumentException")) (by decide +kernel)), va_Nc.of (hs (.not (.castable "java/lang/ArithmeticException" "java/lang/IllegalStateException")) (by decide +kernel))⟩
def lw_s0 : zS := (fun _ => 0, 0, fun _ => 0, 2049, fun _ => 0)
theorem lw_ok0 : okS lw_s0 := ⟨fun i _ => by show (0 : Int).natAbs < 2 ^ 2048; exact Nat.two_pow_pos _, by decide, fun _ => by show (0 : Nat) < 256; decide, by decide, fun _ => by show (0 : Nat) < 128; decide⟩
theorem lw_Q0 {E : zE} {B : Nat} {H : Heap} (h : zG E B 80 (zT0 E B) H) : zQ E B lw_s0 H :=
  ⟨lw_ok0, fun _ => (fun _ => 0, 0, false), 27, 29, ⟨h.1, fun k _ => ⟨fun i => by show (0 : Nat) < 268435456; decide, by show (0 : Nat) ≤ 152; decide⟩⟩, Or.inl ⟨rfl, rfl⟩, fun i _ => ⟨fun h9 => absurd rfl h9, fun h9 => (by cases h9), rfl⟩⟩
theorem lw_M0 {E : zE} {B : Nat} {H : Heap} (h : zG E B 15 (zT1 E B) H) : zQM E B lw_s0 0 H :=
  ⟨lw_ok0, fun _ _ => 0, (0, 0, 0, false, false, false, 0), ⟨h.1, fun k i => by show (0 : Nat) < 65536; decide⟩, ⟨fun i _ => ⟨by rw [rv_drop (m := 0) (Nat.zero_le _) (fun i _ _ => rfl)]; rfl, by show (0 : Nat) = bN (decide ((0 : Int) < 0)); decide⟩, rfl, fun i hi => absurd hi (Nat.not_lt_zero _), rfl, fun i hi => absurd (show i < 0 from hi) (Nat.not_lt_zero _)⟩, rfl⟩
theorem lw_step {B B1 : Nat} {H0 H H1 : Heap} {locs : List Loc} (h : va_S (zGA B) H0 H []) (h1 : H.size = B1) (h2 : va_S (zGA B1) H H1 locs) : va_S (zGA B) H0 H1 [] ∧ ∀ q, q < B1 → H1[q]? = H[q]? := by
  have hk : ∀ q, q < B1 → H1[q]? = H[q]? := fun q hq => h2.2.1 q (by rw [h1]; exact hq) (fun h9 => Nat.not_lt.mpr h9 hq)
  exact ⟨⟨Nat.le_trans h.1 h2.1, fun q hq hn => (hk q (by rw [← h1]; exact Nat.lt_of_lt_of_le hq h.1)).trans (h.2.1 q hq hn), fun _ h => by cases h⟩, hk⟩
theorem zG_0 {E : zE} {B : Nat} {O : Nat → va_E} {H : Heap} (h : H.size = B) : zG E B 0 O H := ⟨fun k q hq => absurd (zB_inv hq).1 (Nat.not_lt_zero _), h⟩
set_option maxHeartbeats 4000000 in
set_option maxRecDepth 100000 in
theorem lw_go {p : Program} {e : Env} {s : State} {m : MethodId} {below : List Frame} {meth : Method} {c : Code} (l : Launch) (hl0 : l.stackTraces = false) {b L : Nat} {xs : Nat → Int32} {E : zE} {B : Nat} (C : lwC p s m meth c b L xs E B) (hO : va_AO "WholeDesk$Whole" s) {ls : Array Slot} (hl : lv_has ls 8 [(0, .ref b)]) : W p l e room_1 s m #[Value.ref b] below meth c s.heap [] 0 0 (lw_Z below #[Value.ref b] s) (F0 m 0 ls []) := by
  have C9 := C
  obtain ⟨⟨hx, hb, hret, hml, hown, hts, hX, hbl, hlk, hgv⟩, hL, hK, hH, hN, hB⟩ := C9
  have hown : s.vm.findClass "WholeDeskLaw" = some m.cls := hown
  have ht : ∀ w ∈ zt, w.before #[Value.ref b] s = true := fun w h => hts w (zt_tbl w h)
  have hb : c.code = cL_law := hb
  have hZ : zG E B 0 (zT0 E B) s.heap := zG_0 hB
  have hS : va_S (zGA B) s.heap s.heap [] := va_S.rf
  refine zg_new (ci := 4) (fs := [.null, .null, .null, .null]) (T := TS) (n := 4) hx hb ht inS tyS tyS_ok hown tw_16 tw_17 tw_1 hK rfl (fun j hj => by rcases (show j = 0 ∨ j = 1 ∨ j = 2 ∨ j = 3 by omega) with rfl | rfl | rfl | rfl <;> rfl) hZ hS (Nat.le_of_ble_eq_true rfl) (Nat.le_of_ble_eq_true rfl) dL_law_0 (fun H hZ hS => ?_)
  refine lv_dup hx hb dL_law_3 rfl ?_
  refine zcI (P' := fun H => zG E B 80 (zT0 E B) H) ⟨hx, hb, hml, hown, ht⟩ (mS_init l E B) tw_20 tw_18 tw_19 tw_1 rfl qS_init ⟨Nat.le_of_ble_eq_true rfl, Nat.le_of_ble_eq_true rfl⟩ hZ hK hO hl.1 (Nat.le_of_ble_eq_true rfl) dL_law_4 ⟨Nat.le_of_ble_eq_true rfl, Nat.le_of_ble_eq_true rfl⟩ (fun _ h => h) hS (fun H locs hZ hS _ => ?_)
  refine lv_astore_n (lv' := [(1, .ref B), (0, .ref b)]) hx hb dL_law_7 rfl hl (by decide) rfl (fun ls hl => ?_)
  refine va_forget (fun q hq => by rw [hB]; exact hS.2.2 q hq) ?_
  have hS0 : va_S (zGA B) s.heap H [] := ⟨hS.1, hS.2.1, fun _ h => by cases h⟩
  have hQ := lw_Q0 hZ
  have hsz : H.size = B + 80 := hZ.2
  clear hZ hS
  have hZ : zG E (B + 80) 0 (zT1 E (B + 80)) H := zG_0 hsz
  have hS : va_S (zGA (B + 80)) H H [] := va_S.rf
  refine zg_new (ci := 5) (fs := [.int 0, .int 0, .null, .int 0, .null, .null, .null, .int 0, .null, .null, .null, .null, .null, .null, .null, .null, .int 0, .int 0, .null, .null, .int 0]) (T := TM) (n := 21) hx hb ht inM tyM tyM_ok hown tw_671 tw_672 tw_6 hK rfl (fun j hj => by rcases (show j = 0 ∨ j = 1 ∨ j = 2 ∨ j = 3 ∨ j = 4 ∨ j = 5 ∨ j = 6 ∨ j = 7 ∨ j = 8 ∨ j = 9 ∨ j = 10 ∨ j = 11 ∨ j = 12 ∨ j = 13 ∨ j = 14 ∨ j = 15 ∨ j = 16 ∨ j = 17 ∨ j = 18 ∨ j = 19 ∨ j = 20 by omega) with rfl | rfl | rfl | rfl | rfl | rfl | rfl | rfl | rfl | rfl | rfl | rfl | rfl | rfl | rfl | rfl | rfl | rfl | rfl | rfl | rfl <;> rfl) hZ hS (Nat.le_of_ble_eq_true rfl) (Nat.le_of_ble_eq_true rfl) dL_law_8 (fun H1 hZ hS => ?_)
  refine lv_dup hx hb dL_law_11 rfl ?_
  refine zcI (P' := fun H => zG E (B + 80) 15 (zT1 E (B + 80)) H) ⟨hx, hb, hml, hown, ht⟩ (mM_init l E (B + 80)) tw_675 tw_673 tw_674 tw_6 rfl qM_init ⟨Nat.le_of_ble_eq_true rfl, Nat.le_of_ble_eq_true rfl⟩ hZ hK hO hl.1 (Nat.le_of_ble_eq_true rfl) dL_law_12 ⟨Nat.le_of_ble_eq_true rfl, Nat.le_of_ble_eq_true rfl⟩ (fun _ h => h) hS (fun H2 locs hZ hS _ => ?_)
  refine lv_astore_n (lv' := [(2, .ref (B + 80)), (1, .ref B), (0, .ref b)]) hx hb dL_law_15 rfl hl (by decide) rfl (fun ls hl => ?_)
  refine va_forget (fun q hq => by rw [hB]; exact Nat.le_trans (Nat.le_add_right _ _) (hS.2.2 q hq)) ?_
  obtain ⟨hS0, hk⟩ := lw_step hS0 hsz hS
  replace hQ := hQ.kept (fun q hq => hk q hq.2)
  have hM := lw_M0 hZ
  have hsz : H2.size = B + 95 := hZ.2
  clear hZ hS hk
  have hZ : zG E (B + 95) 0 (zT1 E (B + 80)) H2 := zG_0 hsz
  have hS : va_S (zGA (B + 95)) H2 H2 [] := va_S.rf
  refine lv_iconst (v := iZ 1) hx hb dL_law_16 rfl ?_
  refine zg_newa (ty := .long) (a0 := (1, .inr (.inl (fun _ => lZ ((0 : Nat) : Int))))) (n := 1) hx hb rfl ht tw_50 hK 0 rfl (fun h => h) cell_l (by decide) (by decide) (by decide) hZ hS (Nat.le_of_ble_eq_true rfl) (Nat.le_of_ble_eq_true rfl) dL_law_17 (fun H3 hZ hS => ?_)
  obtain ⟨hS0, hk⟩ := lw_step hS0 hsz hS
  replace hQ := hQ.kept (fun q hq => hk q (Nat.lt_of_lt_of_le hq.2 (by omega)))
  replace hM := hM.kept (fun q hq => hk q (Nat.lt_of_lt_of_le hq.2 (by omega)))
  have ho : zOc E (B + 95) (lZ ((0 : Nat) : Int)) H3 := by
    have h9 := hZ.1 0 _ (zB_at (by decide))
    rw [va_up_self] at h9
    exact h9
  refine lv_astore_n (lv' := [(3, .ref (B + 95)), (2, .ref (B + 80)), (1, .ref B), (0, .ref b)]) hx hb dL_law_19 rfl hl (by decide) rfl (fun ls hl => ?_)
  refine lv_iconst (v := iZ 0) hx hb dL_law_20 rfl ?_
  refine lv_istore (lv' := [(4, .int (iZ ((5 * 0 : Nat) : Int))), (3, .ref (B + 95)), (2, .ref (B + 80)), (1, .ref B), (0, .ref b)]) hx hb dL_law_21 hl (by decide) rfl (fun ls hl => ?_)
  exact W.widen (by decide) (by decide) (law_loop hl0 C L 0 (by omega) (by omega) ⟨hQ, hM, ho, hS0, hl⟩)
theorem whole_start {p : Program} {e : Env} {s : State} {m : MethodId} {below : List Frame} {meth : Method} {c : Code} (l : Launch) (hl0 : l.stackTraces = false) {b L : Nat} {xs : Nat → Int32} (hL : L ≤ 2560) (C0 : lw_At p s m meth c b L xs) : W p l e room_1 s m #[Value.ref b] below meth c s.heap [] 0 0 (lw_Z below #[Value.ref b] s) (entryFrame m ([Value.ref b] : List Value).toArray 8) := by
  have hts := C0.2.2.2.2.2.1
  have hgv := C0.2.2.2.2.2.2.2.2.2
  obtain ⟨E, hK⟩ := lw_world hts
  have hl := lv_entry [Value.ref b] (n := 8) (Nat.le_of_ble_eq_true rfl)
  rw [lg_entry_eq]
  exact lw_go l hl0 ⟨C0, hL, hK, lw_H hts hgv, lw_Nc hgv, rfl⟩ (lw_AO hts) hl
