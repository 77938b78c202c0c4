theorem zQ.kept {E : zE} {B : Nat} {σ : zS} {H H1 : Heap} (h : zQ E B σ H) (hk : ∀ q : Nat, zA B 80 q → H1[q]? = H[q]?) : zQ E B σ H1 := by
  obtain ⟨h1, v, an, sp, ⟨h2, h3⟩, h4, h5⟩ := h
  exact ⟨h1, v, an, sp, ⟨h2.kept fun k q hq => by obtain ⟨hk9, rfl⟩ := zB_inv hq; exact hk _ (zA_in hk9), h3⟩, h4, h5⟩
theorem zQM.kept {E : zE} {B : Nat} {σ : zS} {t : Nat} {H H1 : Heap} (h : zQM E B σ t H) (hk : ∀ q : Nat, zA B 15 q → H1[q]? = H[q]?) : zQM E B σ t H1 := by
  obtain ⟨h1, w, c, ⟨h2, h3⟩, h4, h5⟩ := h
  exact ⟨h1, w, c, ⟨h2.kept fun k q hq => by obtain ⟨hk9, rfl⟩ := zB_inv hq; exact hk _ (zA_in hk9), h3⟩, h4, h5⟩
theorem zQ.recv {E : zE} {B : Nat} {σ : zS} {H : Heap} {s : State} (hK : zK E s) (h : zQ E B σ H) : ∃ cellB : Cell, H[B]? = some cellB ∧ cellB.vm.isStatics = false ∧ s.vm.findClass "WholeDesk" = some cellB.cls := by
  obtain ⟨h1, v, an, sp, h2, h4, h5⟩ := h
  exact zs_recv hK h2
theorem zQM.recv {E : zE} {B : Nat} {σ : zS} {t : Nat} {H : Heap} {s : State} (hK : zK E s) (h : zQM E B σ t H) : ∃ cellB : Cell, H[B]? = some cellB ∧ cellB.vm.isStatics = false ∧ s.vm.findClass "WholeDeskModel" = some cellB.cls := by
  obtain ⟨h1, w, c, h2, h4, h5⟩ := h
  exact zm_recv hK h2
theorem zQ.lt {E : zE} {B : Nat} {σ : zS} {H : Heap} (h : zQ E B σ H) : B + 80 ≤ H.size := by
  obtain ⟨h1, v, an, sp, ⟨h2, _⟩, h4, h5⟩ := h
  have := (h2 79 _ (zB_at (by decide))).lt
  exact this
theorem zQM.lt {E : zE} {B : Nat} {σ : zS} {t : Nat} {H : Heap} (h : zQM E B σ t H) : B + 15 ≤ H.size := by
  obtain ⟨h1, w, c, ⟨h2, _⟩, h4, h5⟩ := h
  have := (h2 14 _ (zB_at (by decide))).lt
  exact this
/-- the law's row of one long -/
def zOc (E : zE) (qo : Nat) (v : Int64) (H : Heap) : Prop := H[qo]? = some (vp_cell E.2.1 (1, .inr (.inl (fun _ => v))))
theorem zOc.lt {E : zE} {qo : Nat} {v : Int64} {H : Heap} (h : zOc E qo v H) : qo < H.size := (Array.getElem?_eq_some_iff.mp h).1
def zAo (B qo : Nat) : Nat → Prop := fun q => zA B 80 q ∨ q = qo
theorem zl_out {p : Program} {l : Launch} {e : Env} {R : Room} {s : State} {m : MethodId} {args : Array Value} {below : List Frame} {meth : Method} {c : Code} {H : Heap} {locs : List Loc} {cells slots : Nat} {Q : State → Prop} {cc : ByteArray} {pc : Nat} {ls : Array Slot} {rest : List Value} {E : zE} {B qo : Nat} {σ : zS} {v x : Int64} {A0 : Nat → Prop} {H0 : Heap} (hx : p.tables.exec = Jvm.exec) (hb : c.code = cc) (hK : zK E s) (hZ : zQ E B σ H) (ho : zOc E qo v H) (hq : B + 80 ≤ qo) (hS : va_S A0 H0 H locs) (hA : A0 qo) (hdg : decode cc pc = .ok (.lastore, 1))
    (kk : ∀ (H1 : Heap) (locs1 : List Loc), zQ E B σ H1 → zOc E qo x H1 → va_S A0 H0 H1 locs1 → W p l e R s m args below meth c H1 locs1 cells slots Q (F0 m (pc + 1) ls rest)) : W p l e R s m args below meth c H locs cells slots Q (F0 m pc ls (.long x :: .int (iZ 0) :: .ref qo :: rest)) := by
  refine W.last hx hb ho ((hK.2 0 (E.2.1, .long) rfl).1 1 (fun _ => .long v)) (fun q => by cases q) (by show ¬ (iZ 0 < 0 ∨ (arrV _ _ _).slots.size ≤ _); rw [arrV_size]; exact (by decide : ¬ (iZ 0 < 0 ∨ 1 ≤ (iZ 0).toNatClampNeg))) rfl rfl hdg fun H1 e z oq => ?_
  refine kk H1 _ (hZ.kept fun q h9 => oq q (Nat.ne_of_lt (Nat.lt_of_lt_of_le h9.2 hq))) ?_ (hS.put z oq hA)
  show H1[qo]? = some (vp_cell _ _)
  rw [e, vp_cell_l, vp_cell_l, arrV_store]
  unfold arrV
  congr 3
  funext j
  have hj : j.val = 0 := by omega
  show updV (fun _ => Value.long v) (iZ 0).toNatClampNeg (Value.long x) j.val = Value.long x
  rw [hj]
  rfl
theorem zAo_l {B qo q : Nat} (h : zA B 80 q) : zAo B qo q := Or.inl h
set_option maxHeartbeats 4000000 in
set_option maxRecDepth 100000 in
theorem mL_write (l : Launch) (hl0 : l.stackTraces = false) (E : zE) (B : Nat) (rg : Nat → Int) (ct : Nat) (f : Nat → Nat) (st : Nat) (g : Nat → Nat) (n : Int) (hz_n : zi n) (z : Int) (qo : Nat) (v0 : Int64) (hqo : B + 80 ≤ qo) :
    vx_Met l yL_write (zwl yL_write cL_write 6 [(0, 11, 14, 13)]) { frames := 8, cells := 8, slots := 48, locals := 163 } (zPl E (zAo B qo) (fun H => zQ E B (rg, ct, f, st, g) H ∧ zOc E qo v0 H) [.ref (B), .int (iZ (n)), .long (lZ (z)), .ref (qo)]) (va_Qi (fun (r : Int32) (u : Nat × zS × Int64) => r = iZ ↑(tc u.1) ∧ SP (1 ≤ n ∧ n ≤ 8) (False) (False) (fun τ => τ = if ct + n.toNat ≤ 2100 then (rg, ct + n.toNat, wrt f ct n.toNat z, st, g) else (rg, ct, f, st, g)) (rg, ct, f, st, g) u.1 u.2.1 ∧ (u.1 = 0 → ∃ r9 : Int32, u.2.2 = r9.toInt64 ∧ r9 = iZ (if ct + n.toNat ≤ 2100 then ((ct + n.toNat : Nat) : Int) else -1))) (fun u t => (zQ E B u.2.1 t.heap ∧ zOc E qo u.2.2 t.heap) ∧ zK E t) (zAo B qo)) (vx_X (fun _ : Unit => False) (fun _ _ _ => True) (zAo B qo)) 8 48 (zAo B qo) := by
  refine zol_i (P' := fun (u : Nat × zS × Int64) H => zQ E B u.2.1 H ∧ zOc E qo u.2.2 H) (by decide) (Nat.le_of_ble_eq_true rfl) fun p e R s m args below meth c Q ls hR hx hb hml ht hown hK hZ hH hN htab hl hend => ?_
  have hS : va_S (zAo B qo) s.heap s.heap [] := va_S.rf
  have hown : s.vm.findClass "WholeDeskLaw" = some m.cls := hown
  have hl : lv_has ls 6 [(0, .ref (B)), (1, .int (iZ (n))), (2, .long (lZ (z))), (4, .ref (qo))] := hl
  obtain ⟨hZ, ho⟩ := hZ
  refine lv_aload hx hb dL_write_0 (lv_at hl 3 rfl) ?_
  refine lv_iconst (v := iZ 0) hx hb dL_write_2 (by decide) ?_
  refine lv_aload_n hx hb dL_write_3 rfl (lv_at hl 0 rfl) ?_
  refine lv_iload_n hx hb dL_write_4 rfl (lv_at hl 1 rfl) ?_
  refine lv_lload_n hx hb dL_write_5 rfl (lv_at hl 2 rfl) ?_
  refine zyX_i (P' := fun (u : zS) H => zQ E B u H) (BX := (fun (C : String) (u : Nat × zS) (H : Heap) => C = zcl u.1 ∧ zQ E B u.2 H)) 2 (As := [.int (iZ (n)), .long (lZ (z))]) (rest := [.int (iZ 0), .ref (qo)]) rfl ⟨hx, hb, hml, hown, ht⟩ (mS_write l hl0 E B rg ct f st g n hz_n z) tw_163 tw_160 tw_161 tw_162 tw_1 qS_write (by rw [hR]; decide) (hZ.recv hK) hZ hK (hH.narrow (fun _ h => Or.inl h)) hl.1 rfl rfl (Nat.le_of_ble_eq_true rfl) dL_write_6 ⟨by rw [hR]; decide, by rw [hR]; decide⟩ (fun _ h => Or.inl h) hS (fun C ce q9 u H locs hpx hbx hz9 hk9 hS hce hcv hcl => ?_) (fun r9 u H locs hp hQ hz9 hk9 hS => ?_)
  · obtain ⟨k, σ1⟩ := u
    obtain ⟨hsp, hk0⟩ := hpx
    obtain ⟨rfl, hQ⟩ := hbx
    dsimp only at hsp hk0 hQ hcl
    have ho : zOc E qo v0 H := by unfold zOc; rw [hk9 qo ho.lt (fun h9 => by have h8 : B ≤ qo ∧ qo < B + 80 := h9; omega)]; exact ho
    have hk4 : k = 1 ∨ k = 2 ∨ k = 3 := by rcases hsp with h | h | h | h <;> omega
    rcases hk4 with rfl | rfl | rfl
    · refine zcat (X := "java/lang/IllegalArgumentException") ht hown hH [] ⟨0, 11, 14, 13⟩ [] (htab.trans rfl) (fun z hz => absurd hz List.not_mem_nil) rfl (by decide) tw_159 (by decide +kernel) hce hcv hcl ?_
      refine lv_astore (lv' := [(5, .ref q9), (0, .ref (B)), (1, .int (iZ (n))), (2, .long (lZ (z))), (4, .ref (qo))]) hx hb dL_write_14 hl (by decide) rfl (fun ls hl => ?_)
      refine lv_iconst (v := iZ (1)) hx hb dL_write_16 (by decide) ?_
      exact hend 17 _ (1, σ1, v0) _ _ _ _ _ ⟨by decide, by decide⟩ dL_write_17 ⟨rfl, hsp, fun h9 => absurd (show (1 : Nat) = 0 from h9) (by decide)⟩ ⟨hQ, ho⟩ hS
    · exfalso
      rcases hsp with h | h | h | h
      · exact absurd h.1 (by decide)
      · exact h.2.2.1.elim
      · exact absurd h.1 (by decide)
      · exact absurd h.1 (by decide)
    · exfalso
      rcases hsp with h | h | h | h
      · exact absurd h.1 (by decide)
      · exact absurd h.1 (by decide)
      · exact h.2.2.1.elim
      · exact absurd h.1 (by decide)
  · have ho : zOc E qo v0 H := by unfold zOc; rw [hk9 qo ho.lt (fun h9 => by have h8 : B ≤ qo ∧ qo < B + 80 := h9; omega)]; exact ho
    refine lv_i2l hx hb dL_write_9 rfl ?_
    refine zl_out hx hb hK hQ ho hqo hS (Or.inr rfl) dL_write_10 (fun H locs hQ ho hS => ?_)
    refine lv_goto (tgt := 18) hx hb dL_write_11 (by decide) ?_
    refine lv_iconst (v := iZ (0)) hx hb dL_write_18 (by decide) ?_
    exact hend 19 _ (0, u, r9.toInt64) _ _ _ _ _ ⟨by decide, by decide⟩ dL_write_19 ⟨rfl, hp.1, fun _ => ⟨r9, rfl, hp.2⟩⟩ ⟨hQ, ho⟩ hS
set_option maxHeartbeats 4000000 in
set_option maxRecDepth 100000 in
theorem mL_read (l : Launch) (hl0 : l.stackTraces = false) (E : zE) (B : Nat) (rg : Nat → Int) (ct : Nat) (f : Nat → Nat) (st : Nat) (g : Nat → Nat) (to : Int) (hz_to : zi to) (base : Int) (hz_base : zi base) :
    vx_Met l yL_read (zwl yL_read cL_read 4 [(0, 6, 9, 13), (0, 6, 12, 19), (0, 6, 15, 21)]) { frames := 8, cells := 8, slots := 48, locals := 162 } (zPl E (zA B 80) (zQ E B (rg, ct, f, st, g)) [.ref (B), .int (iZ (to)), .int (iZ (base))]) (va_Qi (fun (r : Int32) (u : Nat × zS) => r = iZ ↑u.1 ∧ SP (rok to ∧ (2 ≤ base ∧ base ≤ 36)) (¬ isnum ct f base.toNat) (isnum ct f base.toNat ∧ ¬ zX (rdv base.toNat ct f)) (fun τ => isnum ct f base.toNat ∧ zX (rdv base.toNat ct f) ∧ τ = (va_up rg to.toNat (rdv base.toNat ct f), 0, f, st, g)) (rg, ct, f, st, g) u.1 u.2) (fun u t => (zQ E B u.2 t.heap) ∧ zK E t) (zA B 80)) (vx_X (fun _ : Unit => False) (fun _ _ _ => True) (zA B 80)) 8 48 (zA B 80) := by
  refine zol_i (P' := fun (u : Nat × zS) H => zQ E B u.2 H) (by decide) (Nat.le_of_ble_eq_true rfl) fun p e R s m args below meth c Q ls hR hx hb hml ht hown hK hZ hH hN htab hl hend => ?_
  have hS : va_S (zA B 80) s.heap s.heap [] := va_S.rf
  have hown : s.vm.findClass "WholeDeskLaw" = some m.cls := hown
  have hl : lv_has ls 4 [(0, .ref (B)), (1, .int (iZ (to))), (2, .int (iZ (base)))] := hl
  refine lv_aload_n hx hb dL_read_0 rfl (lv_at hl 0 rfl) ?_
  refine lv_iload_n hx hb dL_read_1 rfl (lv_at hl 1 rfl) ?_
  refine lv_iload_n hx hb dL_read_2 rfl (lv_at hl 2 rfl) ?_
  refine zyX_v (P' := fun (u : zS) H => zQ E B u H) (BX := (fun (C : String) (u : Nat × zS) (H : Heap) => C = zcl u.1 ∧ zQ E B u.2 H)) 2 (As := [.int (iZ (to)), .int (iZ (base))]) (rest := []) rfl ⟨hx, hb, hml, hown, ht⟩ (mS_read l hl0 E B rg ct f st g to hz_to base hz_base) tw_243 tw_240 tw_241 tw_242 tw_1 qS_read (by rw [hR]; decide) (hZ.recv hK) hZ hK (hH.narrow (fun _ h => h)) hl.1 rfl rfl (Nat.le_of_ble_eq_true rfl) dL_read_3 ⟨by rw [hR]; decide, by rw [hR]; decide⟩ (fun _ h => h) hS (fun C ce q9 u H locs hpx hbx hz9 hk9 hS hce hcv hcl => ?_) (fun u H locs hp hQ hz9 hk9 hS => ?_)
  · obtain ⟨k, σ1⟩ := u
    obtain ⟨hsp, hk0⟩ := hpx
    obtain ⟨rfl, hQ⟩ := hbx
    dsimp only at hsp hk0 hQ hcl
    have hk4 : k = 1 ∨ k = 2 ∨ k = 3 := by rcases hsp with h | h | h | h <;> omega
    rcases hk4 with rfl | rfl | rfl
    · refine zcat (X := "java/lang/IllegalArgumentException") ht hown hH [] ⟨0, 6, 9, 13⟩ [⟨0, 6, 12, 19⟩, ⟨0, 6, 15, 21⟩] (htab.trans rfl) (fun z hz => absurd hz List.not_mem_nil) rfl (by decide) tw_159 (by decide +kernel) hce hcv hcl ?_
      refine lv_astore_n (lv' := [(3, .ref q9), (0, .ref (B)), (1, .int (iZ (to))), (2, .int (iZ (base)))]) hx hb dL_read_9 rfl hl (by decide) rfl (fun ls hl => ?_)
      refine lv_iconst (v := iZ (1)) hx hb dL_read_10 (by decide) ?_
      exact hend 11 _ (1, σ1) _ _ _ _ _ ⟨by decide, by decide⟩ dL_read_11 ⟨rfl, hsp⟩ hQ hS
    · refine zcat (X := "java/lang/IllegalStateException") ht hown hH [⟨0, 6, 9, 13⟩] ⟨0, 6, 12, 19⟩ [⟨0, 6, 15, 21⟩] (htab.trans rfl) (fun z hz => by rcases List.mem_cons.mp hz with h9 | h9; rw [h9]; exact ⟨by decide, "java/lang/IllegalArgumentException", tw_159, hN.1⟩; exact absurd h9 List.not_mem_nil) rfl (by decide) tw_238 (by decide +kernel) hce hcv hcl ?_
      refine lv_astore_n (lv' := [(3, .ref q9), (0, .ref (B)), (1, .int (iZ (to))), (2, .int (iZ (base)))]) hx hb dL_read_12 rfl hl (by decide) rfl (fun ls hl => ?_)
      refine lv_iconst (v := iZ (2)) hx hb dL_read_13 (by decide) ?_
      exact hend 14 _ (2, σ1) _ _ _ _ _ ⟨by decide, by decide⟩ dL_read_14 ⟨rfl, hsp⟩ hQ hS
    · refine zcat (X := "java/lang/ArithmeticException") ht hown hH [⟨0, 6, 9, 13⟩, ⟨0, 6, 12, 19⟩] ⟨0, 6, 15, 21⟩ [] (htab.trans rfl) (fun z hz => by rcases List.mem_cons.mp hz with h9 | h9; rw [h9]; exact ⟨by decide, "java/lang/IllegalArgumentException", tw_159, hN.2.1⟩; rcases List.mem_cons.mp h9 with h8 | h8; rw [h8]; exact ⟨by decide, "java/lang/IllegalStateException", tw_238, hN.2.2⟩; exact absurd h8 List.not_mem_nil) rfl (by decide) tw_239 (by decide +kernel) hce hcv hcl ?_
      refine lv_astore_n (lv' := [(3, .ref q9), (0, .ref (B)), (1, .int (iZ (to))), (2, .int (iZ (base)))]) hx hb dL_read_15 rfl hl (by decide) rfl (fun ls hl => ?_)
      refine lv_iconst (v := iZ (3)) hx hb dL_read_16 (by decide) ?_
      exact hend 17 _ (3, σ1) _ _ _ _ _ ⟨by decide, by decide⟩ dL_read_17 ⟨rfl, hsp⟩ hQ hS
  · refine lv_goto (tgt := 18) hx hb dL_read_6 (by decide) ?_
    refine lv_iconst (v := iZ (0)) hx hb dL_read_18 (by decide) ?_
    exact hend 19 _ (0, u) _ _ _ _ _ ⟨by decide, by decide⟩ dL_read_19 ⟨rfl, hp⟩ hQ hS
set_option maxHeartbeats 4000000 in
set_option maxRecDepth 100000 in
theorem mL_put (l : Launch) (hl0 : l.stackTraces = false) (E : zE) (B : Nat) (rg : Nat → Int) (ct : Nat) (f : Nat → Nat) (st : Nat) (g : Nat → Nat) (to : Int) (hz_to : zi to) (z : Int) (hzl : zl z) :
    vx_Met l yL_put (zwl yL_put cL_put 5 [(0, 6, 9, 13)]) { frames := 8, cells := 8, slots := 48, locals := 163 } (zPl E (zA B 80) (zQ E B (rg, ct, f, st, g)) [.ref (B), .int (iZ (to)), .long (lZ (z))]) (va_Qi (fun (r : Int32) (u : Nat × zS) => r = iZ ↑(tc u.1) ∧ SP (rok to) (False) (False) (fun τ => τ = (va_up rg to.toNat (z), ct, f, st, g)) (rg, ct, f, st, g) u.1 u.2) (fun u t => (zQ E B u.2 t.heap) ∧ zK E t) (zA B 80)) (vx_X (fun _ : Unit => False) (fun _ _ _ => True) (zA B 80)) 8 48 (zA B 80) := by
  refine zol_i (P' := fun (u : Nat × zS) H => zQ E B u.2 H) (by decide) (Nat.le_of_ble_eq_true rfl) fun p e R s m args below meth c Q ls hR hx hb hml ht hown hK hZ hH hN htab hl hend => ?_
  have hS : va_S (zA B 80) s.heap s.heap [] := va_S.rf
  have hown : s.vm.findClass "WholeDeskLaw" = some m.cls := hown
  have hl : lv_has ls 5 [(0, .ref (B)), (1, .int (iZ (to))), (2, .long (lZ (z)))] := hl
  refine lv_aload_n hx hb dL_put_0 rfl (lv_at hl 0 rfl) ?_
  refine lv_iload_n hx hb dL_put_1 rfl (lv_at hl 1 rfl) ?_
  refine lv_lload_n hx hb dL_put_2 rfl (lv_at hl 2 rfl) ?_
  refine zyX_v (P' := fun (u : zS) H => zQ E B u H) (BX := (fun (C : String) (u : Nat × zS) (H : Heap) => C = zcl u.1 ∧ zQ E B u.2 H)) 2 (As := [.int (iZ (to)), .long (lZ (z))]) (rest := []) rfl ⟨hx, hb, hml, hown, ht⟩ (mS_put l hl0 E B rg ct f st g to hz_to z hzl) tw_355 tw_352 tw_353 tw_354 tw_1 qS_put (by rw [hR]; decide) (hZ.recv hK) hZ hK (hH.narrow (fun _ h => h)) hl.1 rfl rfl (Nat.le_of_ble_eq_true rfl) dL_put_3 ⟨by rw [hR]; decide, by rw [hR]; decide⟩ (fun _ h => h) hS (fun C ce q9 u H locs hpx hbx hz9 hk9 hS hce hcv hcl => ?_) (fun u H locs hp hQ hz9 hk9 hS => ?_)
  · obtain ⟨k, σ1⟩ := u
    obtain ⟨hsp, hk0⟩ := hpx
    obtain ⟨rfl, hQ⟩ := hbx
    dsimp only at hsp hk0 hQ hcl
    have hk4 : k = 1 ∨ k = 2 ∨ k = 3 := by rcases hsp with h | h | h | h <;> omega
    rcases hk4 with rfl | rfl | rfl
    · refine zcat (X := "java/lang/IllegalArgumentException") ht hown hH [] ⟨0, 6, 9, 13⟩ [] (htab.trans rfl) (fun z hz => absurd hz List.not_mem_nil) rfl (by decide) tw_159 (by decide +kernel) hce hcv hcl ?_
      refine lv_astore (lv' := [(4, .ref q9), (0, .ref (B)), (1, .int (iZ (to))), (2, .long (lZ (z)))]) hx hb dL_put_9 hl (by decide) rfl (fun ls hl => ?_)
      refine lv_iconst (v := iZ (1)) hx hb dL_put_11 (by decide) ?_
      exact hend 12 _ (1, σ1) _ _ _ _ _ ⟨by decide, by decide⟩ dL_put_12 ⟨rfl, hsp⟩ hQ hS
    · exfalso
      rcases hsp with h | h | h | h
      · exact absurd h.1 (by decide)
      · exact h.2.2.1.elim
      · exact absurd h.1 (by decide)
      · exact absurd h.1 (by decide)
    · exfalso
      rcases hsp with h | h | h | h
      · exact absurd h.1 (by decide)
      · exact absurd h.1 (by decide)
      · exact h.2.2.1.elim
      · exact absurd h.1 (by decide)
  · refine lv_goto (tgt := 13) hx hb dL_put_6 (by decide) ?_
    refine lv_iconst (v := iZ (0)) hx hb dL_put_13 (by decide) ?_
    exact hend 14 _ (0, u) _ _ _ _ _ ⟨by decide, by decide⟩ dL_put_14 ⟨rfl, hp⟩ hQ hS
set_option maxHeartbeats 4000000 in
set_option maxRecDepth 100000 in
theorem mL_add (l : Launch) (hl0 : l.stackTraces = false) (E : zE) (B : Nat) (rg : Nat → Int) (ct : Nat) (f : Nat → Nat) (st : Nat) (g : Nat → Nat) (a : Int) (hz_a : zi a) (b : Int) (hz_b : zi b) (to : Int) (hz_to : zi to) (less : Bool) :
    vx_Met l yL_add (zwl yL_add cL_add 6 [(0, 9, 12, 13), (0, 9, 16, 21)]) { frames := 8, cells := 8, slots := 48, locals := 164 } (zPl E (zA B 80) (zQ E B (rg, ct, f, st, g)) [.ref (B), .int (iZ (a)), .int (iZ (b)), .int (iZ (to)), .int (iZ (bZ less))]) (va_Qi (fun (r : Int32) (u : Nat × zS) => r = iZ ↑(tc u.1) ∧ SP (rok a ∧ rok b ∧ rok to) (False) (¬ zX (zsum (rg a.toNat) (rg b.toNat) less)) (fun τ => zX (zsum (rg a.toNat) (rg b.toNat) less) ∧ τ = (va_up rg to.toNat (zsum (rg a.toNat) (rg b.toNat) less), ct, f, st, g)) (rg, ct, f, st, g) u.1 u.2) (fun u t => (zQ E B u.2 t.heap) ∧ zK E t) (zA B 80)) (vx_X (fun _ : Unit => False) (fun _ _ _ => True) (zA B 80)) 8 48 (zA B 80) := by
  refine zol_i (P' := fun (u : Nat × zS) H => zQ E B u.2 H) (by decide) (Nat.le_of_ble_eq_true rfl) fun p e R s m args below meth c Q ls hR hx hb hml ht hown hK hZ hH hN htab hl hend => ?_
  have hS : va_S (zA B 80) s.heap s.heap [] := va_S.rf
  have hown : s.vm.findClass "WholeDeskLaw" = some m.cls := hown
  have hl : lv_has ls 6 [(0, .ref (B)), (1, .int (iZ (a))), (2, .int (iZ (b))), (3, .int (iZ (to))), (4, .int (iZ (bZ less)))] := hl
  refine lv_aload_n hx hb dL_add_0 rfl (lv_at hl 0 rfl) ?_
  refine lv_iload_n hx hb dL_add_1 rfl (lv_at hl 1 rfl) ?_
  refine lv_iload_n hx hb dL_add_2 rfl (lv_at hl 2 rfl) ?_
  refine lv_iload_n hx hb dL_add_3 rfl (lv_at hl 3 rfl) ?_
  refine lv_iload hx hb dL_add_4 (lv_at hl 4 rfl) ?_
  refine zyX_v (P' := fun (u : zS) H => zQ E B u H) (BX := (fun (C : String) (u : Nat × zS) (H : Heap) => C = zcl u.1 ∧ zQ E B u.2 H)) 4 (As := [.int (iZ (a)), .int (iZ (b)), .int (iZ (to)), .int (iZ (bZ less))]) (rest := []) rfl ⟨hx, hb, hml, hown, ht⟩ (mS_add l hl0 E B rg ct f st g a hz_a b hz_b to hz_to less) tw_363 tw_360 tw_361 tw_362 tw_1 qS_add (by rw [hR]; decide) (hZ.recv hK) hZ hK (hH.narrow (fun _ h => h)) hl.1 rfl rfl (Nat.le_of_ble_eq_true rfl) dL_add_6 ⟨by rw [hR]; decide, by rw [hR]; decide⟩ (fun _ h => h) hS (fun C ce q9 u H locs hpx hbx hz9 hk9 hS hce hcv hcl => ?_) (fun u H locs hp hQ hz9 hk9 hS => ?_)
  · obtain ⟨k, σ1⟩ := u
    obtain ⟨hsp, hk0⟩ := hpx
    obtain ⟨rfl, hQ⟩ := hbx
    dsimp only at hsp hk0 hQ hcl
    have hk4 : k = 1 ∨ k = 2 ∨ k = 3 := by rcases hsp with h | h | h | h <;> omega
    rcases hk4 with rfl | rfl | rfl
    · refine zcat (X := "java/lang/IllegalArgumentException") ht hown hH [] ⟨0, 9, 12, 13⟩ [⟨0, 9, 16, 21⟩] (htab.trans rfl) (fun z hz => absurd hz List.not_mem_nil) rfl (by decide) tw_159 (by decide +kernel) hce hcv hcl ?_
      refine lv_astore (lv' := [(5, .ref q9), (0, .ref (B)), (1, .int (iZ (a))), (2, .int (iZ (b))), (3, .int (iZ (to))), (4, .int (iZ (bZ less)))]) hx hb dL_add_12 hl (by decide) rfl (fun ls hl => ?_)
      refine lv_iconst (v := iZ (1)) hx hb dL_add_14 (by decide) ?_
      exact hend 15 _ (1, σ1) _ _ _ _ _ ⟨by decide, by decide⟩ dL_add_15 ⟨rfl, hsp⟩ hQ hS
    · exfalso
      rcases hsp with h | h | h | h
      · exact absurd h.1 (by decide)
      · exact h.2.2.1.elim
      · exact absurd h.1 (by decide)
      · exact absurd h.1 (by decide)
    · refine zcat (X := "java/lang/ArithmeticException") ht hown hH [⟨0, 9, 12, 13⟩] ⟨0, 9, 16, 21⟩ [] (htab.trans rfl) (fun z hz => by rcases List.mem_cons.mp hz with h9 | h9; rw [h9]; exact ⟨by decide, "java/lang/IllegalArgumentException", tw_159, hN.2.1⟩; exact absurd h9 List.not_mem_nil) rfl (by decide) tw_239 (by decide +kernel) hce hcv hcl ?_
      refine lv_astore (lv' := [(5, .ref q9), (0, .ref (B)), (1, .int (iZ (a))), (2, .int (iZ (b))), (3, .int (iZ (to))), (4, .int (iZ (bZ less)))]) hx hb dL_add_16 hl (by decide) rfl (fun ls hl => ?_)
      refine lv_iconst (v := iZ (2)) hx hb dL_add_18 (by decide) ?_
      exact hend 19 _ (3, σ1) _ _ _ _ _ ⟨by decide, by decide⟩ dL_add_19 ⟨rfl, hsp⟩ hQ hS
  · refine lv_goto (tgt := 20) hx hb dL_add_9 (by decide) ?_
    refine lv_iconst (v := iZ (0)) hx hb dL_add_20 (by decide) ?_
    exact hend 21 _ (0, u) _ _ _ _ _ ⟨by decide, by decide⟩ dL_add_21 ⟨rfl, hp⟩ hQ hS
set_option maxHeartbeats 4000000 in
set_option maxRecDepth 100000 in
theorem mL_multiply (l : Launch) (hl0 : l.stackTraces = false) (E : zE) (B : Nat) (rg : Nat → Int) (ct : Nat) (f : Nat → Nat) (st : Nat) (g : Nat → Nat) (a : Int) (hz_a : zi a) (b : Int) (hz_b : zi b) (to : Int) (hz_to : zi to) :
    vx_Met l yL_multiply (zwl yL_multiply cL_multiply 5 [(0, 7, 10, 13), (0, 7, 14, 21)]) { frames := 8, cells := 8, slots := 48, locals := 163 } (zPl E (zA B 80) (zQ E B (rg, ct, f, st, g)) [.ref (B), .int (iZ (a)), .int (iZ (b)), .int (iZ (to))]) (va_Qi (fun (r : Int32) (u : Nat × zS) => r = iZ ↑(tc u.1) ∧ SP (rok a ∧ rok b ∧ rok to) (False) (¬ zX (rg a.toNat * rg b.toNat)) (fun τ => zX (rg a.toNat * rg b.toNat) ∧ τ = (va_up rg to.toNat (rg a.toNat * rg b.toNat), ct, f, st, g)) (rg, ct, f, st, g) u.1 u.2) (fun u t => (zQ E B u.2 t.heap) ∧ zK E t) (zA B 80)) (vx_X (fun _ : Unit => False) (fun _ _ _ => True) (zA B 80)) 8 48 (zA B 80) := by
  refine zol_i (P' := fun (u : Nat × zS) H => zQ E B u.2 H) (by decide) (Nat.le_of_ble_eq_true rfl) fun p e R s m args below meth c Q ls hR hx hb hml ht hown hK hZ hH hN htab hl hend => ?_
  have hS : va_S (zA B 80) s.heap s.heap [] := va_S.rf
  have hown : s.vm.findClass "WholeDeskLaw" = some m.cls := hown
  have hl : lv_has ls 5 [(0, .ref (B)), (1, .int (iZ (a))), (2, .int (iZ (b))), (3, .int (iZ (to)))] := hl
  refine lv_aload_n hx hb dL_multiply_0 rfl (lv_at hl 0 rfl) ?_
  refine lv_iload_n hx hb dL_multiply_1 rfl (lv_at hl 1 rfl) ?_
  refine lv_iload_n hx hb dL_multiply_2 rfl (lv_at hl 2 rfl) ?_
  refine lv_iload_n hx hb dL_multiply_3 rfl (lv_at hl 3 rfl) ?_
  refine zyX_v (P' := fun (u : zS) H => zQ E B u H) (BX := (fun (C : String) (u : Nat × zS) (H : Heap) => C = zcl u.1 ∧ zQ E B u.2 H)) 3 (As := [.int (iZ (a)), .int (iZ (b)), .int (iZ (to))]) (rest := []) rfl ⟨hx, hb, hml, hown, ht⟩ (mS_multiply l hl0 E B rg ct f st g a hz_a b hz_b to hz_to) tw_391 tw_388 tw_389 tw_390 tw_1 qS_multiply (by rw [hR]; decide) (hZ.recv hK) hZ hK (hH.narrow (fun _ h => h)) hl.1 rfl rfl (Nat.le_of_ble_eq_true rfl) dL_multiply_4 ⟨by rw [hR]; decide, by rw [hR]; decide⟩ (fun _ h => h) hS (fun C ce q9 u H locs hpx hbx hz9 hk9 hS hce hcv hcl => ?_) (fun u H locs hp hQ hz9 hk9 hS => ?_)
  · obtain ⟨k, σ1⟩ := u
    obtain ⟨hsp, hk0⟩ := hpx
    obtain ⟨rfl, hQ⟩ := hbx
    dsimp only at hsp hk0 hQ hcl
    have hk4 : k = 1 ∨ k = 2 ∨ k = 3 := by rcases hsp with h | h | h | h <;> omega
    rcases hk4 with rfl | rfl | rfl
    · refine zcat (X := "java/lang/IllegalArgumentException") ht hown hH [] ⟨0, 7, 10, 13⟩ [⟨0, 7, 14, 21⟩] (htab.trans rfl) (fun z hz => absurd hz List.not_mem_nil) rfl (by decide) tw_159 (by decide +kernel) hce hcv hcl ?_
      refine lv_astore (lv' := [(4, .ref q9), (0, .ref (B)), (1, .int (iZ (a))), (2, .int (iZ (b))), (3, .int (iZ (to)))]) hx hb dL_multiply_10 hl (by decide) rfl (fun ls hl => ?_)
      refine lv_iconst (v := iZ (1)) hx hb dL_multiply_12 (by decide) ?_
      exact hend 13 _ (1, σ1) _ _ _ _ _ ⟨by decide, by decide⟩ dL_multiply_13 ⟨rfl, hsp⟩ hQ hS
    · exfalso
      rcases hsp with h | h | h | h
      · exact absurd h.1 (by decide)
      · exact h.2.2.1.elim
      · exact absurd h.1 (by decide)
      · exact absurd h.1 (by decide)
    · refine zcat (X := "java/lang/ArithmeticException") ht hown hH [⟨0, 7, 10, 13⟩] ⟨0, 7, 14, 21⟩ [] (htab.trans rfl) (fun z hz => by rcases List.mem_cons.mp hz with h9 | h9; rw [h9]; exact ⟨by decide, "java/lang/IllegalArgumentException", tw_159, hN.2.1⟩; exact absurd h9 List.not_mem_nil) rfl (by decide) tw_239 (by decide +kernel) hce hcv hcl ?_
      refine lv_astore (lv' := [(4, .ref q9), (0, .ref (B)), (1, .int (iZ (a))), (2, .int (iZ (b))), (3, .int (iZ (to)))]) hx hb dL_multiply_14 hl (by decide) rfl (fun ls hl => ?_)
      refine lv_iconst (v := iZ (2)) hx hb dL_multiply_16 (by decide) ?_
      exact hend 17 _ (3, σ1) _ _ _ _ _ ⟨by decide, by decide⟩ dL_multiply_17 ⟨rfl, hsp⟩ hQ hS
  · refine lv_goto (tgt := 18) hx hb dL_multiply_7 (by decide) ?_
    refine lv_iconst (v := iZ (0)) hx hb dL_multiply_18 (by decide) ?_
    exact hend 19 _ (0, u) _ _ _ _ _ ⟨by decide, by decide⟩ dL_multiply_19 ⟨rfl, hp⟩ hQ hS
set_option maxHeartbeats 4000000 in
set_option maxRecDepth 100000 in
theorem mL_divide (l : Launch) (hl0 : l.stackTraces = false) (E : zE) (B : Nat) (rg : Nat → Int) (ct : Nat) (f : Nat → Nat) (st : Nat) (g : Nat → Nat) (a : Int) (hz_a : zi a) (b : Int) (hz_b : zi b) (q : Int) (hz_q : zi q) (t : Int) (hz_t : zi t) :
    vx_Met l yL_divide (zwl yL_divide cL_divide 6 [(0, 9, 12, 13), (0, 9, 16, 21)]) { frames := 8, cells := 8, slots := 48, locals := 204 } (zPl E (zA B 80) (zQ E B (rg, ct, f, st, g)) [.ref (B), .int (iZ (a)), .int (iZ (b)), .int (iZ (q)), .int (iZ (t))]) (va_Qi (fun (r : Int32) (u : Nat × zS) => r = iZ ↑(tc u.1) ∧ SP (rok a ∧ rok b ∧ rok q ∧ rok t) (False) (rg b.toNat = 0) (fun τ => rg b.toNat ≠ 0 ∧ τ = (va_up (va_up rg q.toNat ((rg a.toNat).tdiv (rg b.toNat))) t.toNat ((rg a.toNat).tmod (rg b.toNat)), ct, f, st, g)) (rg, ct, f, st, g) u.1 u.2) (fun u t => (zQ E B u.2 t.heap) ∧ zK E t) (zA B 80)) (vx_X (fun _ : Unit => False) (fun _ _ _ => True) (zA B 80)) 8 48 (zA B 80) := by
  refine zol_i (P' := fun (u : Nat × zS) H => zQ E B u.2 H) (by decide) (Nat.le_of_ble_eq_true rfl) fun p e R s m args below meth c Q ls hR hx hb hml ht hown hK hZ hH hN htab hl hend => ?_
  have hS : va_S (zA B 80) s.heap s.heap [] := va_S.rf
  have hown : s.vm.findClass "WholeDeskLaw" = some m.cls := hown
  have hl : lv_has ls 6 [(0, .ref (B)), (1, .int (iZ (a))), (2, .int (iZ (b))), (3, .int (iZ (q))), (4, .int (iZ (t)))] := hl
  refine lv_aload_n hx hb dL_divide_0 rfl (lv_at hl 0 rfl) ?_
  refine lv_iload_n hx hb dL_divide_1 rfl (lv_at hl 1 rfl) ?_
  refine lv_iload_n hx hb dL_divide_2 rfl (lv_at hl 2 rfl) ?_
  refine lv_iload_n hx hb dL_divide_3 rfl (lv_at hl 3 rfl) ?_
  refine lv_iload hx hb dL_divide_4 (lv_at hl 4 rfl) ?_
  refine zyX_v (P' := fun (u : zS) H => zQ E B u H) (BX := (fun (C : String) (u : Nat × zS) (H : Heap) => C = zcl u.1 ∧ zQ E B u.2 H)) 4 (As := [.int (iZ (a)), .int (iZ (b)), .int (iZ (q)), .int (iZ (t))]) (rest := []) rfl ⟨hx, hb, hml, hown, ht⟩ (mS_divide l hl0 E B rg ct f st g a hz_a b hz_b q hz_q t hz_t) tw_406 tw_403 tw_404 tw_405 tw_1 qS_divide (by rw [hR]; decide) (hZ.recv hK) hZ hK (hH.narrow (fun _ h => h)) hl.1 rfl rfl (Nat.le_of_ble_eq_true rfl) dL_divide_6 ⟨by rw [hR]; decide, by rw [hR]; decide⟩ (fun _ h => h) hS (fun C ce q9 u H locs hpx hbx hz9 hk9 hS hce hcv hcl => ?_) (fun u H locs hp hQ hz9 hk9 hS => ?_)
  · obtain ⟨k, σ1⟩ := u
    obtain ⟨hsp, hk0⟩ := hpx
    obtain ⟨rfl, hQ⟩ := hbx
    dsimp only at hsp hk0 hQ hcl
    have hk4 : k = 1 ∨ k = 2 ∨ k = 3 := by rcases hsp with h | h | h | h <;> omega
    rcases hk4 with rfl | rfl | rfl
    · refine zcat (X := "java/lang/IllegalArgumentException") ht hown hH [] ⟨0, 9, 12, 13⟩ [⟨0, 9, 16, 21⟩] (htab.trans rfl) (fun z hz => absurd hz List.not_mem_nil) rfl (by decide) tw_159 (by decide +kernel) hce hcv hcl ?_
      refine lv_astore (lv' := [(5, .ref q9), (0, .ref (B)), (1, .int (iZ (a))), (2, .int (iZ (b))), (3, .int (iZ (q))), (4, .int (iZ (t)))]) hx hb dL_divide_12 hl (by decide) rfl (fun ls hl => ?_)
      refine lv_iconst (v := iZ (1)) hx hb dL_divide_14 (by decide) ?_
      exact hend 15 _ (1, σ1) _ _ _ _ _ ⟨by decide, by decide⟩ dL_divide_15 ⟨rfl, hsp⟩ hQ hS
    · exfalso
      rcases hsp with h | h | h | h
      · exact absurd h.1 (by decide)
      · exact h.2.2.1.elim
      · exact absurd h.1 (by decide)
      · exact absurd h.1 (by decide)
    · refine zcat (X := "java/lang/ArithmeticException") ht hown hH [⟨0, 9, 12, 13⟩] ⟨0, 9, 16, 21⟩ [] (htab.trans rfl) (fun z hz => by rcases List.mem_cons.mp hz with h9 | h9; rw [h9]; exact ⟨by decide, "java/lang/IllegalArgumentException", tw_159, hN.2.1⟩; exact absurd h9 List.not_mem_nil) rfl (by decide) tw_239 (by decide +kernel) hce hcv hcl ?_
      refine lv_astore (lv' := [(5, .ref q9), (0, .ref (B)), (1, .int (iZ (a))), (2, .int (iZ (b))), (3, .int (iZ (q))), (4, .int (iZ (t)))]) hx hb dL_divide_16 hl (by decide) rfl (fun ls hl => ?_)
      refine lv_iconst (v := iZ (2)) hx hb dL_divide_18 (by decide) ?_
      exact hend 19 _ (3, σ1) _ _ _ _ _ ⟨by decide, by decide⟩ dL_divide_19 ⟨rfl, hsp⟩ hQ hS
  · refine lv_goto (tgt := 20) hx hb dL_divide_9 (by decide) ?_
    refine lv_iconst (v := iZ (0)) hx hb dL_divide_20 (by decide) ?_
    exact hend 21 _ (0, u) _ _ _ _ _ ⟨by decide, by decide⟩ dL_divide_21 ⟨rfl, hp⟩ hQ hS
set_option maxHeartbeats 4000000 in
set_option maxRecDepth 100000 in
theorem mL_modulo (l : Launch) (hl0 : l.stackTraces = false) (E : zE) (B : Nat) (rg : Nat → Int) (ct : Nat) (f : Nat → Nat) (st : Nat) (g : Nat → Nat) (a : Int) (hz_a : zi a) (mm : Int) (hz_mm : zi mm) (to : Int) (hz_to : zi to) :
    vx_Met l yL_modulo (zwl yL_modulo cL_modulo 5 [(0, 7, 10, 13), (0, 7, 14, 21)]) { frames := 8, cells := 8, slots := 48, locals := 203 } (zPl E (zA B 80) (zQ E B (rg, ct, f, st, g)) [.ref (B), .int (iZ (a)), .int (iZ (mm)), .int (iZ (to))]) (va_Qi (fun (r : Int32) (u : Nat × zS) => r = iZ ↑(tc u.1) ∧ SP (rok a ∧ rok mm ∧ rok to) (False) (¬ 0 < rg mm.toNat) (fun τ => 0 < rg mm.toNat ∧ τ = (va_up rg to.toNat (rg a.toNat % rg mm.toNat), ct, f, st, g)) (rg, ct, f, st, g) u.1 u.2) (fun u t => (zQ E B u.2 t.heap) ∧ zK E t) (zA B 80)) (vx_X (fun _ : Unit => False) (fun _ _ _ => True) (zA B 80)) 8 48 (zA B 80) := by
  refine zol_i (P' := fun (u : Nat × zS) H => zQ E B u.2 H) (by decide) (Nat.le_of_ble_eq_true rfl) fun p e R s m args below meth c Q ls hR hx hb hml ht hown hK hZ hH hN htab hl hend => ?_
  have hS : va_S (zA B 80) s.heap s.heap [] := va_S.rf
  have hown : s.vm.findClass "WholeDeskLaw" = some m.cls := hown
  have hl : lv_has ls 5 [(0, .ref (B)), (1, .int (iZ (a))), (2, .int (iZ (mm))), (3, .int (iZ (to)))] := hl
  refine lv_aload_n hx hb dL_modulo_0 rfl (lv_at hl 0 rfl) ?_
  refine lv_iload_n hx hb dL_modulo_1 rfl (lv_at hl 1 rfl) ?_
  refine lv_iload_n hx hb dL_modulo_2 rfl (lv_at hl 2 rfl) ?_
  refine lv_iload_n hx hb dL_modulo_3 rfl (lv_at hl 3 rfl) ?_
  refine zyX_v (P' := fun (u : zS) H => zQ E B u H) (BX := (fun (C : String) (u : Nat × zS) (H : Heap) => C = zcl u.1 ∧ zQ E B u.2 H)) 3 (As := [.int (iZ (a)), .int (iZ (mm)), .int (iZ (to))]) (rest := []) rfl ⟨hx, hb, hml, hown, ht⟩ (mS_modulo l hl0 E B rg ct f st g a hz_a mm hz_mm to hz_to) tw_431 tw_428 tw_429 tw_430 tw_1 qS_modulo (by rw [hR]; decide) (hZ.recv hK) hZ hK (hH.narrow (fun _ h => h)) hl.1 rfl rfl (Nat.le_of_ble_eq_true rfl) dL_modulo_4 ⟨by rw [hR]; decide, by rw [hR]; decide⟩ (fun _ h => h) hS (fun C ce q9 u H locs hpx hbx hz9 hk9 hS hce hcv hcl => ?_) (fun u H locs hp hQ hz9 hk9 hS => ?_)
  · obtain ⟨k, σ1⟩ := u
    obtain ⟨hsp, hk0⟩ := hpx
    obtain ⟨rfl, hQ⟩ := hbx
    dsimp only at hsp hk0 hQ hcl
    have hk4 : k = 1 ∨ k = 2 ∨ k = 3 := by rcases hsp with h | h | h | h <;> omega
    rcases hk4 with rfl | rfl | rfl
    · refine zcat (X := "java/lang/IllegalArgumentException") ht hown hH [] ⟨0, 7, 10, 13⟩ [⟨0, 7, 14, 21⟩] (htab.trans rfl) (fun z hz => absurd hz List.not_mem_nil) rfl (by decide) tw_159 (by decide +kernel) hce hcv hcl ?_
      refine lv_astore (lv' := [(4, .ref q9), (0, .ref (B)), (1, .int (iZ (a))), (2, .int (iZ (mm))), (3, .int (iZ (to)))]) hx hb dL_modulo_10 hl (by decide) rfl (fun ls hl => ?_)
      refine lv_iconst (v := iZ (1)) hx hb dL_modulo_12 (by decide) ?_
      exact hend 13 _ (1, σ1) _ _ _ _ _ ⟨by decide, by decide⟩ dL_modulo_13 ⟨rfl, hsp⟩ hQ hS
    · exfalso
      rcases hsp with h | h | h | h
      · exact absurd h.1 (by decide)
      · exact h.2.2.1.elim
      · exact absurd h.1 (by decide)
      · exact absurd h.1 (by decide)
    · refine zcat (X := "java/lang/ArithmeticException") ht hown hH [⟨0, 7, 10, 13⟩] ⟨0, 7, 14, 21⟩ [] (htab.trans rfl) (fun z hz => by rcases List.mem_cons.mp hz with h9 | h9; rw [h9]; exact ⟨by decide, "java/lang/IllegalArgumentException", tw_159, hN.2.1⟩; exact absurd h9 List.not_mem_nil) rfl (by decide) tw_239 (by decide +kernel) hce hcv hcl ?_
      refine lv_astore (lv' := [(4, .ref q9), (0, .ref (B)), (1, .int (iZ (a))), (2, .int (iZ (mm))), (3, .int (iZ (to)))]) hx hb dL_modulo_14 hl (by decide) rfl (fun ls hl => ?_)
      refine lv_iconst (v := iZ (2)) hx hb dL_modulo_16 (by decide) ?_
      exact hend 17 _ (3, σ1) _ _ _ _ _ ⟨by decide, by decide⟩ dL_modulo_17 ⟨rfl, hsp⟩ hQ hS
  · refine lv_goto (tgt := 18) hx hb dL_modulo_7 (by decide) ?_
    refine lv_iconst (v := iZ (0)) hx hb dL_modulo_18 (by decide) ?_
    exact hend 19 _ (0, u) _ _ _ _ _ ⟨by decide, by decide⟩ dL_modulo_19 ⟨rfl, hp⟩ hQ hS
set_option maxHeartbeats 4000000 in
set_option maxRecDepth 100000 in
theorem mL_power (l : Launch) (hl0 : l.stackTraces = false) (E : zE) (B : Nat) (rg : Nat → Int) (ct : Nat) (f : Nat → Nat) (st : Nat) (g : Nat → Nat) (a : Int) (hz_a : zi a) (n : Int) (hz_n : zi n) (to : Int) (hz_to : zi to) :
    vx_Met l yL_power (zwl yL_power cL_power 5 [(0, 7, 10, 13), (0, 7, 14, 21)]) { frames := 8, cells := 8, slots := 48, locals := 174 } (zPl E (zA B 80) (zQ E B (rg, ct, f, st, g)) [.ref (B), .int (iZ (a)), .int (iZ (n)), .int (iZ (to))]) (va_Qi (fun (r : Int32) (u : Nat × zS) => r = iZ ↑(tc u.1) ∧ SP (rok a ∧ rok to ∧ 0 ≤ n) (False) (¬ zX ((rg a.toNat) ^ n.toNat)) (fun τ => zX ((rg a.toNat) ^ n.toNat) ∧ τ = (va_up rg to.toNat ((rg a.toNat) ^ n.toNat), ct, f, st, g)) (rg, ct, f, st, g) u.1 u.2) (fun u t => (zQ E B u.2 t.heap) ∧ zK E t) (zA B 80)) (vx_X (fun _ : Unit => False) (fun _ _ _ => True) (zA B 80)) 8 48 (zA B 80) := by
  refine zol_i (P' := fun (u : Nat × zS) H => zQ E B u.2 H) (by decide) (Nat.le_of_ble_eq_true rfl) fun p e R s m args below meth c Q ls hR hx hb hml ht hown hK hZ hH hN htab hl hend => ?_
  have hS : va_S (zA B 80) s.heap s.heap [] := va_S.rf
  have hown : s.vm.findClass "WholeDeskLaw" = some m.cls := hown
  have hl : lv_has ls 5 [(0, .ref (B)), (1, .int (iZ (a))), (2, .int (iZ (n))), (3, .int (iZ (to)))] := hl
  refine lv_aload_n hx hb dL_power_0 rfl (lv_at hl 0 rfl) ?_
  refine lv_iload_n hx hb dL_power_1 rfl (lv_at hl 1 rfl) ?_
  refine lv_iload_n hx hb dL_power_2 rfl (lv_at hl 2 rfl) ?_
  refine lv_iload_n hx hb dL_power_3 rfl (lv_at hl 3 rfl) ?_
  refine zyX_v (P' := fun (u : zS) H => zQ E B u H) (BX := (fun (C : String) (u : Nat × zS) (H : Heap) => C = zcl u.1 ∧ zQ E B u.2 H)) 3 (As := [.int (iZ (a)), .int (iZ (n)), .int (iZ (to))]) (rest := []) rfl ⟨hx, hb, hml, hown, ht⟩ (mS_power l hl0 E B rg ct f st g a hz_a n hz_n to hz_to) tw_450 tw_447 tw_448 tw_449 tw_1 qS_power (by rw [hR]; decide) (hZ.recv hK) hZ hK (hH.narrow (fun _ h => h)) hl.1 rfl rfl (Nat.le_of_ble_eq_true rfl) dL_power_4 ⟨by rw [hR]; decide, by rw [hR]; decide⟩ (fun _ h => h) hS (fun C ce q9 u H locs hpx hbx hz9 hk9 hS hce hcv hcl => ?_) (fun u H locs hp hQ hz9 hk9 hS => ?_)
  · obtain ⟨k, σ1⟩ := u
    obtain ⟨hsp, hk0⟩ := hpx
    obtain ⟨rfl, hQ⟩ := hbx
    dsimp only at hsp hk0 hQ hcl
    have hk4 : k = 1 ∨ k = 2 ∨ k = 3 := by rcases hsp with h | h | h | h <;> omega
    rcases hk4 with rfl | rfl | rfl
    · refine zcat (X := "java/lang/IllegalArgumentException") ht hown hH [] ⟨0, 7, 10, 13⟩ [⟨0, 7, 14, 21⟩] (htab.trans rfl) (fun z hz => absurd hz List.not_mem_nil) rfl (by decide) tw_159 (by decide +kernel) hce hcv hcl ?_
      refine lv_astore (lv' := [(4, .ref q9), (0, .ref (B)), (1, .int (iZ (a))), (2, .int (iZ (n))), (3, .int (iZ (to)))]) hx hb dL_power_10 hl (by decide) rfl (fun ls hl => ?_)
      refine lv_iconst (v := iZ (1)) hx hb dL_power_12 (by decide) ?_
      exact hend 13 _ (1, σ1) _ _ _ _ _ ⟨by decide, by decide⟩ dL_power_13 ⟨rfl, hsp⟩ hQ hS
    · exfalso
      rcases hsp with h | h | h | h
      · exact absurd h.1 (by decide)
      · exact h.2.2.1.elim
      · exact absurd h.1 (by decide)
      · exact absurd h.1 (by decide)
    · refine zcat (X := "java/lang/ArithmeticException") ht hown hH [⟨0, 7, 10, 13⟩] ⟨0, 7, 14, 21⟩ [] (htab.trans rfl) (fun z hz => by rcases List.mem_cons.mp hz with h9 | h9; rw [h9]; exact ⟨by decide, "java/lang/IllegalArgumentException", tw_159, hN.2.1⟩; exact absurd h9 List.not_mem_nil) rfl (by decide) tw_239 (by decide +kernel) hce hcv hcl ?_
      refine lv_astore (lv' := [(4, .ref q9), (0, .ref (B)), (1, .int (iZ (a))), (2, .int (iZ (n))), (3, .int (iZ (to)))]) hx hb dL_power_14 hl (by decide) rfl (fun ls hl => ?_)
      refine lv_iconst (v := iZ (2)) hx hb dL_power_16 (by decide) ?_
      exact hend 17 _ (3, σ1) _ _ _ _ _ ⟨by decide, by decide⟩ dL_power_17 ⟨rfl, hsp⟩ hQ hS
  · refine lv_goto (tgt := 18) hx hb dL_power_7 (by decide) ?_
    refine lv_iconst (v := iZ (0)) hx hb dL_power_18 (by decide) ?_
    exact hend 19 _ (0, u) _ _ _ _ _ ⟨by decide, by decide⟩ dL_power_19 ⟨rfl, hp⟩ hQ hS
set_option maxHeartbeats 4000000 in
set_option maxRecDepth 100000 in
theorem mL_root (l : Launch) (hl0 : l.stackTraces = false) (E : zE) (B : Nat) (rg : Nat → Int) (ct : Nat) (f : Nat → Nat) (st : Nat) (g : Nat → Nat) (a : Int) (hz_a : zi a) (n : Int) (hz_n : zi n) (to : Int) (hz_to : zi to) :
    vx_Met l yL_root (zwl yL_root cL_root 5 [(0, 7, 10, 13), (0, 7, 14, 21)]) { frames := 8, cells := 8, slots := 48, locals := 233 } (zPl E (zA B 80) (zQ E B (rg, ct, f, st, g)) [.ref (B), .int (iZ (a)), .int (iZ (n)), .int (iZ (to))]) (va_Qi (fun (r : Int32) (u : Nat × zS) => r = iZ ↑(tc u.1) ∧ SP (rok a ∧ rok to ∧ 1 ≤ n ∧ n ≤ 64) (False) (rg a.toNat < 0) (fun τ => 0 ≤ rg a.toNat ∧ ∃ r : Nat, r ^ n.toNat ≤ (rg a.toNat).natAbs ∧ (rg a.toNat).natAbs < (r + 1) ^ n.toNat ∧ τ = (va_up rg to.toNat (((r : Nat) : Int)), ct, f, st, g)) (rg, ct, f, st, g) u.1 u.2) (fun u t => (zQ E B u.2 t.heap) ∧ zK E t) (zA B 80)) (vx_X (fun _ : Unit => False) (fun _ _ _ => True) (zA B 80)) 8 48 (zA B 80) := by
  refine zol_i (P' := fun (u : Nat × zS) H => zQ E B u.2 H) (by decide) (Nat.le_of_ble_eq_true rfl) fun p e R s m args below meth c Q ls hR hx hb hml ht hown hK hZ hH hN htab hl hend => ?_
  have hS : va_S (zA B 80) s.heap s.heap [] := va_S.rf
  have hown : s.vm.findClass "WholeDeskLaw" = some m.cls := hown
  have hl : lv_has ls 5 [(0, .ref (B)), (1, .int (iZ (a))), (2, .int (iZ (n))), (3, .int (iZ (to)))] := hl
  refine lv_aload_n hx hb dL_root_0 rfl (lv_at hl 0 rfl) ?_
  refine lv_iload_n hx hb dL_root_1 rfl (lv_at hl 1 rfl) ?_
  refine lv_iload_n hx hb dL_root_2 rfl (lv_at hl 2 rfl) ?_
  refine lv_iload_n hx hb dL_root_3 rfl (lv_at hl 3 rfl) ?_
  refine zyX_v (P' := fun (u : zS) H => zQ E B u H) (BX := (fun (C : String) (u : Nat × zS) (H : Heap) => C = zcl u.1 ∧ zQ E B u.2 H)) 3 (As := [.int (iZ (a)), .int (iZ (n)), .int (iZ (to))]) (rest := []) rfl ⟨hx, hb, hml, hown, ht⟩ (mS_root l hl0 E B rg ct f st g a hz_a n hz_n to hz_to) tw_469 tw_466 tw_467 tw_468 tw_1 qS_root (by rw [hR]; decide) (hZ.recv hK) hZ hK (hH.narrow (fun _ h => h)) hl.1 rfl rfl (Nat.le_of_ble_eq_true rfl) dL_root_4 ⟨by rw [hR]; decide, by rw [hR]; decide⟩ (fun _ h => h) hS (fun C ce q9 u H locs hpx hbx hz9 hk9 hS hce hcv hcl => ?_) (fun u H locs hp hQ hz9 hk9 hS => ?_)
  · obtain ⟨k, σ1⟩ := u
    obtain ⟨hsp, hk0⟩ := hpx
    obtain ⟨rfl, hQ⟩ := hbx
    dsimp only at hsp hk0 hQ hcl
    have hk4 : k = 1 ∨ k = 2 ∨ k = 3 := by rcases hsp with h | h | h | h <;> omega
    rcases hk4 with rfl | rfl | rfl
    · refine zcat (X := "java/lang/IllegalArgumentException") ht hown hH [] ⟨0, 7, 10, 13⟩ [⟨0, 7, 14, 21⟩] (htab.trans rfl) (fun z hz => absurd hz List.not_mem_nil) rfl (by decide) tw_159 (by decide +kernel) hce hcv hcl ?_
      refine lv_astore (lv' := [(4, .ref q9), (0, .ref (B)), (1, .int (iZ (a))), (2, .int (iZ (n))), (3, .int (iZ (to)))]) hx hb dL_root_10 hl (by decide) rfl (fun ls hl => ?_)
      refine lv_iconst (v := iZ (1)) hx hb dL_root_12 (by decide) ?_
      exact hend 13 _ (1, σ1) _ _ _ _ _ ⟨by decide, by decide⟩ dL_root_13 ⟨rfl, hsp⟩ hQ hS
    · exfalso
      rcases hsp with h | h | h | h
      · exact absurd h.1 (by decide)
      · exact h.2.2.1.elim
      · exact absurd h.1 (by decide)
      · exact absurd h.1 (by decide)
    · refine zcat (X := "java/lang/ArithmeticException") ht hown hH [⟨0, 7, 10, 13⟩] ⟨0, 7, 14, 21⟩ [] (htab.trans rfl) (fun z hz => by rcases List.mem_cons.mp hz with h9 | h9; rw [h9]; exact ⟨by decide, "java/lang/IllegalArgumentException", tw_159, hN.2.1⟩; exact absurd h9 List.not_mem_nil) rfl (by decide) tw_239 (by decide +kernel) hce hcv hcl ?_
      refine lv_astore (lv' := [(4, .ref q9), (0, .ref (B)), (1, .int (iZ (a))), (2, .int (iZ (n))), (3, .int (iZ (to)))]) hx hb dL_root_14 hl (by decide) rfl (fun ls hl => ?_)
      refine lv_iconst (v := iZ (2)) hx hb dL_root_16 (by decide) ?_
      exact hend 17 _ (3, σ1) _ _ _ _ _ ⟨by decide, by decide⟩ dL_root_17 ⟨rfl, hsp⟩ hQ hS
  · refine lv_goto (tgt := 18) hx hb dL_root_7 (by decide) ?_
    refine lv_iconst (v := iZ (0)) hx hb dL_root_18 (by decide) ?_
    exact hend 19 _ (0, u) _ _ _ _ _ ⟨by decide, by decide⟩ dL_root_19 ⟨rfl, hp⟩ hQ hS
set_option maxHeartbeats 4000000 in
set_option maxRecDepth 100000 in
theorem mL_common (l : Launch) (hl0 : l.stackTraces = false) (E : zE) (B : Nat) (rg : Nat → Int) (ct : Nat) (f : Nat → Nat) (st : Nat) (g : Nat → Nat) (a : Int) (hz_a : zi a) (b : Int) (hz_b : zi b) (to : Int) (hz_to : zi to) :
    vx_Met l yL_common (zwl yL_common cL_common 5 [(0, 7, 10, 13)]) { frames := 8, cells := 8, slots := 48, locals := 203 } (zPl E (zA B 80) (zQ E B (rg, ct, f, st, g)) [.ref (B), .int (iZ (a)), .int (iZ (b)), .int (iZ (to))]) (va_Qi (fun (r : Int32) (u : Nat × zS) => r = iZ ↑(tc u.1) ∧ SP (rok a ∧ rok b ∧ rok to) (False) (False) (fun τ => τ = (va_up rg to.toNat (((Nat.gcd (rg a.toNat).natAbs (rg b.toNat).natAbs : Nat) : Int)), ct, f, st, g)) (rg, ct, f, st, g) u.1 u.2) (fun u t => (zQ E B u.2 t.heap) ∧ zK E t) (zA B 80)) (vx_X (fun _ : Unit => False) (fun _ _ _ => True) (zA B 80)) 8 48 (zA B 80) := by
  refine zol_i (P' := fun (u : Nat × zS) H => zQ E B u.2 H) (by decide) (Nat.le_of_ble_eq_true rfl) fun p e R s m args below meth c Q ls hR hx hb hml ht hown hK hZ hH hN htab hl hend => ?_
  have hS : va_S (zA B 80) s.heap s.heap [] := va_S.rf
  have hown : s.vm.findClass "WholeDeskLaw" = some m.cls := hown
  have hl : lv_has ls 5 [(0, .ref (B)), (1, .int (iZ (a))), (2, .int (iZ (b))), (3, .int (iZ (to)))] := hl
  refine lv_aload_n hx hb dL_common_0 rfl (lv_at hl 0 rfl) ?_
  refine lv_iload_n hx hb dL_common_1 rfl (lv_at hl 1 rfl) ?_
  refine lv_iload_n hx hb dL_common_2 rfl (lv_at hl 2 rfl) ?_
  refine lv_iload_n hx hb dL_common_3 rfl (lv_at hl 3 rfl) ?_
  refine zyX_v (P' := fun (u : zS) H => zQ E B u H) (BX := (fun (C : String) (u : Nat × zS) (H : Heap) => C = zcl u.1 ∧ zQ E B u.2 H)) 3 (As := [.int (iZ (a)), .int (iZ (b)), .int (iZ (to))]) (rest := []) rfl ⟨hx, hb, hml, hown, ht⟩ (mS_common l hl0 E B rg ct f st g a hz_a b hz_b to hz_to) tw_496 tw_493 tw_494 tw_495 tw_1 qS_common (by rw [hR]; decide) (hZ.recv hK) hZ hK (hH.narrow (fun _ h => h)) hl.1 rfl rfl (Nat.le_of_ble_eq_true rfl) dL_common_4 ⟨by rw [hR]; decide, by rw [hR]; decide⟩ (fun _ h => h) hS (fun C ce q9 u H locs hpx hbx hz9 hk9 hS hce hcv hcl => ?_) (fun u H locs hp hQ hz9 hk9 hS => ?_)
  · obtain ⟨k, σ1⟩ := u
    obtain ⟨hsp, hk0⟩ := hpx
    obtain ⟨rfl, hQ⟩ := hbx
    dsimp only at hsp hk0 hQ hcl
    have hk4 : k = 1 ∨ k = 2 ∨ k = 3 := by rcases hsp with h | h | h | h <;> omega
    rcases hk4 with rfl | rfl | rfl
    · refine zcat (X := "java/lang/IllegalArgumentException") ht hown hH [] ⟨0, 7, 10, 13⟩ [] (htab.trans rfl) (fun z hz => absurd hz List.not_mem_nil) rfl (by decide) tw_159 (by decide +kernel) hce hcv hcl ?_
      refine lv_astore (lv' := [(4, .ref q9), (0, .ref (B)), (1, .int (iZ (a))), (2, .int (iZ (b))), (3, .int (iZ (to)))]) hx hb dL_common_10 hl (by decide) rfl (fun ls hl => ?_)
      refine lv_iconst (v := iZ (1)) hx hb dL_common_12 (by decide) ?_
      exact hend 13 _ (1, σ1) _ _ _ _ _ ⟨by decide, by decide⟩ dL_common_13 ⟨rfl, hsp⟩ hQ hS
    · exfalso
      rcases hsp with h | h | h | h
      · exact absurd h.1 (by decide)
      · exact h.2.2.1.elim
      · exact absurd h.1 (by decide)
      · exact absurd h.1 (by decide)
    · exfalso
      rcases hsp with h | h | h | h
      · exact absurd h.1 (by decide)
      · exact absurd h.1 (by decide)
      · exact h.2.2.1.elim
      · exact absurd h.1 (by decide)
  · refine lv_goto (tgt := 14) hx hb dL_common_7 (by decide) ?_
    refine lv_iconst (v := iZ (0)) hx hb dL_common_14 (by decide) ?_
    exact hend 15 _ (0, u) _ _ _ _ _ ⟨by decide, by decide⟩ dL_common_15 ⟨rfl, hp⟩ hQ hS
set_option maxHeartbeats 4000000 in
set_option maxRecDepth 100000 in
theorem mL_inverse (l : Launch) (hl0 : l.stackTraces = false) (E : zE) (B : Nat) (rg : Nat → Int) (ct : Nat) (f : Nat → Nat) (st : Nat) (g : Nat → Nat) (a : Int) (hz_a : zi a) (mm : Int) (hz_mm : zi mm) (to : Int) (hz_to : zi to) :
    vx_Met l yL_inverse (zwl yL_inverse cL_inverse 5 [(0, 7, 10, 13), (0, 7, 14, 21)]) { frames := 8, cells := 8, slots := 48, locals := 243 } (zPl E (zA B 80) (zQ E B (rg, ct, f, st, g)) [.ref (B), .int (iZ (a)), .int (iZ (mm)), .int (iZ (to))]) (va_Qi (fun (r : Int32) (u : Nat × zS) => r = iZ ↑(tc u.1) ∧ SP (rok a ∧ rok mm ∧ rok to) (False) (¬ 0 < rg mm.toNat ∨ Nat.gcd (rg mm.toNat).natAbs (rg a.toNat).natAbs ≠ 1) (fun τ => 0 < rg mm.toNat ∧ ∃ z : Nat, ((z : Nat) : Int) < rg mm.toNat ∧ (rg mm.toNat) ∣ (rg a.toNat) * ((z : Nat) : Int) - 1 ∧ τ = (va_up rg to.toNat (((z : Nat) : Int)), ct, f, st, g)) (rg, ct, f, st, g) u.1 u.2) (fun u t => (zQ E B u.2 t.heap) ∧ zK E t) (zA B 80)) (vx_X (fun _ : Unit => False) (fun _ _ _ => True) (zA B 80)) 8 48 (zA B 80) := by
  refine zol_i (P' := fun (u : Nat × zS) H => zQ E B u.2 H) (by decide) (Nat.le_of_ble_eq_true rfl) fun p e R s m args below meth c Q ls hR hx hb hml ht hown hK hZ hH hN htab hl hend => ?_
  have hS : va_S (zA B 80) s.heap s.heap [] := va_S.rf
  have hown : s.vm.findClass "WholeDeskLaw" = some m.cls := hown
  have hl : lv_has ls 5 [(0, .ref (B)), (1, .int (iZ (a))), (2, .int (iZ (mm))), (3, .int (iZ (to)))] := hl
  refine lv_aload_n hx hb dL_inverse_0 rfl (lv_at hl 0 rfl) ?_
  refine lv_iload_n hx hb dL_inverse_1 rfl (lv_at hl 1 rfl) ?_
  refine lv_iload_n hx hb dL_inverse_2 rfl (lv_at hl 2 rfl) ?_
  refine lv_iload_n hx hb dL_inverse_3 rfl (lv_at hl 3 rfl) ?_
  refine zyX_v (P' := fun (u : zS) H => zQ E B u H) (BX := (fun (C : String) (u : Nat × zS) (H : Heap) => C = zcl u.1 ∧ zQ E B u.2 H)) 3 (As := [.int (iZ (a)), .int (iZ (mm)), .int (iZ (to))]) (rest := []) rfl ⟨hx, hb, hml, hown, ht⟩ (mS_inverse l hl0 E B rg ct f st g a hz_a mm hz_mm to hz_to) tw_507 tw_504 tw_505 tw_506 tw_1 qS_inverse (by rw [hR]; decide) (hZ.recv hK) hZ hK (hH.narrow (fun _ h => h)) hl.1 rfl rfl (Nat.le_of_ble_eq_true rfl) dL_inverse_4 ⟨by rw [hR]; decide, by rw [hR]; decide⟩ (fun _ h => h) hS (fun C ce q9 u H locs hpx hbx hz9 hk9 hS hce hcv hcl => ?_) (fun u H locs hp hQ hz9 hk9 hS => ?_)
  · obtain ⟨k, σ1⟩ := u
    obtain ⟨hsp, hk0⟩ := hpx
    obtain ⟨rfl, hQ⟩ := hbx
    dsimp only at hsp hk0 hQ hcl
    have hk4 : k = 1 ∨ k = 2 ∨ k = 3 := by rcases hsp with h | h | h | h <;> omega
    rcases hk4 with rfl | rfl | rfl
    · refine zcat (X := "java/lang/IllegalArgumentException") ht hown hH [] ⟨0, 7, 10, 13⟩ [⟨0, 7, 14, 21⟩] (htab.trans rfl) (fun z hz => absurd hz List.not_mem_nil) rfl (by decide) tw_159 (by decide +kernel) hce hcv hcl ?_
      refine lv_astore (lv' := [(4, .ref q9), (0, .ref (B)), (1, .int (iZ (a))), (2, .int (iZ (mm))), (3, .int (iZ (to)))]) hx hb dL_inverse_10 hl (by decide) rfl (fun ls hl => ?_)
      refine lv_iconst (v := iZ (1)) hx hb dL_inverse_12 (by decide) ?_
      exact hend 13 _ (1, σ1) _ _ _ _ _ ⟨by decide, by decide⟩ dL_inverse_13 ⟨rfl, hsp⟩ hQ hS
    · exfalso
      rcases hsp with h | h | h | h
      · exact absurd h.1 (by decide)
      · exact h.2.2.1.elim
      · exact absurd h.1 (by decide)
      · exact absurd h.1 (by decide)
    · refine zcat (X := "java/lang/ArithmeticException") ht hown hH [⟨0, 7, 10, 13⟩] ⟨0, 7, 14, 21⟩ [] (htab.trans rfl) (fun z hz => by rcases List.mem_cons.mp hz with h9 | h9; rw [h9]; exact ⟨by decide, "java/lang/IllegalArgumentException", tw_159, hN.2.1⟩; exact absurd h9 List.not_mem_nil) rfl (by decide) tw_239 (by decide +kernel) hce hcv hcl ?_
      refine lv_astore (lv' := [(4, .ref q9), (0, .ref (B)), (1, .int (iZ (a))), (2, .int (iZ (mm))), (3, .int (iZ (to)))]) hx hb dL_inverse_14 hl (by decide) rfl (fun ls hl => ?_)
      refine lv_iconst (v := iZ (2)) hx hb dL_inverse_16 (by decide) ?_
      exact hend 17 _ (3, σ1) _ _ _ _ _ ⟨by decide, by decide⟩ dL_inverse_17 ⟨rfl, hsp⟩ hQ hS
  · refine lv_goto (tgt := 18) hx hb dL_inverse_7 (by decide) ?_
    refine lv_iconst (v := iZ (0)) hx hb dL_inverse_18 (by decide) ?_
    exact hend 19 _ (0, u) _ _ _ _ _ ⟨by decide, by decide⟩ dL_inverse_19 ⟨rfl, hp⟩ hQ hS
set_option maxHeartbeats 4000000 in
set_option maxRecDepth 100000 in
theorem mL_powerModulo (l : Launch) (hl0 : l.stackTraces = false) (E : zE) (B : Nat) (rg : Nat → Int) (ct : Nat) (f : Nat → Nat) (st : Nat) (g : Nat → Nat) (a : Int) (hz_a : zi a) (xe : Int) (hz_xe : zi xe) (mm : Int) (hz_mm : zi mm) (to : Int) (hz_to : zi to) :
    vx_Met l yL_powerModulo (zwl yL_powerModulo cL_powerModulo 6 [(0, 9, 12, 13), (0, 9, 16, 21)]) { frames := 9, cells := 8, slots := 48, locals := 264 } (zPl E (zA B 80) (zQ E B (rg, ct, f, st, g)) [.ref (B), .int (iZ (a)), .int (iZ (xe)), .int (iZ (mm)), .int (iZ (to))]) (va_Qi (fun (r : Int32) (u : Nat × zS) => r = iZ ↑(tc u.1) ∧ SP (rok a ∧ rok xe ∧ rok mm ∧ rok to) (False) (¬ 0 < rg mm.toNat ∨ (rg xe.toNat < 0 ∧ Nat.gcd (rg mm.toNat).natAbs (rg a.toNat).natAbs ≠ 1)) (fun τ => 0 < rg mm.toNat ∧ (rg xe.toNat < 0 → Nat.gcd (rg mm.toNat).natAbs (rg a.toNat).natAbs = 1) ∧ ∃ bs : Nat, ((bs : Nat) : Int) < rg mm.toNat ∧ ((rg xe.toNat < 0 ∧ (rg mm.toNat) ∣ (rg a.toNat) * ((bs : Nat) : Int) - 1) ∨ (0 ≤ rg xe.toNat ∧ ((bs : Nat) : Int) = (rg a.toNat) % (rg mm.toNat))) ∧ τ = (va_up rg to.toNat (((bs ^ (rg xe.toNat).natAbs % (rg mm.toNat).natAbs : Nat) : Int)), ct, f, st, g)) (rg, ct, f, st, g) u.1 u.2) (fun u t => (zQ E B u.2 t.heap) ∧ zK E t) (zA B 80)) (vx_X (fun _ : Unit => False) (fun _ _ _ => True) (zA B 80)) 8 48 (zA B 80) := by
  refine zol_i (P' := fun (u : Nat × zS) H => zQ E B u.2 H) (by decide) (Nat.le_of_ble_eq_true rfl) fun p e R s m args below meth c Q ls hR hx hb hml ht hown hK hZ hH hN htab hl hend => ?_
  have hS : va_S (zA B 80) s.heap s.heap [] := va_S.rf
  have hown : s.vm.findClass "WholeDeskLaw" = some m.cls := hown
  have hl : lv_has ls 6 [(0, .ref (B)), (1, .int (iZ (a))), (2, .int (iZ (xe))), (3, .int (iZ (mm))), (4, .int (iZ (to)))] := hl
  refine lv_aload_n hx hb dL_powerModulo_0 rfl (lv_at hl 0 rfl) ?_
  refine lv_iload_n hx hb dL_powerModulo_1 rfl (lv_at hl 1 rfl) ?_
  refine lv_iload_n hx hb dL_powerModulo_2 rfl (lv_at hl 2 rfl) ?_
  refine lv_iload_n hx hb dL_powerModulo_3 rfl (lv_at hl 3 rfl) ?_
  refine lv_iload hx hb dL_powerModulo_4 (lv_at hl 4 rfl) ?_
  refine zyX_v (P' := fun (u : zS) H => zQ E B u H) (BX := (fun (C : String) (u : Nat × zS) (H : Heap) => C = zcl u.1 ∧ zQ E B u.2 H)) 4 (As := [.int (iZ (a)), .int (iZ (xe)), .int (iZ (mm)), .int (iZ (to))]) (rest := []) rfl ⟨hx, hb, hml, hown, ht⟩ (mS_powerModulo l hl0 E B rg ct f st g a hz_a xe hz_xe mm hz_mm to hz_to) tw_530 tw_527 tw_528 tw_529 tw_1 qS_powerModulo (by rw [hR]; decide) (hZ.recv hK) hZ hK (hH.narrow (fun _ h => h)) hl.1 rfl rfl (Nat.le_of_ble_eq_true rfl) dL_powerModulo_6 ⟨by rw [hR]; decide, by rw [hR]; decide⟩ (fun _ h => h) hS (fun C ce q9 u H locs hpx hbx hz9 hk9 hS hce hcv hcl => ?_) (fun u H locs hp hQ hz9 hk9 hS => ?_)
  · obtain ⟨k, σ1⟩ := u
    obtain ⟨hsp, hk0⟩ := hpx
    obtain ⟨rfl, hQ⟩ := hbx
    dsimp only at hsp hk0 hQ hcl
    have hk4 : k = 1 ∨ k = 2 ∨ k = 3 := by rcases hsp with h | h | h | h <;> omega
    rcases hk4 with rfl | rfl | rfl
    · refine zcat (X := "java/lang/IllegalArgumentException") ht hown hH [] ⟨0, 9, 12, 13⟩ [⟨0, 9, 16, 21⟩] (htab.trans rfl) (fun z hz => absurd hz List.not_mem_nil) rfl (by decide) tw_159 (by decide +kernel) hce hcv hcl ?_
      refine lv_astore (lv' := [(5, .ref q9), (0, .ref (B)), (1, .int (iZ (a))), (2, .int (iZ (xe))), (3, .int (iZ (mm))), (4, .int (iZ (to)))]) hx hb dL_powerModulo_12 hl (by decide) rfl (fun ls hl => ?_)
      refine lv_iconst (v := iZ (1)) hx hb dL_powerModulo_14 (by decide) ?_
      exact hend 15 _ (1, σ1) _ _ _ _ _ ⟨by decide, by decide⟩ dL_powerModulo_15 ⟨rfl, hsp⟩ hQ hS
    · exfalso
      rcases hsp with h | h | h | h
      · exact absurd h.1 (by decide)
      · exact h.2.2.1.elim
      · exact absurd h.1 (by decide)
      · exact absurd h.1 (by decide)
    · refine zcat (X := "java/lang/ArithmeticException") ht hown hH [⟨0, 9, 12, 13⟩] ⟨0, 9, 16, 21⟩ [] (htab.trans rfl) (fun z hz => by rcases List.mem_cons.mp hz with h9 | h9; rw [h9]; exact ⟨by decide, "java/lang/IllegalArgumentException", tw_159, hN.2.1⟩; exact absurd h9 List.not_mem_nil) rfl (by decide) tw_239 (by decide +kernel) hce hcv hcl ?_
      refine lv_astore (lv' := [(5, .ref q9), (0, .ref (B)), (1, .int (iZ (a))), (2, .int (iZ (xe))), (3, .int (iZ (mm))), (4, .int (iZ (to)))]) hx hb dL_powerModulo_16 hl (by decide) rfl (fun ls hl => ?_)
      refine lv_iconst (v := iZ (2)) hx hb dL_powerModulo_18 (by decide) ?_
      exact hend 19 _ (3, σ1) _ _ _ _ _ ⟨by decide, by decide⟩ dL_powerModulo_19 ⟨rfl, hsp⟩ hQ hS
  · refine lv_goto (tgt := 20) hx hb dL_powerModulo_9 (by decide) ?_
    refine lv_iconst (v := iZ (0)) hx hb dL_powerModulo_20 (by decide) ?_
    exact hend 21 _ (0, u) _ _ _ _ _ ⟨by decide, by decide⟩ dL_powerModulo_21 ⟨rfl, hp⟩ hQ hS
set_option maxHeartbeats 4000000 in
set_option maxRecDepth 100000 in
theorem mL_combine (l : Launch) (hl0 : l.stackTraces = false) (E : zE) (B : Nat) (rg : Nat → Int) (ct : Nat) (f : Nat → Nat) (st : Nat) (g : Nat → Nat) (a : Int) (hz_a : zi a) (b : Int) (hz_b : zi b) (to : Int) (hz_to : zi to) (how : Int) (hz_how : zi how) :
    vx_Met l yL_combine (zwl yL_combine cL_combine 6 [(0, 9, 12, 13), (0, 9, 16, 21)]) { frames := 8, cells := 8, slots := 48, locals := 164 } (zPl E (zA B 80) (zQ E B (rg, ct, f, st, g)) [.ref (B), .int (iZ (a)), .int (iZ (b)), .int (iZ (to)), .int (iZ (how))]) (va_Qi (fun (r : Int32) (u : Nat × zS) => r = iZ ↑(tc u.1) ∧ SP (rok a ∧ rok b ∧ rok to ∧ 0 ≤ how ∧ how ≤ 3) (False) (∃ zc : Int, (∀ i, tbz zc i = bop how.toNat (tbz (rg a.toNat) i) (tbz (rg b.toNat) i)) ∧ ¬ zX zc) (fun τ => ∃ zc : Int, (∀ i, tbz zc i = bop how.toNat (tbz (rg a.toNat) i) (tbz (rg b.toNat) i)) ∧ zX zc ∧ τ = (va_up rg to.toNat (zc), ct, f, st, g)) (rg, ct, f, st, g) u.1 u.2) (fun u t => (zQ E B u.2 t.heap) ∧ zK E t) (zA B 80)) (vx_X (fun _ : Unit => False) (fun _ _ _ => True) (zA B 80)) 8 48 (zA B 80) := by
  refine zol_i (P' := fun (u : Nat × zS) H => zQ E B u.2 H) (by decide) (Nat.le_of_ble_eq_true rfl) fun p e R s m args below meth c Q ls hR hx hb hml ht hown hK hZ hH hN htab hl hend => ?_
  have hS : va_S (zA B 80) s.heap s.heap [] := va_S.rf
  have hown : s.vm.findClass "WholeDeskLaw" = some m.cls := hown
  have hl : lv_has ls 6 [(0, .ref (B)), (1, .int (iZ (a))), (2, .int (iZ (b))), (3, .int (iZ (to))), (4, .int (iZ (how)))] := hl
  refine lv_aload_n hx hb dL_combine_0 rfl (lv_at hl 0 rfl) ?_
  refine lv_iload_n hx hb dL_combine_1 rfl (lv_at hl 1 rfl) ?_
  refine lv_iload_n hx hb dL_combine_2 rfl (lv_at hl 2 rfl) ?_
  refine lv_iload_n hx hb dL_combine_3 rfl (lv_at hl 3 rfl) ?_
  refine lv_iload hx hb dL_combine_4 (lv_at hl 4 rfl) ?_
  refine zyX_v (P' := fun (u : zS) H => zQ E B u H) (BX := (fun (C : String) (u : Nat × zS) (H : Heap) => C = zcl u.1 ∧ zQ E B u.2 H)) 4 (As := [.int (iZ (a)), .int (iZ (b)), .int (iZ (to)), .int (iZ (how))]) (rest := []) rfl ⟨hx, hb, hml, hown, ht⟩ (mS_combine l hl0 E B rg ct f st g a hz_a b hz_b to hz_to how hz_how) tw_551 tw_548 tw_549 tw_550 tw_1 qS_combine (by rw [hR]; decide) (hZ.recv hK) hZ hK (hH.narrow (fun _ h => h)) hl.1 rfl rfl (Nat.le_of_ble_eq_true rfl) dL_combine_6 ⟨by rw [hR]; decide, by rw [hR]; decide⟩ (fun _ h => h) hS (fun C ce q9 u H locs hpx hbx hz9 hk9 hS hce hcv hcl => ?_) (fun u H locs hp hQ hz9 hk9 hS => ?_)
  · obtain ⟨k, σ1⟩ := u
    obtain ⟨hsp, hk0⟩ := hpx
    obtain ⟨rfl, hQ⟩ := hbx
    dsimp only at hsp hk0 hQ hcl
    have hk4 : k = 1 ∨ k = 2 ∨ k = 3 := by rcases hsp with h | h | h | h <;> omega
    rcases hk4 with rfl | rfl | rfl
    · refine zcat (X := "java/lang/IllegalArgumentException") ht hown hH [] ⟨0, 9, 12, 13⟩ [⟨0, 9, 16, 21⟩] (htab.trans rfl) (fun z hz => absurd hz List.not_mem_nil) rfl (by decide) tw_159 (by decide +kernel) hce hcv hcl ?_
      refine lv_astore (lv' := [(5, .ref q9), (0, .ref (B)), (1, .int (iZ (a))), (2, .int (iZ (b))), (3, .int (iZ (to))), (4, .int (iZ (how)))]) hx hb dL_combine_12 hl (by decide) rfl (fun ls hl => ?_)
      refine lv_iconst (v := iZ (1)) hx hb dL_combine_14 (by decide) ?_
      exact hend 15 _ (1, σ1) _ _ _ _ _ ⟨by decide, by decide⟩ dL_combine_15 ⟨rfl, hsp⟩ hQ hS
    · exfalso
      rcases hsp with h | h | h | h
      · exact absurd h.1 (by decide)
      · exact h.2.2.1.elim
      · exact absurd h.1 (by decide)
      · exact absurd h.1 (by decide)
    · refine zcat (X := "java/lang/ArithmeticException") ht hown hH [⟨0, 9, 12, 13⟩] ⟨0, 9, 16, 21⟩ [] (htab.trans rfl) (fun z hz => by rcases List.mem_cons.mp hz with h9 | h9; rw [h9]; exact ⟨by decide, "java/lang/IllegalArgumentException", tw_159, hN.2.1⟩; exact absurd h9 List.not_mem_nil) rfl (by decide) tw_239 (by decide +kernel) hce hcv hcl ?_
      refine lv_astore (lv' := [(5, .ref q9), (0, .ref (B)), (1, .int (iZ (a))), (2, .int (iZ (b))), (3, .int (iZ (to))), (4, .int (iZ (how)))]) hx hb dL_combine_16 hl (by decide) rfl (fun ls hl => ?_)
      refine lv_iconst (v := iZ (2)) hx hb dL_combine_18 (by decide) ?_
      exact hend 19 _ (3, σ1) _ _ _ _ _ ⟨by decide, by decide⟩ dL_combine_19 ⟨rfl, hsp⟩ hQ hS
  · refine lv_goto (tgt := 20) hx hb dL_combine_9 (by decide) ?_
    refine lv_iconst (v := iZ (0)) hx hb dL_combine_20 (by decide) ?_
    exact hend 21 _ (0, u) _ _ _ _ _ ⟨by decide, by decide⟩ dL_combine_21 ⟨rfl, hp⟩ hQ hS
set_option maxHeartbeats 4000000 in
set_option maxRecDepth 100000 in
theorem mL_shift (l : Launch) (hl0 : l.stackTraces = false) (E : zE) (B : Nat) (rg : Nat → Int) (ct : Nat) (f : Nat → Nat) (st : Nat) (g : Nat → Nat) (a : Int) (hz_a : zi a) (n : Int) (hz_n : zi n) (to : Int) (hz_to : zi to) :
    vx_Met l yL_shift (zwl yL_shift cL_shift 5 [(0, 7, 10, 13), (0, 7, 14, 21)]) { frames := 8, cells := 8, slots := 48, locals := 164 } (zPl E (zA B 80) (zQ E B (rg, ct, f, st, g)) [.ref (B), .int (iZ (a)), .int (iZ (n)), .int (iZ (to))]) (va_Qi (fun (r : Int32) (u : Nat × zS) => r = iZ ↑(tc u.1) ∧ SP (rok a ∧ rok to) (False) (¬ zX (shz (rg a.toNat) n)) (fun τ => zX (shz (rg a.toNat) n) ∧ τ = (va_up rg to.toNat (shz (rg a.toNat) n), ct, f, st, g)) (rg, ct, f, st, g) u.1 u.2) (fun u t => (zQ E B u.2 t.heap) ∧ zK E t) (zA B 80)) (vx_X (fun _ : Unit => False) (fun _ _ _ => True) (zA B 80)) 8 48 (zA B 80) := by
  refine zol_i (P' := fun (u : Nat × zS) H => zQ E B u.2 H) (by decide) (Nat.le_of_ble_eq_true rfl) fun p e R s m args below meth c Q ls hR hx hb hml ht hown hK hZ hH hN htab hl hend => ?_
  have hS : va_S (zA B 80) s.heap s.heap [] := va_S.rf
  have hown : s.vm.findClass "WholeDeskLaw" = some m.cls := hown
  have hl : lv_has ls 5 [(0, .ref (B)), (1, .int (iZ (a))), (2, .int (iZ (n))), (3, .int (iZ (to)))] := hl
  refine lv_aload_n hx hb dL_shift_0 rfl (lv_at hl 0 rfl) ?_
  refine lv_iload_n hx hb dL_shift_1 rfl (lv_at hl 1 rfl) ?_
  refine lv_iload_n hx hb dL_shift_2 rfl (lv_at hl 2 rfl) ?_
  refine lv_iload_n hx hb dL_shift_3 rfl (lv_at hl 3 rfl) ?_
  refine zyX_v (P' := fun (u : zS) H => zQ E B u H) (BX := (fun (C : String) (u : Nat × zS) (H : Heap) => C = zcl u.1 ∧ zQ E B u.2 H)) 3 (As := [.int (iZ (a)), .int (iZ (n)), .int (iZ (to))]) (rest := []) rfl ⟨hx, hb, hml, hown, ht⟩ (mS_shift l hl0 E B rg ct f st g a hz_a n hz_n to hz_to) tw_573 tw_570 tw_571 tw_572 tw_1 qS_shift (by rw [hR]; decide) (hZ.recv hK) hZ hK (hH.narrow (fun _ h => h)) hl.1 rfl rfl (Nat.le_of_ble_eq_true rfl) dL_shift_4 ⟨by rw [hR]; decide, by rw [hR]; decide⟩ (fun _ h => h) hS (fun C ce q9 u H locs hpx hbx hz9 hk9 hS hce hcv hcl => ?_) (fun u H locs hp hQ hz9 hk9 hS => ?_)
  · obtain ⟨k, σ1⟩ := u
    obtain ⟨hsp, hk0⟩ := hpx
    obtain ⟨rfl, hQ⟩ := hbx
    dsimp only at hsp hk0 hQ hcl
    have hk4 : k = 1 ∨ k = 2 ∨ k = 3 := by rcases hsp with h | h | h | h <;> omega
    rcases hk4 with rfl | rfl | rfl
    · refine zcat (X := "java/lang/IllegalArgumentException") ht hown hH [] ⟨0, 7, 10, 13⟩ [⟨0, 7, 14, 21⟩] (htab.trans rfl) (fun z hz => absurd hz List.not_mem_nil) rfl (by decide) tw_159 (by decide +kernel) hce hcv hcl ?_
      refine lv_astore (lv' := [(4, .ref q9), (0, .ref (B)), (1, .int (iZ (a))), (2, .int (iZ (n))), (3, .int (iZ (to)))]) hx hb dL_shift_10 hl (by decide) rfl (fun ls hl => ?_)
      refine lv_iconst (v := iZ (1)) hx hb dL_shift_12 (by decide) ?_
      exact hend 13 _ (1, σ1) _ _ _ _ _ ⟨by decide, by decide⟩ dL_shift_13 ⟨rfl, hsp⟩ hQ hS
    · exfalso
      rcases hsp with h | h | h | h
      · exact absurd h.1 (by decide)
      · exact h.2.2.1.elim
      · exact absurd h.1 (by decide)
      · exact absurd h.1 (by decide)
    · refine zcat (X := "java/lang/ArithmeticException") ht hown hH [⟨0, 7, 10, 13⟩] ⟨0, 7, 14, 21⟩ [] (htab.trans rfl) (fun z hz => by rcases List.mem_cons.mp hz with h9 | h9; rw [h9]; exact ⟨by decide, "java/lang/IllegalArgumentException", tw_159, hN.2.1⟩; exact absurd h9 List.not_mem_nil) rfl (by decide) tw_239 (by decide +kernel) hce hcv hcl ?_
      refine lv_astore (lv' := [(4, .ref q9), (0, .ref (B)), (1, .int (iZ (a))), (2, .int (iZ (n))), (3, .int (iZ (to)))]) hx hb dL_shift_14 hl (by decide) rfl (fun ls hl => ?_)
      refine lv_iconst (v := iZ (2)) hx hb dL_shift_16 (by decide) ?_
      exact hend 17 _ (3, σ1) _ _ _ _ _ ⟨by decide, by decide⟩ dL_shift_17 ⟨rfl, hsp⟩ hQ hS
  · refine lv_goto (tgt := 18) hx hb dL_shift_7 (by decide) ?_
    refine lv_iconst (v := iZ (0)) hx hb dL_shift_18 (by decide) ?_
    exact hend 19 _ (0, u) _ _ _ _ _ ⟨by decide, by decide⟩ dL_shift_19 ⟨rfl, hp⟩ hQ hS
set_option maxHeartbeats 4000000 in
set_option maxRecDepth 100000 in
theorem mL_bit (l : Launch) (hl0 : l.stackTraces = false) (E : zE) (B : Nat) (rg : Nat → Int) (ct : Nat) (f : Nat → Nat) (st : Nat) (g : Nat → Nat) (a : Int) (hz_a : zi a) (i : Int) (hz_i : zi i) (qo : Nat) (v0 : Int64) (hqo : B + 80 ≤ qo) :
    vx_Met l yL_bit (zwl yL_bit cL_bit 5 [(0, 10, 13, 13)]) { frames := 8, cells := 8, slots := 48, locals := 162 } (zPl E (zAo B qo) (fun H => zQ E B (rg, ct, f, st, g) H ∧ zOc E qo v0 H) [.ref (B), .int (iZ (a)), .int (iZ (i)), .ref (qo)]) (va_Qi (fun (r : Int32) (u : Nat × zS × Int64) => r = iZ ↑(tc u.1) ∧ SP (rok a ∧ 0 ≤ i) (False) (False) (fun τ => τ = (rg, ct, f, st, g)) (rg, ct, f, st, g) u.1 u.2.1 ∧ (u.1 = 0 → ∃ r9 : Int32, u.2.2 = r9.toInt64 ∧ r9 = iZ (bZ (tbz (rg a.toNat) i.toNat)))) (fun u t => (zQ E B u.2.1 t.heap ∧ zOc E qo u.2.2 t.heap) ∧ zK E t) (zAo B qo)) (vx_X (fun _ : Unit => False) (fun _ _ _ => True) (zAo B qo)) 8 48 (zAo B qo) := by
  refine zol_i (P' := fun (u : Nat × zS × Int64) H => zQ E B u.2.1 H ∧ zOc E qo u.2.2 H) (by decide) (Nat.le_of_ble_eq_true rfl) fun p e R s m args below meth c Q ls hR hx hb hml ht hown hK hZ hH hN htab hl hend => ?_
  have hS : va_S (zAo B qo) s.heap s.heap [] := va_S.rf
  have hown : s.vm.findClass "WholeDeskLaw" = some m.cls := hown
  have hl : lv_has ls 5 [(0, .ref (B)), (1, .int (iZ (a))), (2, .int (iZ (i))), (3, .ref (qo))] := hl
  obtain ⟨hZ, ho⟩ := hZ
  refine lv_aload_n hx hb dL_bit_0 rfl (lv_at hl 3 rfl) ?_
  refine lv_iconst (v := iZ 0) hx hb dL_bit_1 (by decide) ?_
  refine lv_aload_n hx hb dL_bit_2 rfl (lv_at hl 0 rfl) ?_
  refine lv_iload_n hx hb dL_bit_3 rfl (lv_at hl 1 rfl) ?_
  refine lv_iload_n hx hb dL_bit_4 rfl (lv_at hl 2 rfl) ?_
  refine zyX_i (P' := fun (u : zS) H => zQ E B u H) (BX := (fun (C : String) (u : Nat × zS) (H : Heap) => C = zcl u.1 ∧ zQ E B u.2 H)) 2 (As := [.int (iZ (a)), .int (iZ (i))]) (rest := [.int (iZ 0), .ref (qo)]) rfl ⟨hx, hb, hml, hown, ht⟩ (mS_bit l hl0 E B rg ct f st g a hz_a i hz_i) tw_605 tw_602 tw_603 tw_604 tw_1 qS_bit (by rw [hR]; decide) (hZ.recv hK) hZ hK (hH.narrow (fun _ h => Or.inl h)) hl.1 rfl rfl (Nat.le_of_ble_eq_true rfl) dL_bit_5 ⟨by rw [hR]; decide, by rw [hR]; decide⟩ (fun _ h => Or.inl h) hS (fun C ce q9 u H locs hpx hbx hz9 hk9 hS hce hcv hcl => ?_) (fun r9 u H locs hp hQ hz9 hk9 hS => ?_)
  · obtain ⟨k, σ1⟩ := u
    obtain ⟨hsp, hk0⟩ := hpx
    obtain ⟨rfl, hQ⟩ := hbx
    dsimp only at hsp hk0 hQ hcl
    have ho : zOc E qo v0 H := by unfold zOc; rw [hk9 qo ho.lt (fun h9 => by have h8 : B ≤ qo ∧ qo < B + 80 := h9; omega)]; exact ho
    have hk4 : k = 1 ∨ k = 2 ∨ k = 3 := by rcases hsp with h | h | h | h <;> omega
    rcases hk4 with rfl | rfl | rfl
    · refine zcat (X := "java/lang/IllegalArgumentException") ht hown hH [] ⟨0, 10, 13, 13⟩ [] (htab.trans rfl) (fun z hz => absurd hz List.not_mem_nil) rfl (by decide) tw_159 (by decide +kernel) hce hcv hcl ?_
      refine lv_astore (lv' := [(4, .ref q9), (0, .ref (B)), (1, .int (iZ (a))), (2, .int (iZ (i))), (3, .ref (qo))]) hx hb dL_bit_13 hl (by decide) rfl (fun ls hl => ?_)
      refine lv_iconst (v := iZ (1)) hx hb dL_bit_15 (by decide) ?_
      exact hend 16 _ (1, σ1, v0) _ _ _ _ _ ⟨by decide, by decide⟩ dL_bit_16 ⟨rfl, hsp, fun h9 => absurd (show (1 : Nat) = 0 from h9) (by decide)⟩ ⟨hQ, ho⟩ hS
    · exfalso
      rcases hsp with h | h | h | h
      · exact absurd h.1 (by decide)
      · exact h.2.2.1.elim
      · exact absurd h.1 (by decide)
      · exact absurd h.1 (by decide)
    · exfalso
      rcases hsp with h | h | h | h
      · exact absurd h.1 (by decide)
      · exact absurd h.1 (by decide)
      · exact h.2.2.1.elim
      · exact absurd h.1 (by decide)
  · have ho : zOc E qo v0 H := by unfold zOc; rw [hk9 qo ho.lt (fun h9 => by have h8 : B ≤ qo ∧ qo < B + 80 := h9; omega)]; exact ho
    refine lv_i2l hx hb dL_bit_8 rfl ?_
    refine zl_out hx hb hK hQ ho hqo hS (Or.inr rfl) dL_bit_9 (fun H locs hQ ho hS => ?_)
    refine lv_goto (tgt := 17) hx hb dL_bit_10 (by decide) ?_
    refine lv_iconst (v := iZ (0)) hx hb dL_bit_17 (by decide) ?_
    exact hend 18 _ (0, u, r9.toInt64) _ _ _ _ _ ⟨by decide, by decide⟩ dL_bit_18 ⟨rfl, hp.1, fun _ => ⟨r9, rfl, hp.2⟩⟩ ⟨hQ, ho⟩ hS
set_option maxHeartbeats 4000000 in
set_option maxRecDepth 100000 in
theorem mL_compare (l : Launch) (hl0 : l.stackTraces = false) (E : zE) (B : Nat) (rg : Nat → Int) (ct : Nat) (f : Nat → Nat) (st : Nat) (g : Nat → Nat) (a : Int) (hz_a : zi a) (b : Int) (hz_b : zi b) (qo : Nat) (v0 : Int64) (hqo : B + 80 ≤ qo) :
    vx_Met l yL_compare (zwl yL_compare cL_compare 5 [(0, 10, 13, 13)]) { frames := 8, cells := 8, slots := 48, locals := 162 } (zPl E (zAo B qo) (fun H => zQ E B (rg, ct, f, st, g) H ∧ zOc E qo v0 H) [.ref (B), .int (iZ (a)), .int (iZ (b)), .ref (qo)]) (va_Qi (fun (r : Int32) (u : Nat × zS × Int64) => r = iZ ↑(tc u.1) ∧ SP (rok a ∧ rok b) (False) (False) (fun τ => τ = (rg, ct, f, st, g)) (rg, ct, f, st, g) u.1 u.2.1 ∧ (u.1 = 0 → ∃ r9 : Int32, u.2.2 = r9.toInt64 ∧ r9 = iZ (cmpZ (rg a.toNat) (rg b.toNat)))) (fun u t => (zQ E B u.2.1 t.heap ∧ zOc E qo u.2.2 t.heap) ∧ zK E t) (zAo B qo)) (vx_X (fun _ : Unit => False) (fun _ _ _ => True) (zAo B qo)) 8 48 (zAo B qo) := by
  refine zol_i (P' := fun (u : Nat × zS × Int64) H => zQ E B u.2.1 H ∧ zOc E qo u.2.2 H) (by decide) (Nat.le_of_ble_eq_true rfl) fun p e R s m args below meth c Q ls hR hx hb hml ht hown hK hZ hH hN htab hl hend => ?_
  have hS : va_S (zAo B qo) s.heap s.heap [] := va_S.rf
  have hown : s.vm.findClass "WholeDeskLaw" = some m.cls := hown
  have hl : lv_has ls 5 [(0, .ref (B)), (1, .int (iZ (a))), (2, .int (iZ (b))), (3, .ref (qo))] := hl
  obtain ⟨hZ, ho⟩ := hZ
  refine lv_aload_n hx hb dL_compare_0 rfl (lv_at hl 3 rfl) ?_
  refine lv_iconst (v := iZ 0) hx hb dL_compare_1 (by decide) ?_
  refine lv_aload_n hx hb dL_compare_2 rfl (lv_at hl 0 rfl) ?_
  refine lv_iload_n hx hb dL_compare_3 rfl (lv_at hl 1 rfl) ?_
  refine lv_iload_n hx hb dL_compare_4 rfl (lv_at hl 2 rfl) ?_
  refine zyX_i (P' := fun (u : zS) H => zQ E B u H) (BX := (fun (C : String) (u : Nat × zS) (H : Heap) => C = zcl u.1 ∧ zQ E B u.2 H)) 2 (As := [.int (iZ (a)), .int (iZ (b))]) (rest := [.int (iZ 0), .ref (qo)]) rfl ⟨hx, hb, hml, hown, ht⟩ (mS_compare l hl0 E B rg ct f st g a hz_a b hz_b) tw_618 tw_615 tw_616 tw_617 tw_1 qS_compare (by rw [hR]; decide) (hZ.recv hK) hZ hK (hH.narrow (fun _ h => Or.inl h)) hl.1 rfl rfl (Nat.le_of_ble_eq_true rfl) dL_compare_5 ⟨by rw [hR]; decide, by rw [hR]; decide⟩ (fun _ h => Or.inl h) hS (fun C ce q9 u H locs hpx hbx hz9 hk9 hS hce hcv hcl => ?_) (fun r9 u H locs hp hQ hz9 hk9 hS => ?_)
  · obtain ⟨k, σ1⟩ := u
    obtain ⟨hsp, hk0⟩ := hpx
    obtain ⟨rfl, hQ⟩ := hbx
    dsimp only at hsp hk0 hQ hcl
    have ho : zOc E qo v0 H := by unfold zOc; rw [hk9 qo ho.lt (fun h9 => by have h8 : B ≤ qo ∧ qo < B + 80 := h9; omega)]; exact ho
    have hk4 : k = 1 ∨ k = 2 ∨ k = 3 := by rcases hsp with h | h | h | h <;> omega
    rcases hk4 with rfl | rfl | rfl
    · refine zcat (X := "java/lang/IllegalArgumentException") ht hown hH [] ⟨0, 10, 13, 13⟩ [] (htab.trans rfl) (fun z hz => absurd hz List.not_mem_nil) rfl (by decide) tw_159 (by decide +kernel) hce hcv hcl ?_
      refine lv_astore (lv' := [(4, .ref q9), (0, .ref (B)), (1, .int (iZ (a))), (2, .int (iZ (b))), (3, .ref (qo))]) hx hb dL_compare_13 hl (by decide) rfl (fun ls hl => ?_)
      refine lv_iconst (v := iZ (1)) hx hb dL_compare_15 (by decide) ?_
      exact hend 16 _ (1, σ1, v0) _ _ _ _ _ ⟨by decide, by decide⟩ dL_compare_16 ⟨rfl, hsp, fun h9 => absurd (show (1 : Nat) = 0 from h9) (by decide)⟩ ⟨hQ, ho⟩ hS
    · exfalso
      rcases hsp with h | h | h | h
      · exact absurd h.1 (by decide)
      · exact h.2.2.1.elim
      · exact absurd h.1 (by decide)
      · exact absurd h.1 (by decide)
    · exfalso
      rcases hsp with h | h | h | h
      · exact absurd h.1 (by decide)
      · exact absurd h.1 (by decide)
      · exact h.2.2.1.elim
      · exact absurd h.1 (by decide)
  · have ho : zOc E qo v0 H := by unfold zOc; rw [hk9 qo ho.lt (fun h9 => by have h8 : B ≤ qo ∧ qo < B + 80 := h9; omega)]; exact ho
    refine lv_i2l hx hb dL_compare_8 rfl ?_
    refine zl_out hx hb hK hQ ho hqo hS (Or.inr rfl) dL_compare_9 (fun H locs hQ ho hS => ?_)
    refine lv_goto (tgt := 17) hx hb dL_compare_10 (by decide) ?_
    refine lv_iconst (v := iZ (0)) hx hb dL_compare_17 (by decide) ?_
    exact hend 18 _ (0, u, r9.toInt64) _ _ _ _ _ ⟨by decide, by decide⟩ dL_compare_18 ⟨rfl, hp.1, fun _ => ⟨r9, rfl, hp.2⟩⟩ ⟨hQ, ho⟩ hS
set_option maxHeartbeats 4000000 in
set_option maxRecDepth 100000 in
theorem mL_told (l : Launch) (hl0 : l.stackTraces = false) (E : zE) (B : Nat) (rg : Nat → Int) (ct : Nat) (f : Nat → Nat) (st : Nat) (g : Nat → Nat) (a : Int) (hz_a : zi a) (what : Int) (hz_what : zi what) (qo : Nat) (v0 : Int64) (hqo : B + 80 ≤ qo) :
    vx_Met l yL_told (zwl yL_told cL_told 5 [(0, 9, 12, 13)]) { frames := 8, cells := 8, slots := 48, locals := 163 } (zPl E (zAo B qo) (fun H => zQ E B (rg, ct, f, st, g) H ∧ zOc E qo v0 H) [.ref (B), .int (iZ (a)), .int (iZ (what)), .ref (qo)]) (va_Qi (fun (r : Int32) (u : Nat × zS × Int64) => r = iZ ↑(tc u.1) ∧ SP (rok a ∧ 0 ≤ what ∧ what ≤ 4) (False) (False) (fun τ => τ = (rg, ct, f, st, g)) (rg, ct, f, st, g) u.1 u.2.1 ∧ (u.1 = 0 → ∃ r9 : Int64, u.2.2 = r9 ∧ tld (rg a.toNat) what r9)) (fun u t => (zQ E B u.2.1 t.heap ∧ zOc E qo u.2.2 t.heap) ∧ zK E t) (zAo B qo)) (vx_X (fun _ : Unit => False) (fun _ _ _ => True) (zAo B qo)) 8 48 (zAo B qo) := by
  refine zol_i (P' := fun (u : Nat × zS × Int64) H => zQ E B u.2.1 H ∧ zOc E qo u.2.2 H) (by decide) (Nat.le_of_ble_eq_true rfl) fun p e R s m args below meth c Q ls hR hx hb hml ht hown hK hZ hH hN htab hl hend => ?_
  have hS : va_S (zAo B qo) s.heap s.heap [] := va_S.rf
  have hown : s.vm.findClass "WholeDeskLaw" = some m.cls := hown
  have hl : lv_has ls 5 [(0, .ref (B)), (1, .int (iZ (a))), (2, .int (iZ (what))), (3, .ref (qo))] := hl
  obtain ⟨hZ, ho⟩ := hZ
  refine lv_aload_n hx hb dL_told_0 rfl (lv_at hl 3 rfl) ?_
  refine lv_iconst (v := iZ 0) hx hb dL_told_1 (by decide) ?_
  refine lv_aload_n hx hb dL_told_2 rfl (lv_at hl 0 rfl) ?_
  refine lv_iload_n hx hb dL_told_3 rfl (lv_at hl 1 rfl) ?_
  refine lv_iload_n hx hb dL_told_4 rfl (lv_at hl 2 rfl) ?_
  refine zyX_l (P' := fun (u : zS) H => zQ E B u H) (BX := (fun (C : String) (u : Nat × zS) (H : Heap) => C = zcl u.1 ∧ zQ E B u.2 H)) 2 (As := [.int (iZ (a)), .int (iZ (what))]) (rest := [.int (iZ 0), .ref (qo)]) rfl ⟨hx, hb, hml, hown, ht⟩ (mS_told l hl0 E B rg ct f st g a hz_a what hz_what) tw_630 tw_627 tw_628 tw_629 tw_1 qS_told (by rw [hR]; decide) (hZ.recv hK) hZ hK (hH.narrow (fun _ h => Or.inl h)) hl.1 rfl rfl (Nat.le_of_ble_eq_true rfl) dL_told_5 ⟨by rw [hR]; decide, by rw [hR]; decide⟩ (fun _ h => Or.inl h) hS (fun C ce q9 u H locs hpx hbx hz9 hk9 hS hce hcv hcl => ?_) (fun r9 u H locs hp hQ hz9 hk9 hS => ?_)
  · obtain ⟨k, σ1⟩ := u
    obtain ⟨hsp, hk0⟩ := hpx
    obtain ⟨rfl, hQ⟩ := hbx
    dsimp only at hsp hk0 hQ hcl
    have ho : zOc E qo v0 H := by unfold zOc; rw [hk9 qo ho.lt (fun h9 => by have h8 : B ≤ qo ∧ qo < B + 80 := h9; omega)]; exact ho
    have hk4 : k = 1 ∨ k = 2 ∨ k = 3 := by rcases hsp with h | h | h | h <;> omega
    rcases hk4 with rfl | rfl | rfl
    · refine zcat (X := "java/lang/IllegalArgumentException") ht hown hH [] ⟨0, 9, 12, 13⟩ [] (htab.trans rfl) (fun z hz => absurd hz List.not_mem_nil) rfl (by decide) tw_159 (by decide +kernel) hce hcv hcl ?_
      refine lv_astore (lv' := [(4, .ref q9), (0, .ref (B)), (1, .int (iZ (a))), (2, .int (iZ (what))), (3, .ref (qo))]) hx hb dL_told_12 hl (by decide) rfl (fun ls hl => ?_)
      refine lv_iconst (v := iZ (1)) hx hb dL_told_14 (by decide) ?_
      exact hend 15 _ (1, σ1, v0) _ _ _ _ _ ⟨by decide, by decide⟩ dL_told_15 ⟨rfl, hsp, fun h9 => absurd (show (1 : Nat) = 0 from h9) (by decide)⟩ ⟨hQ, ho⟩ hS
    · exfalso
      rcases hsp with h | h | h | h
      · exact absurd h.1 (by decide)
      · exact h.2.2.1.elim
      · exact absurd h.1 (by decide)
      · exact absurd h.1 (by decide)
    · exfalso
      rcases hsp with h | h | h | h
      · exact absurd h.1 (by decide)
      · exact absurd h.1 (by decide)
      · exact h.2.2.1.elim
      · exact absurd h.1 (by decide)
  · have ho : zOc E qo v0 H := by unfold zOc; rw [hk9 qo ho.lt (fun h9 => by have h8 : B ≤ qo ∧ qo < B + 80 := h9; omega)]; exact ho
    refine zl_out hx hb hK hQ ho hqo hS (Or.inr rfl) dL_told_8 (fun H locs hQ ho hS => ?_)
    refine lv_goto (tgt := 16) hx hb dL_told_9 (by decide) ?_
    refine lv_iconst (v := iZ (0)) hx hb dL_told_16 (by decide) ?_
    exact hend 17 _ (0, u, r9) _ _ _ _ _ ⟨by decide, by decide⟩ dL_told_17 ⟨rfl, hp.1, fun _ => ⟨r9, rfl, hp.2⟩⟩ ⟨hQ, ho⟩ hS
set_option maxHeartbeats 4000000 in
set_option maxRecDepth 100000 in
theorem mL_written (l : Launch) (hl0 : l.stackTraces = false) (E : zE) (B : Nat) (rg : Nat → Int) (ct : Nat) (f : Nat → Nat) (st : Nat) (g : Nat → Nat) (a : Int) (hz_a : zi a) (base : Int) (hz_base : zi base) (qo : Nat) (v0 : Int64) (hqo : B + 80 ≤ qo) :
    vx_Met l yL_written (zwl yL_written cL_written 5 [(0, 10, 13, 13)]) { frames := 8, cells := 8, slots := 48, locals := 162 } (zPl E (zAo B qo) (fun H => zQ E B (rg, ct, f, st, g) H ∧ zOc E qo v0 H) [.ref (B), .int (iZ (a)), .int (iZ (base)), .ref (qo)]) (va_Qi (fun (r : Int32) (u : Nat × zS × Int64) => r = iZ ↑(tc u.1) ∧ SP (rok a ∧ (2 ≤ base ∧ base ≤ 36)) (False) (False) (fun τ => τ.1 = rg ∧ τ.2.1 = ct ∧ τ.2.2.1 = f) (rg, ct, f, st, g) u.1 u.2.1 ∧ (u.1 = 0 → ∃ r9 : Int32, u.2.2 = r9.toInt64 ∧ ∃ q : Nat, r9 = iZ q ∧ wrel (rg a.toNat) base.toNat u.2.1.2.2.2.1 u.2.1.2.2.2.2 q)) (fun u t => (zQ E B u.2.1 t.heap ∧ zOc E qo u.2.2 t.heap) ∧ zK E t) (zAo B qo)) (vx_X (fun _ : Unit => False) (fun _ _ _ => True) (zAo B qo)) 8 48 (zAo B qo) := by
  refine zol_i (P' := fun (u : Nat × zS × Int64) H => zQ E B u.2.1 H ∧ zOc E qo u.2.2 H) (by decide) (Nat.le_of_ble_eq_true rfl) fun p e R s m args below meth c Q ls hR hx hb hml ht hown hK hZ hH hN htab hl hend => ?_
  have hS : va_S (zAo B qo) s.heap s.heap [] := va_S.rf
  have hown : s.vm.findClass "WholeDeskLaw" = some m.cls := hown
  have hl : lv_has ls 5 [(0, .ref (B)), (1, .int (iZ (a))), (2, .int (iZ (base))), (3, .ref (qo))] := hl
  obtain ⟨hZ, ho⟩ := hZ
  refine lv_aload_n hx hb dL_written_0 rfl (lv_at hl 3 rfl) ?_
  refine lv_iconst (v := iZ 0) hx hb dL_written_1 (by decide) ?_
  refine lv_aload_n hx hb dL_written_2 rfl (lv_at hl 0 rfl) ?_
  refine lv_iload_n hx hb dL_written_3 rfl (lv_at hl 1 rfl) ?_
  refine lv_iload_n hx hb dL_written_4 rfl (lv_at hl 2 rfl) ?_
  refine zyX_i (P' := fun (u : zS) H => zQ E B u H) (BX := (fun (C : String) (u : Nat × zS) (H : Heap) => C = zcl u.1 ∧ zQ E B u.2 H)) 2 (As := [.int (iZ (a)), .int (iZ (base))]) (rest := [.int (iZ 0), .ref (qo)]) rfl ⟨hx, hb, hml, hown, ht⟩ (mS_written l hl0 E B rg ct f st g a hz_a base hz_base) tw_652 tw_649 tw_650 tw_651 tw_1 qS_written (by rw [hR]; decide) (hZ.recv hK) hZ hK (hH.narrow (fun _ h => Or.inl h)) hl.1 rfl rfl (Nat.le_of_ble_eq_true rfl) dL_written_5 ⟨by rw [hR]; decide, by rw [hR]; decide⟩ (fun _ h => Or.inl h) hS (fun C ce q9 u H locs hpx hbx hz9 hk9 hS hce hcv hcl => ?_) (fun r9 u H locs hp hQ hz9 hk9 hS => ?_)
  · obtain ⟨k, σ1⟩ := u
    obtain ⟨hsp, hk0⟩ := hpx
    obtain ⟨rfl, hQ⟩ := hbx
    dsimp only at hsp hk0 hQ hcl
    have ho : zOc E qo v0 H := by unfold zOc; rw [hk9 qo ho.lt (fun h9 => by have h8 : B ≤ qo ∧ qo < B + 80 := h9; omega)]; exact ho
    have hk4 : k = 1 ∨ k = 2 ∨ k = 3 := by rcases hsp with h | h | h | h <;> omega
    rcases hk4 with rfl | rfl | rfl
    · refine zcat (X := "java/lang/IllegalArgumentException") ht hown hH [] ⟨0, 10, 13, 13⟩ [] (htab.trans rfl) (fun z hz => absurd hz List.not_mem_nil) rfl (by decide) tw_159 (by decide +kernel) hce hcv hcl ?_
      refine lv_astore (lv' := [(4, .ref q9), (0, .ref (B)), (1, .int (iZ (a))), (2, .int (iZ (base))), (3, .ref (qo))]) hx hb dL_written_13 hl (by decide) rfl (fun ls hl => ?_)
      refine lv_iconst (v := iZ (1)) hx hb dL_written_15 (by decide) ?_
      exact hend 16 _ (1, σ1, v0) _ _ _ _ _ ⟨by decide, by decide⟩ dL_written_16 ⟨rfl, hsp, fun h9 => absurd (show (1 : Nat) = 0 from h9) (by decide)⟩ ⟨hQ, ho⟩ hS
    · exfalso
      rcases hsp with h | h | h | h
      · exact absurd h.1 (by decide)
      · exact h.2.2.1.elim
      · exact absurd h.1 (by decide)
      · exact absurd h.1 (by decide)
    · exfalso
      rcases hsp with h | h | h | h
      · exact absurd h.1 (by decide)
      · exact absurd h.1 (by decide)
      · exact h.2.2.1.elim
      · exact absurd h.1 (by decide)
  · have ho : zOc E qo v0 H := by unfold zOc; rw [hk9 qo ho.lt (fun h9 => by have h8 : B ≤ qo ∧ qo < B + 80 := h9; omega)]; exact ho
    refine lv_i2l hx hb dL_written_8 rfl ?_
    refine zl_out hx hb hK hQ ho hqo hS (Or.inr rfl) dL_written_9 (fun H locs hQ ho hS => ?_)
    refine lv_goto (tgt := 17) hx hb dL_written_10 (by decide) ?_
    refine lv_iconst (v := iZ (0)) hx hb dL_written_17 (by decide) ?_
    exact hend 18 _ (0, u, r9.toInt64) _ _ _ _ _ ⟨by decide, by decide⟩ dL_written_18 ⟨rfl, hp.1, fun _ => ⟨r9, rfl, hp.2⟩⟩ ⟨hQ, ho⟩ hS