def zStr : List (String × Nat × String) := [("WholeDesk", 39, "a write has 1 to 8 characters"), ("WholeDesk", 201, "the register is not 0 to 9"), ("WholeDesk", 203, "the base is not 2 to 36"), ("WholeDesk", 65, "the draft is no number text to this base"), ("WholeDesk", 207, "the number is too large for a register"), ("WholeDesk", 91, "the divisor is 0"), ("WholeDesk", 205, "the modulus is not above 0"), ("WholeDesk", 112, "the exponent is below 0"), ("WholeDesk", 120, "the power is too large"), ("WholeDesk", 126, "the root is not 1 to 64"), ("WholeDesk", 132, "the number is below 0"), ("WholeDesk$Reckoner", 127, "there is no inverse"), ("WholeDesk", 150, "the way to combine is not 0 to 3"), ("WholeDesk", 156, "the number grows too large"), ("WholeDesk", 165, "the place is below 0"), ("WholeDesk", 191, "there is nothing such to tell")]
def zNm : List String := ["java/lang/RuntimeException", "java/lang/Exception"]
def zDe : List MethodName := [Bundle.initS "java/lang/RuntimeException", Bundle.initS "java/lang/Exception", Bundle.initS Bundle.tN]
def zXs : List String := ["java/lang/IllegalArgumentException", "java/lang/IllegalStateException", "java/lang/ArithmeticException"]
/-- what a throw needs beside the tables' words -/
def zH (A : Nat → Prop) (U : State) (H : Heap) : Prop := (∀ q ∈ zStr, ∃ sa, vk_R q.1 q.2.1 q.2.2 sa U) ∧ (∀ x ∈ zDe, va_Nw (.declares x) U) ∧ (∀ x ∈ zXs, va_Nw (.castable x x) U) ∧ vx_Zq Bundle.tN "UNASSIGNED_STACK" Bundle.steD A U H ∧ vx_Zq Bundle.tN "SUPPRESSED_SENTINEL" Bundle.listD A U H
theorem zH.warm {A : Nat → Prop} {s U : State} {H : Heap} (hW : s.WarmedH U.vm) (h : zH A s H) : zH A U H :=
  ⟨fun q hq => (h.1 q hq).imp fun _ z => vk_R.warm hW z, fun x hx => va_Nw.warmD hW (h.2.1 x hx), fun x hx => va_Nw.warmC hW (h.2.2.1 x hx), vx_Zq.moved hW.alike h.2.2.2.1, vx_Zq.moved hW.alike h.2.2.2.2⟩
theorem zH.same {A : Nat → Prop} {u U : State} {H : Heap} (hv : U.vm = u.vm) (h : zH A u H) : zH A U H :=
  ⟨fun q hq => (h.1 q hq).imp fun _ z => vk_R.same hv z, fun x hx => va_Nw.same rfl hv.symm (h.2.1 x hx), fun x hx => va_Nw.same rfl hv.symm (h.2.2.1 x hx), vx_Zq.moved (by rw [hv]; exact Vm.Alike.refl _) h.2.2.2.1, vx_Zq.moved (by rw [hv]; exact Vm.Alike.refl _) h.2.2.2.2⟩
theorem zH.kept {A : Nat → Prop} {U : State} {H H1 : Heap} (h : zH A U H) (hq : ∀ a : Nat, a < H.size → ¬ A a → H1[a]? = H[a]?) : zH A U H1 := ⟨h.1, h.2.1, h.2.2.1, h.2.2.2.1.kept hq, h.2.2.2.2.kept hq⟩
theorem zH.narrow {A A1 : Nat → Prop} {U : State} {H : Heap} (h : zH A U H) (hA : ∀ q, A1 q → A q) : zH A1 U H := ⟨h.1, h.2.1, h.2.2.1, h.2.2.2.1.narrow hA, h.2.2.2.2.narrow hA⟩
abbrev zPx (E : zE) (A : Nat → Prop) (P : Heap → Prop) (av : List Value) : Array Value → State → Prop := va_Pc av (fun U => (P U.heap ∧ zK E U) ∧ zH A U U.heap)
theorem zPx_blind (E : zE) (A : Nat → Prop) (P : Heap → Prop) (av : List Value) : FrameBlind (zPx E A P av) := fun a U g mk q => ⟨q.1, ⟨q.2.1.1, va_K.moved (u := U) (U := U.calling g mk a) (Vm.Alike.refl U.vm) q.2.1.2⟩, zH.same (u := U) (U := U.calling g mk a) rfl q.2.2⟩
theorem zPx_pre {E : zE} {A : Nat → Prop} {P : Heap → Prop} {av : List Value} {s : State} {H : Heap} (hP : P H) (hK : zK E s) (hH : zH A s H) : ∀ U : State, U.heap = H → s.WarmedH U.vm → zPx E A P av av.toArray U := fun U hU hW => ⟨rfl, ⟨by rw [hU]; exact hP, va_K.moved hW.alike hK⟩, by rw [hU]; exact hH.warm hW⟩
def zBad : List Cond := zDe.map .declares ++ zXs.map (fun x => .castable x x)
def zatc (own : String) (ic : Nat) (cls : String) : Bool := (vx_atS own ic cls zNm).all (fun w => vx_ot w && (lw_tbl.contains w && goodWord w || zBad.contains w))
theorem zat_in {own cls : String} {ic : Nat} (h : zatc own ic cls = true) {args : Array Value} {s : State} {A : Nat → Prop} {H : Heap} (ht : ∀ w ∈ zt, w.before args s = true) (hH : zH A s H) : ∀ w ∈ vx_atS own ic cls zNm, w.before args s = true := by
  intro w hw
  have h1 := List.all_eq_true.mp h w hw
  rw [Bool.and_eq_true, Bool.or_eq_true, Bool.and_eq_true] at h1
  rcases h1.2 with h2 | h2
  · exact ht w (List.mem_filter.mpr ⟨List.contains_iff_mem.mp h2.1, h2.2⟩)
  · have h3 := List.contains_iff_mem.mp h2
    rcases List.mem_append.mp h3 with h4 | h4
    · obtain ⟨x, hx, rfl⟩ := List.mem_map.mp h4
      exact va_Nw.use rfl (hH.2.1 x hx)
    · obtain ⟨x, hx, rfl⟩ := List.mem_map.mp h4
      exact va_Nw.use rfl (hH.2.2.1 x hx)
theorem zat_ot {own cls : String} {ic : Nat} (h : zatc own ic cls = true) : ∀ w ∈ vx_atS own ic cls zNm, vx_ot w = true := by
  intro w hw
  have h1 := List.all_eq_true.mp h w hw
  rw [Bool.and_eq_true] at h1
  exact h1.1
/-- a place that throws -/
def zsite (own cls text : String) (ik is ic : Nat) : Prop := (own, is, text) ∈ zStr ∧ Cond.classLink own ik cls ∈ zt ∧ Cond.initialized cls ∈ zt ∧ zatc own ic cls = true ∧ Bundle.fit cls = true
theorem zNm_fit : ∀ n ∈ zNm, Bundle.fit n = true := by decide +kernel
/-- an exception that is thrown here -/
def zThr {SX : Type} (px : SX → Prop) (BX : String → SX → Heap → Prop) (A : Nat → Prop) (mc ms maxL : Nat) (cc : ByteArray) (p : Program) (l : Launch) (e : Env) (R : Room) (s : State) (m : MethodId) (args : Array Value) (below : List Frame) (meth : Method) (c : Code) (Q : State → Prop) : Prop :=
  ∀ (own cls text : String) (ik is ic pc : Nat) (u : SX) (H : Heap) (locs : List Loc) (cells slots : Nat) (ls : Array Slot) (rest : List Value), zsite own cls text ik is ic → s.vm.findClass own = some m.cls → decode cc pc = .ok (.new ik, 3) → decode cc (pc + 3) = .ok (.dup, 1) → decode cc (pc + 4) = .ok (.ldc is, 2) → decode cc (pc + 6) = .ok (.invokespecial ic, 3) → decode cc (pc + 9) = .ok (.athrow, 1) → ls.size = maxL → 5 < R.frames ∧ (rest.map fun v => v.category).sum + 82 ≤ R.locals → cells + 1 ≤ mc ∧ slots + 6 ≤ ms → px u → BX cls u H → va_S A s.heap H locs → W p l e R s m args below meth c H locs cells slots Q (F0 m pc ls rest)
/-- an exception of a called method, which goes on -/
def zPas {SX : Type} (px : SX → Prop) (BX : String → SX → Heap → Prop) (A : Nat → Prop) (mc ms : Nat) (p : Program) (l : Launch) (e : Env) (R : Room) (s : State) (m : MethodId) (args : Array Value) (below : List Frame) (meth : Method) (c : Code) (Q : State → Prop) : Prop :=
  ∀ (C : String) (ce : Cell) (q9 : Nat) (pc : Nat) (u : SX) (H : Heap) (locs : List Loc) (cells slots : Nat) (ls : Array Slot) (rest : List Value), cells ≤ mc ∧ slots ≤ ms → px u → BX C u H → va_S A s.heap H locs → H[q9]? = some ce → ce.vm = .none → s.vm.findClass C = some ce.cls → vx_W p l e R s m args below meth c H locs cells slots Q (F0 m pc ls rest) q9
theorem zox_v {l : Launch} {y : MethodName} {cc : ByteArray} {maxL fr lo mc ms : Nat} {E : zE} {P : Heap → Prop} {S SX : Type} {post : S → Prop} {P' : S → Heap → Prop} {px : SX → Prop} {BX : String → SX → Heap → Prop} {A : Nat → Prop} {av : List Value} (hl0 : l.stackTraces = false) (hmono : ∀ (C : String) (u : SX) (H H1 : Heap), H.size ≤ H1.size → (∀ q : Nat, q < H.size → H1[q]? = H[q]?) → BX C u H → BX C u H1) (hy : plainName y.cls = true) (hlen : (lg_sl av).length ≤ maxL)
    (body : ∀ (p : Program) (e : Env) (R : Room) (s : State) (m : MethodId) (args : Array Value) (below : List Frame) (meth : Method) (c : Code) (Q : State → Prop) (ls : Array Slot), R = { frames := fr, cells := mc, slots := ms, locals := lo } → p.tables.exec = Jvm.exec → c.code = cc → c.maxLocals = maxL → (∀ w ∈ zt, w.before args s = true) → s.vm.findClass y.cls = some m.cls → zK E s → P s.heap → zH A s s.heap → lv_has ls maxL (lv_args 0 av) →
      (∀ (pc : Nat) (u : S) (H : Heap) (locs : List Loc) (cells slots : Nat) (ls : Array Slot), cells ≤ mc ∧ slots ≤ ms → decode cc pc = .ok (.return_, 1) → post u → P' u H → va_S A s.heap H locs → W p l e R s m args below meth c H locs cells slots Q (F0 m pc ls [])) →
      zThr px BX A mc ms maxL cc p l e R s m args below meth c Q → zPas px BX A mc ms p l e R s m args below meth c Q → W p l e R s m args below meth c s.heap [] 0 0 Q (F0 m 0 ls [])) :
    vx_Met l y (zws y cc maxL none) { frames := fr, cells := mc, slots := ms, locals := lo } (zPx E A P av) (va_Qv post (fun u t => P' u t.heap ∧ zK E t) A) (vx_X px (fun C u t => BX C u t.heap ∧ zK E t) A) mc ms A := by
  refine vx_ofW (cc := cc) (maxL := maxL) (ret := none) hy rfl ?_
  intro p e s m args below meth c s₁ BB hml hnot hv
  obtain ⟨rfl, ⟨hZ, hK⟩, hH⟩ := hv
  have hlocks := BB.notSynchronized
  have hl := lv_entry av (n := maxL) hlen
  have ht : ∀ w ∈ zt, w.before av.toArray s = true := fun w h => atoms_spec (ws := zws y cc maxL none) BB.pre w (List.mem_cons_of_mem _ h)
  rw [lg_entry_eq]
  refine body p e _ s m _ below meth c _ _ rfl BB.exec BB.bytes hml ht (findClass_of_methodNamed BB.named) hK hZ hH hl ?_ ?_ ?_
  · intro pc u H locs cells slots ls hcs hd hp hP hS
    exact vx_ret (W.widen hcs.1 hcs.2 (W.vret BB.exec BB.bytes BB.returns (fun t ht9 hW9 => ⟨⟨u, rfl, hp, by rw [ht9]; exact hP, va_K.moved hW9.alike hK⟩, hS.F ht9⟩) hS.2.2 hd hlocks))
  · intro own cls text ik is ic pc u H locs cells slots ls rest hsi hown d0 d3 d4 d6 d9 hsz hR hcs hpx hbx hS
    obtain ⟨h1, h2, h3, h4, h5⟩ := hsi
    obtain ⟨sa, hsa⟩ := hH.1 _ h1
    exact vx_throwS (names := zNm) (sa := sa) (A := A) BB.exec BB.bytes hl0 hown h5 zNm_fit (ht _ h2) (ht _ h3) hsa (zat_in h4 ht hH) (fun w hw => by
      rcases List.mem_cons.mp hw with rfl | hw
      · unfold vx_ot; rw [(List.mem_filter.mp h2).2, Bool.or_true]
      · rcases List.mem_cons.mp hw with rfl | hw
        · unfold vx_ot; rw [(List.mem_filter.mp h3).2, Bool.or_true]
        · exact zat_ot h4 w hw) hH.2.2.2.1 hH.2.2.2.2 hS (hsz.trans hml.symm) d0 d3 d4 d6 d9 (fun x hx => (hnot x hx).elim) hR.1 hR.2 hcs.1 hcs.2 hlocks
      (fun t ht1 hz hq => ⟨u, hpx, ⟨hmono _ _ _ _ hz hq hbx, va_K.moved ht1 hK⟩, ⟨Nat.le_trans hS.1 hz, fun q h1 h2 => by rw [hq q (Nat.lt_of_lt_of_le h1 hS.1)]; exact hS.2.1 q h1 h2⟩⟩) hS.2.2 hcs.1 hcs.2
  · intro C ce q9 pc u H locs cells slots ls rest hcs hpx hbx hS hce hcv hcl
    exact vx_out (fun x hx => (hnot x hx).elim) hlocks hce hcv hcl (fun t ht1 hvm => ⟨u, hpx, ⟨by rw [ht1]; exact hbx, va_K.moved hvm hK⟩, hS.F ht1⟩) hS.2.2 hcs.1 hcs.2
theorem zox_i {l : Launch} {y : MethodName} {cc : ByteArray} {maxL fr lo mc ms : Nat} {E : zE} {P : Heap → Prop} {S SX : Type} {post : Int32 → S → Prop} {P' : S → Heap → Prop} {px : SX → Prop} {BX : String → SX → Heap → Prop} {A : Nat → Prop} {av : List Value} (hl0 : l.stackTraces = false) (hmono : ∀ (C : String) (u : SX) (H H1 : Heap), H.size ≤ H1.size → (∀ q : Nat, q < H.size → H1[q]? = H[q]?) → BX C u H → BX C u H1) (hy : plainName y.cls = true) (hlen : (lg_sl av).length ≤ maxL)
    (body : ∀ (p : Program) (e : Env) (R : Room) (s : State) (m : MethodId) (args : Array Value) (below : List Frame) (meth : Method) (c : Code) (Q : State → Prop) (ls : Array Slot), R = { frames := fr, cells := mc, slots := ms, locals := lo } → p.tables.exec = Jvm.exec → c.code = cc → c.maxLocals = maxL → (∀ w ∈ zt, w.before args s = true) → s.vm.findClass y.cls = some m.cls → zK E s → P s.heap → zH A s s.heap → lv_has ls maxL (lv_args 0 av) →
      (∀ (pc : Nat) (r : Int32) (u : S) (H : Heap) (locs : List Loc) (cells slots : Nat) (ls : Array Slot), cells ≤ mc ∧ slots ≤ ms → decode cc pc = .ok (.ireturn, 1) → post r u → P' u H → va_S A s.heap H locs → W p l e R s m args below meth c H locs cells slots Q (F0 m pc ls [.int r])) →
      zThr px BX A mc ms maxL cc p l e R s m args below meth c Q → zPas px BX A mc ms p l e R s m args below meth c Q → W p l e R s m args below meth c s.heap [] 0 0 Q (F0 m 0 ls [])) :
    vx_Met l y (zws y cc maxL (some .int)) { frames := fr, cells := mc, slots := ms, locals := lo } (zPx E A P av) (va_Qi post (fun u t => P' u t.heap ∧ zK E t) A) (vx_X px (fun C u t => BX C u t.heap ∧ zK E t) A) mc ms A := by
  refine vx_ofW (cc := cc) (maxL := maxL) (ret := (some .int)) hy rfl ?_
  intro p e s m args below meth c s₁ BB hml hnot hv
  obtain ⟨rfl, ⟨hZ, hK⟩, hH⟩ := hv
  have hlocks := BB.notSynchronized
  have hl := lv_entry av (n := maxL) hlen
  have ht : ∀ w ∈ zt, w.before av.toArray s = true := fun w h => atoms_spec (ws := zws y cc maxL (some .int)) BB.pre w (List.mem_cons_of_mem _ h)
  rw [lg_entry_eq]
  refine body p e _ s m _ below meth c _ _ rfl BB.exec BB.bytes hml ht (findClass_of_methodNamed BB.named) hK hZ hH hl ?_ ?_ ?_
  · intro pc r u H locs cells slots ls hcs hd hp hP hS
    exact vx_ret (W.widen hcs.1 hcs.2 (W.iret (v := r) BB.exec BB.bytes BB.returns (fun t ht9 hW9 => ⟨⟨r, u, rfl, hp, by rw [ht9]; exact hP, va_K.moved hW9.alike hK⟩, hS.F ht9⟩) hS.2.2 hd hlocks))
  · intro own cls text ik is ic pc u H locs cells slots ls rest hsi hown d0 d3 d4 d6 d9 hsz hR hcs hpx hbx hS
    obtain ⟨h1, h2, h3, h4, h5⟩ := hsi
    obtain ⟨sa, hsa⟩ := hH.1 _ h1
    exact vx_throwS (names := zNm) (sa := sa) (A := A) BB.exec BB.bytes hl0 hown h5 zNm_fit (ht _ h2) (ht _ h3) hsa (zat_in h4 ht hH) (fun w hw => by
      rcases List.mem_cons.mp hw with rfl | hw
      · unfold vx_ot; rw [(List.mem_filter.mp h2).2, Bool.or_true]
      · rcases List.mem_cons.mp hw with rfl | hw
        · unfold vx_ot; rw [(List.mem_filter.mp h3).2, Bool.or_true]
        · exact zat_ot h4 w hw) hH.2.2.2.1 hH.2.2.2.2 hS (hsz.trans hml.symm) d0 d3 d4 d6 d9 (fun x hx => (hnot x hx).elim) hR.1 hR.2 hcs.1 hcs.2 hlocks
      (fun t ht1 hz hq => ⟨u, hpx, ⟨hmono _ _ _ _ hz hq hbx, va_K.moved ht1 hK⟩, ⟨Nat.le_trans hS.1 hz, fun q h1 h2 => by rw [hq q (Nat.lt_of_lt_of_le h1 hS.1)]; exact hS.2.1 q h1 h2⟩⟩) hS.2.2 hcs.1 hcs.2
  · intro C ce q9 pc u H locs cells slots ls rest hcs hpx hbx hS hce hcv hcl
    exact vx_out (fun x hx => (hnot x hx).elim) hlocks hce hcv hcl (fun t ht1 hvm => ⟨u, hpx, ⟨by rw [ht1]; exact hbx, va_K.moved hvm hK⟩, hS.F ht1⟩) hS.2.2 hcs.1 hcs.2
theorem zox_r {l : Launch} {y : MethodName} {cc : ByteArray} {maxL fr lo mc ms : Nat} {E : zE} {P : Heap → Prop} {S SX : Type} {post : S → Prop} {P' : S → Nat → Heap → Prop} {px : SX → Prop} {BX : String → SX → Heap → Prop} {A : Nat → Prop} {av : List Value} {CR : String} (hl0 : l.stackTraces = false) (hmono : ∀ (C : String) (u : SX) (H H1 : Heap), H.size ≤ H1.size → (∀ q : Nat, q < H.size → H1[q]? = H[q]?) → BX C u H → BX C u H1) (hy : plainName y.cls = true) (hlen : (lg_sl av).length ≤ maxL)
    (body : ∀ (p : Program) (e : Env) (R : Room) (s : State) (m : MethodId) (args : Array Value) (below : List Frame) (meth : Method) (c : Code) (Q : State → Prop) (ls : Array Slot), R = { frames := fr, cells := mc, slots := ms, locals := lo } → p.tables.exec = Jvm.exec → c.code = cc → c.maxLocals = maxL → (∀ w ∈ zt, w.before args s = true) → s.vm.findClass y.cls = some m.cls → zK E s → P s.heap → zH A s s.heap → lv_has ls maxL (lv_args 0 av) →
      (∀ (pc : Nat) (u : S) (a : Nat) (H : Heap) (locs : List Loc) (cells slots : Nat) (ls : Array Slot), cells ≤ mc ∧ slots ≤ ms → decode cc pc = .ok (.areturn, 1) → post u → P' u a H → va_S A s.heap H locs → W p l e R s m args below meth c H locs cells slots Q (F0 m pc ls [.ref a])) →
      zThr px BX A mc ms maxL cc p l e R s m args below meth c Q → zPas px BX A mc ms p l e R s m args below meth c Q → W p l e R s m args below meth c s.heap [] 0 0 Q (F0 m 0 ls [])) :
    vx_Met l y (zws y cc maxL (some (.object CR))) { frames := fr, cells := mc, slots := ms, locals := lo } (zPx E A P av) (va_Qr post (fun u a t => P' u a t.heap ∧ zK E t) A) (vx_X px (fun C u t => BX C u t.heap ∧ zK E t) A) mc ms A := by
  refine vx_ofW (cc := cc) (maxL := maxL) (ret := (some (.object CR))) hy rfl ?_
  intro p e s m args below meth c s₁ BB hml hnot hv
  obtain ⟨rfl, ⟨hZ, hK⟩, hH⟩ := hv
  have hlocks := BB.notSynchronized
  have hl := lv_entry av (n := maxL) hlen
  have ht : ∀ w ∈ zt, w.before av.toArray s = true := fun w h => atoms_spec (ws := zws y cc maxL (some (.object CR))) BB.pre w (List.mem_cons_of_mem _ h)
  rw [lg_entry_eq]
  refine body p e _ s m _ below meth c _ _ rfl BB.exec BB.bytes hml ht (findClass_of_methodNamed BB.named) hK hZ hH hl ?_ ?_ ?_
  · intro pc u a H locs cells slots ls hcs hd hp hP hS
    exact vx_ret (W.widen hcs.1 hcs.2 (W.aret (v := .ref a) BB.exec BB.bytes BB.returns (Or.inl ⟨CR, rfl⟩) (Or.inr ⟨a, rfl⟩) (fun t ht9 hW9 => ⟨⟨u, a, rfl, hp, by rw [ht9]; exact hP, va_K.moved hW9.alike hK⟩, hS.F ht9⟩) hS.2.2 hd hlocks))
  · intro own cls text ik is ic pc u H locs cells slots ls rest hsi hown d0 d3 d4 d6 d9 hsz hR hcs hpx hbx hS
    obtain ⟨h1, h2, h3, h4, h5⟩ := hsi
    obtain ⟨sa, hsa⟩ := hH.1 _ h1
    exact vx_throwS (names := zNm) (sa := sa) (A := A) BB.exec BB.bytes hl0 hown h5 zNm_fit (ht _ h2) (ht _ h3) hsa (zat_in h4 ht hH) (fun w hw => by
      rcases List.mem_cons.mp hw with rfl | hw
      · unfold vx_ot; rw [(List.mem_filter.mp h2).2, Bool.or_true]
      · rcases List.mem_cons.mp hw with rfl | hw
        · unfold vx_ot; rw [(List.mem_filter.mp h3).2, Bool.or_true]
        · exact zat_ot h4 w hw) hH.2.2.2.1 hH.2.2.2.2 hS (hsz.trans hml.symm) d0 d3 d4 d6 d9 (fun x hx => (hnot x hx).elim) hR.1 hR.2 hcs.1 hcs.2 hlocks
      (fun t ht1 hz hq => ⟨u, hpx, ⟨hmono _ _ _ _ hz hq hbx, va_K.moved ht1 hK⟩, ⟨Nat.le_trans hS.1 hz, fun q h1 h2 => by rw [hq q (Nat.lt_of_lt_of_le h1 hS.1)]; exact hS.2.1 q h1 h2⟩⟩) hS.2.2 hcs.1 hcs.2
  · intro C ce q9 pc u H locs cells slots ls rest hcs hpx hbx hS hce hcv hcl
    exact vx_out (fun x hx => (hnot x hx).elim) hlocks hce hcv hcl (fun t ht1 hvm => ⟨u, hpx, ⟨by rw [ht1]; exact hbx, va_K.moved hvm hK⟩, hS.F ht1⟩) hS.2.2 hcs.1 hcs.2
theorem vx_callr {p : Program} {l : Launch} {e : Env} {R : Room} {s : State} {m : MethodId} {args : Array Value} {below : List Frame} {meth : Method} {c : Code} {H : Heap} {locs : List Loc} {cells slots : Nat} {Q : State → Prop} {mc ms : Nat} {free : Addr → Prop} {A0 A1 : Nat → Prop} {H0 : Heap} {a : Array Value} {pc : Nat} {ls : Array Slot} {st0 rest : List Value} {S SX : Type} {post : S → Prop} {px : SX → Prop} {B : S → Nat → State → Prop} {BX : String → SX → State → Prop} {AX : Nat → Prop} (hr : vx_Run p l e R s m args below meth c H locs cells slots mc ms (F0 m pc ls st0) rest (va_Qr post B A1 a) (vx_X px BX AX) free) (hS : va_S A0 H0 H locs) (hA : ∀ q, q < H.size → A1 q → A0 q) (hf : ∀ q, free q → A0 q) (hAX : ∀ q, q < H.size → AX q → A0 q)
    (kx : ∀ (E : String) (ce : Cell) (q9 : Addr) (u : SX) (t : State) (H1 : Heap) (locs1 : List Loc), t.heap = H1 → s.vm.Alike t.vm → px u → BX E u t → H.size ≤ H1.size → (∀ q : Nat, q < H.size → ¬ AX q → H1[q]? = H[q]?) → va_S A0 H0 H1 locs1 → H1[q9]? = some ce → ce.vm = .none → s.vm.findClass E = some ce.cls → vx_W p l e R s m args below meth c H1 locs1 (cells + mc) (slots + ms) Q (F0 m pc ls rest) q9)
    (kk : ∀ (u : S) (r : Nat) (t : State) (H1 : Heap) (locs1 : List Loc), t.heap = H1 → s.vm.Alike t.vm → post u → B u r t → H.size ≤ H1.size → (∀ q : Nat, q < H.size → ¬ A1 q → H1[q]? = H[q]?) → va_S A0 H0 H1 locs1 → W p l e R s m args below meth c H1 locs1 (cells + mc) (slots + ms) Q (F0 m (pc + 3) ls (.ref r :: rest))) : W p l e R s m args below meth c H locs cells slots Q (F0 m pc ls st0) := by
  intro T hT X
  rcases hr T hT X with ⟨v, st₀, t, T', L, h0, X', hL, e1, e2, ⟨⟨u, r, hv, hp, hb⟩, hF⟩, st⟩ | ⟨q, st₀, t, T', L, E, ce, h0, X', hL, e1, e2, ⟨u, hp, hb, hF⟩, hce, hcv, hcl, st⟩
  · cases hv
    obtain ⟨k1, k2, k3⟩ := vx_keep h0 e1 hS hA hf hL hF
    obtain ⟨t2, a1, b1⟩ := kk u r t T'.heap (locs ++ L) e1.symm (by rw [← e2]; exact X'.warmed.alike) hp hb k1 k2 k3 T' rfl X'
    exact ⟨t2, st t2 a1, b1⟩
  · obtain ⟨k1, k2, k3⟩ := vx_keep h0 e1 hS hAX hf hL hF
    obtain ⟨t2, a1, b1⟩ := kx E ce q u t T'.heap (locs ++ L) e1.symm (by rw [← e2]; exact X'.warmed.alike) hp hb k1 k2 k3 (by rw [e1]; exact hce) hcv hcl T' rfl X'
    exact ⟨t2, st.trans a1, b1⟩
theorem zxV_v {p : Program} {l : Launch} {e : Env} {R : Room} {s : State} {m : MethodId} {args : Array Value} {below : List Frame} {meth : Method} {c : Code} {H : Heap} {locs : List Loc} {cells slots : Nat} {Q : State → Prop} {cc : ByteArray} {pc : Nat} {ls : Array Slot} {rest st : List Value} {E : zE} {own : String} {index maxL nL fr lo mc ms : Nat} {y : MethodName} {bytes : ByteArray} {ret : Option FieldType} {S SX : Type} {post : S → Prop} {P : Heap → Prop} {P' : S → Heap → Prop} {px : SX → Prop} {BX : String → SX → Heap → Prop} {A : Nat → Prop} (n : Nat) {C : String} {a : Nat} {As av : List Value} (hav : av = .ref a :: As) (F : CallFix p m c cc nL s args zt own) (hM : vx_Met l y (zws y bytes maxL ret) { frames := fr, cells := mc, slots := ms, locals := lo } (zPx E A P av) (va_Qv post (fun u t => P' u t.heap ∧ zK E t) A) (vx_X px (fun C u t => BX C u t.heap ∧ zK E t) A) mc ms A) (hcode : Cond.code y bytes maxL ret ∈ zt) (hlink : Cond.methodLink own index y ∈ zt) (hinst : Cond.instanceMethod y ∈ zt) (hsel : Cond.selects C y y ∈ zt) (hini : Cond.initialized y.cls ∈ zt) (hd : y.cls ≠ "java/lang/invoke/MethodHandle" ∧ y.cls ≠ "java/lang/invoke/VarHandle" ∧ (parseMethodDescriptor y.desc).map (fun d => d.parameters.length) = some n) (hR : fr + 1 ≤ R.frames ∧ 8 + (maxL + 11) + lo ≤ R.locals)
    (hrecv : ∃ cellB : Cell, H[a]? = some cellB ∧ cellB.vm.isStatics = false ∧ s.vm.findClass C = some cellB.cls) (hP : P H) (hK : zK E s) (hH : zH A s s.heap) (hsize : ls.size = nL) (hst : st = As.reverse ++ .ref a :: rest) (hn : As.length = n) (hroom : (rest.map fun v => v.category).sum ≤ 8) (hdg : decode cc pc = .ok (.invokevirtual index, 3)) (hf : cells + mc ≤ R.cells ∧ slots + ms ≤ R.slots) (hS : va_S A s.heap H locs)
    (kx : ∀ (C : String) (ce : Cell) (q9 : Nat) (u : SX) (H1 : Heap) (locs1 : List Loc), px u → BX C u H1 → va_S A s.heap H1 locs1 → H1[q9]? = some ce → ce.vm = .none → s.vm.findClass C = some ce.cls → vx_W p l e R s m args below meth c H1 locs1 (cells + mc) (slots + ms) Q (F0 m pc ls rest) q9)
    (kk : ∀ (u : S) (H1 : Heap) (locs1 : List Loc), post u → P' u H1 → H1.size ≥ H.size → va_S A s.heap H1 locs1 → W p l e R s m args below meth c H1 locs1 (cells + mc) (slots + ms) Q (F0 m (pc + 3) ls rest)) : W p l e R s m args below meth c H locs cells slots Q (F0 m pc ls st) := by
  subst hav
  have ht := F.2.2.2.2
  have cb : CallB R s args own index y bytes maxL ret (zws y bytes maxL ret) { frames := fr, cells := mc, slots := ms, locals := lo } mc ms n := callB_of n ht (good_zws hcode) rfl rfl rfl (ht _ hini) (ht _ hlink) hd hR
  exact vx_callv (vx_runV (As := As) (rest := rest) (b := a) F hM ⟨cb, ht _ hinst, ht _ hsel⟩ ⟨zPx_blind E A P _, hrecv, zPx_pre hP hK (hH.kept hS.2.1)⟩ rfl hn hsize hst (lv_room hroom) hdg hf) hS (fun _ _ h => h) (fun _ h => h) (fun _ _ h => h) (fun C ce q9 u t H1 locs1 ht1 hvm hpx hB hz1 hk1 hS1 hce hcv hcl => kx C ce q9 u H1 locs1 hpx (by rw [← ht1]; exact hB.1) hS1 hce hcv hcl) (fun u t H1 locs1 ht1 hvm hw hB hz1 hk1 hS1 => kk u H1 locs1 hw (by rw [← ht1]; exact hB.1) hz1 hS1)
theorem zxS_v {p : Program} {l : Launch} {e : Env} {R : Room} {s : State} {m : MethodId} {args : Array Value} {below : List Frame} {meth : Method} {c : Code} {H : Heap} {locs : List Loc} {cells slots : Nat} {Q : State → Prop} {cc : ByteArray} {pc : Nat} {ls : Array Slot} {rest st : List Value} {E : zE} {own : String} {index maxL nL fr lo mc ms : Nat} {y : MethodName} {bytes : ByteArray} {ret : Option FieldType} {S SX : Type} {post : S → Prop} {P : Heap → Prop} {P' : S → Heap → Prop} {px : SX → Prop} {BX : String → SX → Heap → Prop} {A : Nat → Prop} (n : Nat) {As : List Value} (F : CallFix p m c cc nL s args zt own) (hM : vx_Met l y (zws y bytes maxL ret) { frames := fr, cells := mc, slots := ms, locals := lo } (zPx E A P As) (va_Qv post (fun u t => P' u t.heap ∧ zK E t) A) (vx_X px (fun C u t => BX C u t.heap ∧ zK E t) A) mc ms A) (hcode : Cond.code y bytes maxL ret ∈ zt) (hlink : Cond.methodLink own index y ∈ zt) (hstat : Cond.static y ∈ zt) (hini : Cond.initialized y.cls ∈ zt) (hd : y.cls ≠ "java/lang/invoke/MethodHandle" ∧ y.cls ≠ "java/lang/invoke/VarHandle" ∧ (parseMethodDescriptor y.desc).map (fun d => d.parameters.length) = some n) (hR : fr + 1 ≤ R.frames ∧ 8 + (maxL + 11) + lo ≤ R.locals)
    (hP : P H) (hK : zK E s) (hH : zH A s s.heap) (hsize : ls.size = nL) (hst : st = As.reverse ++ rest) (hn : As.length = n) (hroom : (rest.map fun v => v.category).sum ≤ 8) (hdg : decode cc pc = .ok (.invokestatic index, 3)) (hf : cells + mc ≤ R.cells ∧ slots + ms ≤ R.slots) (hS : va_S A s.heap H locs)
    (kx : ∀ (C : String) (ce : Cell) (q9 : Nat) (u : SX) (H1 : Heap) (locs1 : List Loc), px u → BX C u H1 → va_S A s.heap H1 locs1 → H1[q9]? = some ce → ce.vm = .none → s.vm.findClass C = some ce.cls → vx_W p l e R s m args below meth c H1 locs1 (cells + mc) (slots + ms) Q (F0 m pc ls rest) q9)
    (kk : ∀ (u : S) (H1 : Heap) (locs1 : List Loc), post u → P' u H1 → H1.size ≥ H.size → va_S A s.heap H1 locs1 → W p l e R s m args below meth c H1 locs1 (cells + mc) (slots + ms) Q (F0 m (pc + 3) ls rest)) : W p l e R s m args below meth c H locs cells slots Q (F0 m pc ls st) := by
  skip
  have ht := F.2.2.2.2
  have cb : CallB R s args own index y bytes maxL ret (zws y bytes maxL ret) { frames := fr, cells := mc, slots := ms, locals := lo } mc ms n := callB_of n ht (good_zws hcode) rfl rfl rfl (ht _ hini) (ht _ hlink) hd hR
  exact vx_callv (vx_runS (As := As) (rest := rest) F hM ⟨cb, ht _ hstat⟩ ⟨zPx_blind E A P _, zPx_pre hP hK (hH.kept hS.2.1)⟩ rfl hn hsize hst (lv_room hroom) hdg hf) hS (fun _ _ h => h) (fun _ h => h) (fun _ _ h => h) (fun C ce q9 u t H1 locs1 ht1 hvm hpx hB hz1 hk1 hS1 hce hcv hcl => kx C ce q9 u H1 locs1 hpx (by rw [← ht1]; exact hB.1) hS1 hce hcv hcl) (fun u t H1 locs1 ht1 hvm hw hB hz1 hk1 hS1 => kk u H1 locs1 hw (by rw [← ht1]; exact hB.1) hz1 hS1)
theorem zxV_i {p : Program} {l : Launch} {e : Env} {R : Room} {s : State} {m : MethodId} {args : Array Value} {below : List Frame} {meth : Method} {c : Code} {H : Heap} {locs : List Loc} {cells slots : Nat} {Q : State → Prop} {cc : ByteArray} {pc : Nat} {ls : Array Slot} {rest st : List Value} {E : zE} {own : String} {index maxL nL fr lo mc ms : Nat} {y : MethodName} {bytes : ByteArray} {ret : Option FieldType} {S SX : Type} {post : Int32 → S → Prop} {P : Heap → Prop} {P' : S → Heap → Prop} {px : SX → Prop} {BX : String → SX → Heap → Prop} {A : Nat → Prop} (n : Nat) {C : String} {a : Nat} {As av : List Value} (hav : av = .ref a :: As) (F : CallFix p m c cc nL s args zt own) (hM : vx_Met l y (zws y bytes maxL ret) { frames := fr, cells := mc, slots := ms, locals := lo } (zPx E A P av) (va_Qi post (fun u t => P' u t.heap ∧ zK E t) A) (vx_X px (fun C u t => BX C u t.heap ∧ zK E t) A) mc ms A) (hcode : Cond.code y bytes maxL ret ∈ zt) (hlink : Cond.methodLink own index y ∈ zt) (hinst : Cond.instanceMethod y ∈ zt) (hsel : Cond.selects C y y ∈ zt) (hini : Cond.initialized y.cls ∈ zt) (hd : y.cls ≠ "java/lang/invoke/MethodHandle" ∧ y.cls ≠ "java/lang/invoke/VarHandle" ∧ (parseMethodDescriptor y.desc).map (fun d => d.parameters.length) = some n) (hR : fr + 1 ≤ R.frames ∧ 8 + (maxL + 11) + lo ≤ R.locals)
    (hrecv : ∃ cellB : Cell, H[a]? = some cellB ∧ cellB.vm.isStatics = false ∧ s.vm.findClass C = some cellB.cls) (hP : P H) (hK : zK E s) (hH : zH A s s.heap) (hsize : ls.size = nL) (hst : st = As.reverse ++ .ref a :: rest) (hn : As.length = n) (hroom : (rest.map fun v => v.category).sum ≤ 8) (hdg : decode cc pc = .ok (.invokevirtual index, 3)) (hf : cells + mc ≤ R.cells ∧ slots + ms ≤ R.slots) (hS : va_S A s.heap H locs)
    (kx : ∀ (C : String) (ce : Cell) (q9 : Nat) (u : SX) (H1 : Heap) (locs1 : List Loc), px u → BX C u H1 → va_S A s.heap H1 locs1 → H1[q9]? = some ce → ce.vm = .none → s.vm.findClass C = some ce.cls → vx_W p l e R s m args below meth c H1 locs1 (cells + mc) (slots + ms) Q (F0 m pc ls rest) q9)
    (kk : ∀ (r : Int32) (u : S) (H1 : Heap) (locs1 : List Loc), post r u → P' u H1 → H1.size ≥ H.size → va_S A s.heap H1 locs1 → W p l e R s m args below meth c H1 locs1 (cells + mc) (slots + ms) Q (F0 m (pc + 3) ls (.int r :: rest))) : W p l e R s m args below meth c H locs cells slots Q (F0 m pc ls st) := by
  subst hav
  have ht := F.2.2.2.2
  have cb : CallB R s args own index y bytes maxL ret (zws y bytes maxL ret) { frames := fr, cells := mc, slots := ms, locals := lo } mc ms n := callB_of n ht (good_zws hcode) rfl rfl rfl (ht _ hini) (ht _ hlink) hd hR
  exact vx_calli (vx_runV (As := As) (rest := rest) (b := a) F hM ⟨cb, ht _ hinst, ht _ hsel⟩ ⟨zPx_blind E A P _, hrecv, zPx_pre hP hK (hH.kept hS.2.1)⟩ rfl hn hsize hst (lv_room hroom) hdg hf) hS (fun _ _ h => h) (fun _ h => h) (fun _ _ h => h) (fun C ce q9 u t H1 locs1 ht1 hvm hpx hB hz1 hk1 hS1 hce hcv hcl => kx C ce q9 u H1 locs1 hpx (by rw [← ht1]; exact hB.1) hS1 hce hcv hcl) (fun r u t H1 locs1 ht1 hvm hw hB hz1 hk1 hS1 => kk r u H1 locs1 hw (by rw [← ht1]; exact hB.1) hz1 hS1)
theorem zxS_i {p : Program} {l : Launch} {e : Env} {R : Room} {s : State} {m : MethodId} {args : Array Value} {below : List Frame} {meth : Method} {c : Code} {H : Heap} {locs : List Loc} {cells slots : Nat} {Q : State → Prop} {cc : ByteArray} {pc : Nat} {ls : Array Slot} {rest st : List Value} {E : zE} {own : String} {index maxL nL fr lo mc ms : Nat} {y : MethodName} {bytes : ByteArray} {ret : Option FieldType} {S SX : Type} {post : Int32 → S → Prop} {P : Heap → Prop} {P' : S → Heap → Prop} {px : SX → Prop} {BX : String → SX → Heap → Prop} {A : Nat → Prop} (n : Nat) {As : List Value} (F : CallFix p m c cc nL s args zt own) (hM : vx_Met l y (zws y bytes maxL ret) { frames := fr, cells := mc, slots := ms, locals := lo } (zPx E A P As) (va_Qi post (fun u t => P' u t.heap ∧ zK E t) A) (vx_X px (fun C u t => BX C u t.heap ∧ zK E t) A) mc ms A) (hcode : Cond.code y bytes maxL ret ∈ zt) (hlink : Cond.methodLink own index y ∈ zt) (hstat : Cond.static y ∈ zt) (hini : Cond.initialized y.cls ∈ zt) (hd : y.cls ≠ "java/lang/invoke/MethodHandle" ∧ y.cls ≠ "java/lang/invoke/VarHandle" ∧ (parseMethodDescriptor y.desc).map (fun d => d.parameters.length) = some n) (hR : fr + 1 ≤ R.frames ∧ 8 + (maxL + 11) + lo ≤ R.locals)
    (hP : P H) (hK : zK E s) (hH : zH A s s.heap) (hsize : ls.size = nL) (hst : st = As.reverse ++ rest) (hn : As.length = n) (hroom : (rest.map fun v => v.category).sum ≤ 8) (hdg : decode cc pc = .ok (.invokestatic index, 3)) (hf : cells + mc ≤ R.cells ∧ slots + ms ≤ R.slots) (hS : va_S A s.heap H locs)
    (kx : ∀ (C : String) (ce : Cell) (q9 : Nat) (u : SX) (H1 : Heap) (locs1 : List Loc), px u → BX C u H1 → va_S A s.heap H1 locs1 → H1[q9]? = some ce → ce.vm = .none → s.vm.findClass C = some ce.cls → vx_W p l e R s m args below meth c H1 locs1 (cells + mc) (slots + ms) Q (F0 m pc ls rest) q9)
    (kk : ∀ (r : Int32) (u : S) (H1 : Heap) (locs1 : List Loc), post r u → P' u H1 → H1.size ≥ H.size → va_S A s.heap H1 locs1 → W p l e R s m args below meth c H1 locs1 (cells + mc) (slots + ms) Q (F0 m (pc + 3) ls (.int r :: rest))) : W p l e R s m args below meth c H locs cells slots Q (F0 m pc ls st) := by
  skip
  have ht := F.2.2.2.2
  have cb : CallB R s args own index y bytes maxL ret (zws y bytes maxL ret) { frames := fr, cells := mc, slots := ms, locals := lo } mc ms n := callB_of n ht (good_zws hcode) rfl rfl rfl (ht _ hini) (ht _ hlink) hd hR
  exact vx_calli (vx_runS (As := As) (rest := rest) F hM ⟨cb, ht _ hstat⟩ ⟨zPx_blind E A P _, zPx_pre hP hK (hH.kept hS.2.1)⟩ rfl hn hsize hst (lv_room hroom) hdg hf) hS (fun _ _ h => h) (fun _ h => h) (fun _ _ h => h) (fun C ce q9 u t H1 locs1 ht1 hvm hpx hB hz1 hk1 hS1 hce hcv hcl => kx C ce q9 u H1 locs1 hpx (by rw [← ht1]; exact hB.1) hS1 hce hcv hcl) (fun r u t H1 locs1 ht1 hvm hw hB hz1 hk1 hS1 => kk r u H1 locs1 hw (by rw [← ht1]; exact hB.1) hz1 hS1)
theorem zxV_r {p : Program} {l : Launch} {e : Env} {R : Room} {s : State} {m : MethodId} {args : Array Value} {below : List Frame} {meth : Method} {c : Code} {H : Heap} {locs : List Loc} {cells slots : Nat} {Q : State → Prop} {cc : ByteArray} {pc : Nat} {ls : Array Slot} {rest st : List Value} {E : zE} {own : String} {index maxL nL fr lo mc ms : Nat} {y : MethodName} {bytes : ByteArray} {ret : Option FieldType} {S SX : Type} {post : S → Prop} {P : Heap → Prop} {P' : S → Nat → Heap → Prop} {px : SX → Prop} {BX : String → SX → Heap → Prop} {A : Nat → Prop} (n : Nat) {C : String} {a : Nat} {As av : List Value} (hav : av = .ref a :: As) (F : CallFix p m c cc nL s args zt own) (hM : vx_Met l y (zws y bytes maxL ret) { frames := fr, cells := mc, slots := ms, locals := lo } (zPx E A P av) (va_Qr post (fun u a t => P' u a t.heap ∧ zK E t) A) (vx_X px (fun C u t => BX C u t.heap ∧ zK E t) A) mc ms A) (hcode : Cond.code y bytes maxL ret ∈ zt) (hlink : Cond.methodLink own index y ∈ zt) (hinst : Cond.instanceMethod y ∈ zt) (hsel : Cond.selects C y y ∈ zt) (hini : Cond.initialized y.cls ∈ zt) (hd : y.cls ≠ "java/lang/invoke/MethodHandle" ∧ y.cls ≠ "java/lang/invoke/VarHandle" ∧ (parseMethodDescriptor y.desc).map (fun d => d.parameters.length) = some n) (hR : fr + 1 ≤ R.frames ∧ 8 + (maxL + 11) + lo ≤ R.locals)
    (hrecv : ∃ cellB : Cell, H[a]? = some cellB ∧ cellB.vm.isStatics = false ∧ s.vm.findClass C = some cellB.cls) (hP : P H) (hK : zK E s) (hH : zH A s s.heap) (hsize : ls.size = nL) (hst : st = As.reverse ++ .ref a :: rest) (hn : As.length = n) (hroom : (rest.map fun v => v.category).sum ≤ 8) (hdg : decode cc pc = .ok (.invokevirtual index, 3)) (hf : cells + mc ≤ R.cells ∧ slots + ms ≤ R.slots) (hS : va_S A s.heap H locs)
    (kx : ∀ (C : String) (ce : Cell) (q9 : Nat) (u : SX) (H1 : Heap) (locs1 : List Loc), px u → BX C u H1 → va_S A s.heap H1 locs1 → H1[q9]? = some ce → ce.vm = .none → s.vm.findClass C = some ce.cls → vx_W p l e R s m args below meth c H1 locs1 (cells + mc) (slots + ms) Q (F0 m pc ls rest) q9)
    (kk : ∀ (u : S) (r : Nat) (H1 : Heap) (locs1 : List Loc), post u → P' u r H1 → H1.size ≥ H.size → va_S A s.heap H1 locs1 → W p l e R s m args below meth c H1 locs1 (cells + mc) (slots + ms) Q (F0 m (pc + 3) ls (.ref r :: rest))) : W p l e R s m args below meth c H locs cells slots Q (F0 m pc ls st) := by
  subst hav
  have ht := F.2.2.2.2
  have cb : CallB R s args own index y bytes maxL ret (zws y bytes maxL ret) { frames := fr, cells := mc, slots := ms, locals := lo } mc ms n := callB_of n ht (good_zws hcode) rfl rfl rfl (ht _ hini) (ht _ hlink) hd hR
  exact vx_callr (vx_runV (As := As) (rest := rest) (b := a) F hM ⟨cb, ht _ hinst, ht _ hsel⟩ ⟨zPx_blind E A P _, hrecv, zPx_pre hP hK (hH.kept hS.2.1)⟩ rfl hn hsize hst (lv_room hroom) hdg hf) hS (fun _ _ h => h) (fun _ h => h) (fun _ _ h => h) (fun C ce q9 u t H1 locs1 ht1 hvm hpx hB hz1 hk1 hS1 hce hcv hcl => kx C ce q9 u H1 locs1 hpx (by rw [← ht1]; exact hB.1) hS1 hce hcv hcl) (fun u r t H1 locs1 ht1 hvm hw hB hz1 hk1 hS1 => kk u r H1 locs1 hw (by rw [← ht1]; exact hB.1) hz1 hS1)
theorem zxS_r {p : Program} {l : Launch} {e : Env} {R : Room} {s : State} {m : MethodId} {args : Array Value} {below : List Frame} {meth : Method} {c : Code} {H : Heap} {locs : List Loc} {cells slots : Nat} {Q : State → Prop} {cc : ByteArray} {pc : Nat} {ls : Array Slot} {rest st : List Value} {E : zE} {own : String} {index maxL nL fr lo mc ms : Nat} {y : MethodName} {bytes : ByteArray} {ret : Option FieldType} {S SX : Type} {post : S → Prop} {P : Heap → Prop} {P' : S → Nat → Heap → Prop} {px : SX → Prop} {BX : String → SX → Heap → Prop} {A : Nat → Prop} (n : Nat) {As : List Value} (F : CallFix p m c cc nL s args zt own) (hM : vx_Met l y (zws y bytes maxL ret) { frames := fr, cells := mc, slots := ms, locals := lo } (zPx E A P As) (va_Qr post (fun u a t => P' u a t.heap ∧ zK E t) A) (vx_X px (fun C u t => BX C u t.heap ∧ zK E t) A) mc ms A) (hcode : Cond.code y bytes maxL ret ∈ zt) (hlink : Cond.methodLink own index y ∈ zt) (hstat : Cond.static y ∈ zt) (hini : Cond.initialized y.cls ∈ zt) (hd : y.cls ≠ "java/lang/invoke/MethodHandle" ∧ y.cls ≠ "java/lang/invoke/VarHandle" ∧ (parseMethodDescriptor y.desc).map (fun d => d.parameters.length) = some n) (hR : fr + 1 ≤ R.frames ∧ 8 + (maxL + 11) + lo ≤ R.locals)
    (hP : P H) (hK : zK E s) (hH : zH A s s.heap) (hsize : ls.size = nL) (hst : st = As.reverse ++ rest) (hn : As.length = n) (hroom : (rest.map fun v => v.category).sum ≤ 8) (hdg : decode cc pc = .ok (.invokestatic index, 3)) (hf : cells + mc ≤ R.cells ∧ slots + ms ≤ R.slots) (hS : va_S A s.heap H locs)
    (kx : ∀ (C : String) (ce : Cell) (q9 : Nat) (u : SX) (H1 : Heap) (locs1 : List Loc), px u → BX C u H1 → va_S A s.heap H1 locs1 → H1[q9]? = some ce → ce.vm = .none → s.vm.findClass C = some ce.cls → vx_W p l e R s m args below meth c H1 locs1 (cells + mc) (slots + ms) Q (F0 m pc ls rest) q9)
    (kk : ∀ (u : S) (r : Nat) (H1 : Heap) (locs1 : List Loc), post u → P' u r H1 → H1.size ≥ H.size → va_S A s.heap H1 locs1 → W p l e R s m args below meth c H1 locs1 (cells + mc) (slots + ms) Q (F0 m (pc + 3) ls (.ref r :: rest))) : W p l e R s m args below meth c H locs cells slots Q (F0 m pc ls st) := by
  skip
  have ht := F.2.2.2.2
  have cb : CallB R s args own index y bytes maxL ret (zws y bytes maxL ret) { frames := fr, cells := mc, slots := ms, locals := lo } mc ms n := callB_of n ht (good_zws hcode) rfl rfl rfl (ht _ hini) (ht _ hlink) hd hR
  exact vx_callr (vx_runS (As := As) (rest := rest) F hM ⟨cb, ht _ hstat⟩ ⟨zPx_blind E A P _, zPx_pre hP hK (hH.kept hS.2.1)⟩ rfl hn hsize hst (lv_room hroom) hdg hf) hS (fun _ _ h => h) (fun _ h => h) (fun _ _ h => h) (fun C ce q9 u t H1 locs1 ht1 hvm hpx hB hz1 hk1 hS1 hce hcv hcl => kx C ce q9 u H1 locs1 hpx (by rw [← ht1]; exact hB.1) hS1 hce hcv hcl) (fun u r t H1 locs1 ht1 hvm hw hB hz1 hk1 hS1 => kk u r H1 locs1 hw (by rw [← ht1]; exact hB.1) hz1 hS1)
theorem zD_grow {E : zE} {B : Nat} {v : Nat → zV} {o : Nat → va_E} {H H1 : Heap} (hq : ∀ q : Nat, q < H.size → H1[q]? = H[q]?) (h : zD E B v o H) : zD E B v o H1 := ⟨h.1.kept (fun k q hk => hq q.1 (vx_lt h.1 hk)), h.2⟩
set_option maxRecDepth 100000 in
theorem zat_0 : zatc "WholeDesk" 41 "java/lang/IllegalArgumentException" = true := by decide +kernel
theorem zs_S_write_11 : zsite "WholeDesk" "java/lang/IllegalArgumentException" "a write has 1 to 8 characters" 37 39 41 := ⟨by decide +kernel, tw_164, tw_10, zat_0, by decide +kernel⟩
set_option maxRecDepth 100000 in
theorem zat_1 : zatc "WholeDesk" 67 "java/lang/IllegalStateException" = true := by decide +kernel
theorem zs_S_read_19 : zsite "WholeDesk" "java/lang/IllegalStateException" "the draft is no number text to this base" 63 65 67 := ⟨by decide +kernel, tw_267, tw_11, zat_1, by decide +kernel⟩
set_option maxRecDepth 100000 in
theorem zat_2 : zatc "WholeDesk" 93 "java/lang/ArithmeticException" = true := by decide +kernel
theorem zs_S_divide_29 : zsite "WholeDesk" "java/lang/ArithmeticException" "the divisor is 0" 89 91 93 := ⟨by decide +kernel, tw_326, tw_13, zat_2, by decide +kernel⟩
theorem zs_S_power_12 : zsite "WholeDesk" "java/lang/IllegalArgumentException" "the exponent is below 0" 37 112 41 := ⟨by decide +kernel, tw_164, tw_10, zat_0, by decide +kernel⟩
theorem zs_S_power_54 : zsite "WholeDesk" "java/lang/ArithmeticException" "the power is too large" 89 120 93 := ⟨by decide +kernel, tw_326, tw_13, zat_2, by decide +kernel⟩
theorem zs_S_root_19 : zsite "WholeDesk" "java/lang/IllegalArgumentException" "the root is not 1 to 64" 37 126 41 := ⟨by decide +kernel, tw_164, tw_10, zat_0, by decide +kernel⟩
theorem zs_S_root_41 : zsite "WholeDesk" "java/lang/ArithmeticException" "the number is below 0" 89 132 93 := ⟨by decide +kernel, tw_326, tw_13, zat_2, by decide +kernel⟩
theorem zs_S_combine_23 : zsite "WholeDesk" "java/lang/IllegalArgumentException" "the way to combine is not 0 to 3" 37 150 41 := ⟨by decide +kernel, tw_164, tw_10, zat_0, by decide +kernel⟩
theorem zs_S_shift_44 : zsite "WholeDesk" "java/lang/ArithmeticException" "the number grows too large" 89 156 93 := ⟨by decide +kernel, tw_326, tw_13, zat_2, by decide +kernel⟩
theorem zs_S_bit_8 : zsite "WholeDesk" "java/lang/IllegalArgumentException" "the place is below 0" 37 165 41 := ⟨by decide +kernel, tw_164, tw_10, zat_0, by decide +kernel⟩
theorem zs_S_told_77 : zsite "WholeDesk" "java/lang/IllegalArgumentException" "there is nothing such to tell" 37 191 41 := ⟨by decide +kernel, tw_164, tw_10, zat_0, by decide +kernel⟩
theorem zs_S_testRegister_10 : zsite "WholeDesk" "java/lang/IllegalArgumentException" "the register is not 0 to 9" 37 201 41 := ⟨by decide +kernel, tw_164, tw_10, zat_0, by decide +kernel⟩
theorem zs_S_testBase_11 : zsite "WholeDesk" "java/lang/IllegalArgumentException" "the base is not 2 to 36" 37 203 41 := ⟨by decide +kernel, tw_164, tw_10, zat_0, by decide +kernel⟩
theorem zs_S_testModulus_7 : zsite "WholeDesk" "java/lang/ArithmeticException" "the modulus is not above 0" 89 205 93 := ⟨by decide +kernel, tw_326, tw_13, zat_2, by decide +kernel⟩
theorem zs_S_keep_10 : zsite "WholeDesk" "java/lang/ArithmeticException" "the number is too large for a register" 89 207 93 := ⟨by decide +kernel, tw_326, tw_13, zat_2, by decide +kernel⟩
set_option maxRecDepth 100000 in
theorem zat_3 : zatc "WholeDesk$Reckoner" 129 "java/lang/ArithmeticException" = true := by decide +kernel
theorem zs_K_inverted_141 : zsite "WholeDesk$Reckoner" "java/lang/ArithmeticException" "there is no inverse" 125 127 129 := ⟨by decide +kernel, tw_521, tw_13, zat_3, by decide +kernel⟩
