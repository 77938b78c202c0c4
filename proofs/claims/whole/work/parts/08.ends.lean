/-- a contract out of a walk of the body -/
theorem zof_v {l : Launch} {y : MethodName} {cc : ByteArray} {maxL fr lo : Nat} {E : zE} {P : Heap → Prop} {S : Type} {post : S → Prop} {P' : S → Heap → Prop} {A : Nat → Prop} {av : List Value} (hy : plainName y.cls = true) (hlen : (lg_sl av).length ≤ maxL)
    (body : ∀ (p : Program) (e : Env) (R : Room) (s : State) (m : MethodId) (args : Array Value) (below : List Frame) (meth : Method) (c : Code) (Q : State → Prop) (ls : Array Slot), R = { frames := fr, cells := 0, slots := 0, locals := lo } → p.tables.exec = Jvm.exec → c.code = cc → c.maxLocals = maxL → (∀ w ∈ zt, w.before args s = true) → s.vm.findClass y.cls = some m.cls → zK E s → P s.heap → lv_has ls maxL (lv_args 0 av) →
      (∀ (pc : Nat) (u : S) (H : Heap) (locs : List Loc) (ls : Array Slot), decode cc pc = .ok (.return_, 1) → post u → P' u H → va_S A s.heap H locs → W p l e R s m args below meth c H locs 0 0 Q (F0 m pc ls [])) → W p l e R s m args below meth c s.heap [] 0 0 Q (F0 m 0 ls [])) :
    Met l y (zws y cc maxL none) { frames := fr, cells := 0, slots := 0, locals := lo } (zPc E P av) (va_Qv post (fun u t => P' u t.heap ∧ zK E t) A) 0 0 A := by
  refine Met.ofW (cc := cc) (maxL := maxL) (ret := none) hy rfl ?_
  intro p e s m args below meth c s₁ BB hml hv
  obtain ⟨rfl, hZ, hK⟩ := hv
  have hlocks := BB.notSynchronized
  have hl := lv_entry av (n := maxL) hlen
  rw [lg_entry_eq]
  refine body p e _ s m _ below meth c _ _ rfl BB.exec BB.bytes hml (fun w h => atoms_spec (ws := zws y cc maxL none) BB.pre w (List.mem_cons_of_mem _ h)) (findClass_of_methodNamed BB.named) hK hZ hl ?_
  intro pc u H locs ls hd hp hP hS
  exact W.vret BB.exec BB.bytes BB.returns (fun t ht9 hW9 => ⟨⟨u, rfl, hp, by rw [ht9]; exact hP, va_K.moved hW9.alike hK⟩, hS.F ht9⟩) hS.2.2 hd hlocks
/-- a contract out of a walk of the body -/
theorem zof_i {l : Launch} {y : MethodName} {cc : ByteArray} {maxL fr lo : Nat} {E : zE} {P : Heap → Prop} {S : Type} {post : Int32 → S → Prop} {P' : S → Heap → Prop} {A : Nat → Prop} {av : List Value} (hy : plainName y.cls = true) (hlen : (lg_sl av).length ≤ maxL)
    (body : ∀ (p : Program) (e : Env) (R : Room) (s : State) (m : MethodId) (args : Array Value) (below : List Frame) (meth : Method) (c : Code) (Q : State → Prop) (ls : Array Slot), R = { frames := fr, cells := 0, slots := 0, locals := lo } → p.tables.exec = Jvm.exec → c.code = cc → c.maxLocals = maxL → (∀ w ∈ zt, w.before args s = true) → s.vm.findClass y.cls = some m.cls → zK E s → P s.heap → lv_has ls maxL (lv_args 0 av) →
      (∀ (pc : Nat) (r : Int32) (u : S) (H : Heap) (locs : List Loc) (ls : Array Slot), decode cc pc = .ok (.ireturn, 1) → post r u → P' u H → va_S A s.heap H locs → W p l e R s m args below meth c H locs 0 0 Q (F0 m pc ls [.int r])) → W p l e R s m args below meth c s.heap [] 0 0 Q (F0 m 0 ls [])) :
    Met l y (zws y cc maxL (some .int)) { frames := fr, cells := 0, slots := 0, locals := lo } (zPc E P av) (va_Qi post (fun u t => P' u t.heap ∧ zK E t) A) 0 0 A := by
  refine Met.ofW (cc := cc) (maxL := maxL) (ret := (some .int)) hy rfl ?_
  intro p e s m args below meth c s₁ BB hml hv
  obtain ⟨rfl, hZ, hK⟩ := hv
  have hlocks := BB.notSynchronized
  have hl := lv_entry av (n := maxL) hlen
  rw [lg_entry_eq]
  refine body p e _ s m _ below meth c _ _ rfl BB.exec BB.bytes hml (fun w h => atoms_spec (ws := zws y cc maxL (some .int)) BB.pre w (List.mem_cons_of_mem _ h)) (findClass_of_methodNamed BB.named) hK hZ hl ?_
  intro pc r u H locs ls hd hp hP hS
  exact W.iret (v := r) BB.exec BB.bytes BB.returns (fun t ht9 hW9 => ⟨⟨r, u, rfl, hp, by rw [ht9]; exact hP, va_K.moved hW9.alike hK⟩, hS.F ht9⟩) hS.2.2 hd hlocks
/-- a contract out of a walk of the body -/
theorem zof_l {l : Launch} {y : MethodName} {cc : ByteArray} {maxL fr lo : Nat} {E : zE} {P : Heap → Prop} {S : Type} {post : Int64 → S → Prop} {P' : S → Heap → Prop} {A : Nat → Prop} {av : List Value} (hy : plainName y.cls = true) (hlen : (lg_sl av).length ≤ maxL)
    (body : ∀ (p : Program) (e : Env) (R : Room) (s : State) (m : MethodId) (args : Array Value) (below : List Frame) (meth : Method) (c : Code) (Q : State → Prop) (ls : Array Slot), R = { frames := fr, cells := 0, slots := 0, locals := lo } → p.tables.exec = Jvm.exec → c.code = cc → c.maxLocals = maxL → (∀ w ∈ zt, w.before args s = true) → s.vm.findClass y.cls = some m.cls → zK E s → P s.heap → lv_has ls maxL (lv_args 0 av) →
      (∀ (pc : Nat) (r : Int64) (u : S) (H : Heap) (locs : List Loc) (ls : Array Slot), decode cc pc = .ok (.lreturn, 1) → post r u → P' u H → va_S A s.heap H locs → W p l e R s m args below meth c H locs 0 0 Q (F0 m pc ls [.long r])) → W p l e R s m args below meth c s.heap [] 0 0 Q (F0 m 0 ls [])) :
    Met l y (zws y cc maxL (some .long)) { frames := fr, cells := 0, slots := 0, locals := lo } (zPc E P av) (va_Ql post (fun u t => P' u t.heap ∧ zK E t) A) 0 0 A := by
  refine Met.ofW (cc := cc) (maxL := maxL) (ret := (some .long)) hy rfl ?_
  intro p e s m args below meth c s₁ BB hml hv
  obtain ⟨rfl, hZ, hK⟩ := hv
  have hlocks := BB.notSynchronized
  have hl := lv_entry av (n := maxL) hlen
  rw [lg_entry_eq]
  refine body p e _ s m _ below meth c _ _ rfl BB.exec BB.bytes hml (fun w h => atoms_spec (ws := zws y cc maxL (some .long)) BB.pre w (List.mem_cons_of_mem _ h)) (findClass_of_methodNamed BB.named) hK hZ hl ?_
  intro pc r u H locs ls hd hp hP hS
  exact W.lret (v := r) BB.exec BB.bytes BB.returns (fun t ht9 hW9 => ⟨⟨r, u, rfl, hp, by rw [ht9]; exact hP, va_K.moved hW9.alike hK⟩, hS.F ht9⟩) hS.2.2 hd hlocks
/-- a contract out of a walk of the body -/
theorem zof_z {l : Launch} {y : MethodName} {cc : ByteArray} {maxL fr lo : Nat} {E : zE} {P : Heap → Prop} {S : Type} {post : Int32 → S → Prop} {P' : S → Heap → Prop} {A : Nat → Prop} {av : List Value} (hy : plainName y.cls = true) (hlen : (lg_sl av).length ≤ maxL)
    (body : ∀ (p : Program) (e : Env) (R : Room) (s : State) (m : MethodId) (args : Array Value) (below : List Frame) (meth : Method) (c : Code) (Q : State → Prop) (ls : Array Slot), R = { frames := fr, cells := 0, slots := 0, locals := lo } → p.tables.exec = Jvm.exec → c.code = cc → c.maxLocals = maxL → (∀ w ∈ zt, w.before args s = true) → s.vm.findClass y.cls = some m.cls → zK E s → P s.heap → lv_has ls maxL (lv_args 0 av) →
      (∀ (pc : Nat) (r : Bool) (u : S) (H : Heap) (locs : List Loc) (ls : Array Slot), decode cc pc = .ok (.ireturn, 1) → post (iZ (bZ r)) u → P' u H → va_S A s.heap H locs → W p l e R s m args below meth c H locs 0 0 Q (F0 m pc ls [.int (iZ (bZ r))])) → W p l e R s m args below meth c s.heap [] 0 0 Q (F0 m 0 ls [])) :
    Met l y (zws y cc maxL (some .boolean)) { frames := fr, cells := 0, slots := 0, locals := lo } (zPc E P av) (va_Qi post (fun u t => P' u t.heap ∧ zK E t) A) 0 0 A := by
  refine Met.ofW (cc := cc) (maxL := maxL) (ret := (some .boolean)) hy rfl ?_
  intro p e s m args below meth c s₁ BB hml hv
  obtain ⟨rfl, hZ, hK⟩ := hv
  have hlocks := BB.notSynchronized
  have hl := lv_entry av (n := maxL) hlen
  rw [lg_entry_eq]
  refine body p e _ s m _ below meth c _ _ rfl BB.exec BB.bytes hml (fun w h => atoms_spec (ws := zws y cc maxL (some .boolean)) BB.pre w (List.mem_cons_of_mem _ h)) (findClass_of_methodNamed BB.named) hK hZ hl ?_
  intro pc r u H locs ls hd hp hP hS
  exact W.zret (v := iZ (bZ r)) BB.exec BB.bytes BB.returns (bZ_nar r) (fun t ht9 hW9 => ⟨⟨iZ (bZ r), u, rfl, hp, by rw [ht9]; exact hP, va_K.moved hW9.alike hK⟩, hS.F ht9⟩) hS.2.2 hd hlocks
theorem iZ_dec (x : Int) (n : Int) : iZ x + Int32.ofInt (-n) = iZ (x - n) := by rw [show Int32.ofInt (-n) = iZ (-n) from rfl, iZ_add, Int.sub_eq_add_neg]
theorem zi_nat {n M : Nat} (h : n ≤ M) (hM : M < 2147483648) : zi n := ⟨by omega, by omega⟩
