/-! making objects: a block of N cells from B on, at the heap's end -/
def zG (E : zE) (B N : Nat) (O : Nat → va_E) (H : Heap) : Prop := va_P E.1 zCl (zB B N O) H ∧ H.size = B + N
def zGA (B : Nat) : Nat → Prop := fun q => B ≤ q
theorem zG_D (B N : Nat) (O : Nat → va_E) : va_D (zGA B) (zB B N O) := zB_D fun _ _ => Nat.le_add_right _ _
theorem zG.to {E : zE} {B N : Nat} {O O2 : Nat → va_E} {H : Heap} (h : zG E B N O H) (he : ∀ k, k < N → O k = O2 k) : zG E B N O2 H := ⟨zB_congr he ▸ h.1, h.2⟩
theorem zG_push {E : zE} {B N : Nat} {O : Nat → va_E} {x : va_E} {H H1 : Heap} (hZ : zG E B N O H) (he : va_at E.1 zCl (B + N, x) H1) (z1 : H1.size = H.size + 1) (o1 : ∀ q : Nat, q < H.size → H1[q]? = H[q]?) : zG E B (N + 1) (va_up O N x) H1 := by
  refine ⟨?_, by rw [z1, hZ.2]; rfl⟩
  rw [← zB_push]
  refine (hZ.1.kept fun k q hq => o1 q.1 ((hZ.1 k q hq).lt)).app (fun k q hq => ?_)
  have hz : k < 1 := (List.getElem?_eq_some_iff.mp hq).1
  rw [show k = 0 by omega] at hq
  cases hq
  exact he
theorem va_S_push {A : Nat → Prop} {H0 H H1 : Heap} {locs : List Loc} (hS : va_S A H0 H locs) (z1 : H1.size = H.size + 1) (o1 : ∀ q : Nat, q < H.size → H1[q]? = H[q]?) : va_S A H0 H1 locs :=
  ⟨Nat.le_trans hS.1 (by omega), fun x h1 h2 => (o1 x (Nat.lt_of_lt_of_le h1 hS.1)).trans (hS.2.1 x h1 h2), hS.2.2⟩
theorem zg_new {p : Program} {l : Launch} {e : Env} {R : Room} {s : State} {m : MethodId} {args : Array Value} {below : List Frame} {meth : Method} {c : Code} {H : Heap} {locs : List Loc} {cells slots : Nat} {Q : State → Prop} {cc : ByteArray} {pc : Nat} {ls : Array Slot} {rest : List Value} {E : zE} {B N : Nat} {O : Nat → va_E} {H0 : Heap} {A : Nat → Prop} (hx : p.tables.exec = Jvm.exec) (hb : c.code = cc) {own C : String} {T : u_T} {n ci index : Nat} (ht : ∀ w ∈ zt, w.before args s = true) (hin : ∀ w ∈ u_ws C T n, w ∈ zt) (ty : Nat → FieldType) (hty : ∀ k, k < n → parseFieldDescriptor (T k).2.2.1 = some (ty k)) (hown : s.vm.findClass own = some m.cls) (hcl : Cond.classLink own index C ∈ zt) (hinst : Cond.instantiable C n ∈ zt) (hini : Cond.initialized C ∈ zt) (hK : zK E s) (hc : zCl[ci]? = some (C, T, n)) {fs : List Value} (hfs : ∀ j, j < n → defaultValue (ty j) = vp_V fs j) (hZ : zG E B N O H) (hS : va_S A H0 H locs) (hcells : cells + 1 ≤ R.cells) (hslots : slots + n ≤ R.slots) (hdg : decode cc pc = .ok (.new index, 3))
    (kk : ∀ H1 : Heap, zG E B (N + 1) (va_up O N (.inr (ci, fs))) H1 → va_S A H0 H1 locs → W p l e R s m args below meth c H1 locs (cells + 1) (slots + n) Q (F0 m (pc + 3) ls (.ref (B + N) :: rest))) : W p l e R s m args below meth c H locs cells slots Q (F0 m pc ls rest) := by
  have hKn := hK.1 ci _ hc
  refine W.newcK hx hb hown (ht _ hcl) (ht _ hinst) (ht _ hini) rfl hdg hcells hslots hKn.2.1 hZ.2 fun H1 kC hkC e1 z1 o1 => ?_
  have z2 : H1.size = H.size + 1 := by rw [z1, hZ.2]
  have o2 : ∀ q : Nat, q < H.size → H1[q]? = H[q]? := fun q hq => o1 q (by rw [← hZ.2]; exact hq)
  exact kk H1 (zG_push hZ ⟨_, hc, (u_born ty ht hin hKn hkC e1 hty).to hfs⟩ z2 o2) (va_S_push hS z2 o2)
theorem zg_newa {p : Program} {l : Launch} {e : Env} {R : Room} {s : State} {m : MethodId} {args : Array Value} {below : List Frame} {meth : Method} {c : Code} {H : Heap} {locs : List Loc} {cells slots : Nat} {Q : State → Prop} {cc : ByteArray} {pc : Nat} {ls : Array Slot} {rest : List Value} {E : zE} {B N : Nat} {O : Nat → va_E} {H0 : Heap} {A : Nat → Prop} (hx : p.tables.exec = Jvm.exec) (hb : c.code = cc) {atype : ArrayType} {ty : FieldType} (hty : newarray.typeOf atype = ty) (ht : ∀ w ∈ zt, w.before args s = true) (harr : Cond.arrayClass ty ∈ zt) (hK : zK E s) (t0 : Nat) {cA : ClassId} (ht0 : (zTy E)[t0]? = some (cA, ty)) (hra : va_RA s cA ty → s.vm.findClass ("[" ++ ty.toString) = some cA) {a0 : vp_A} {k : Int32} {n : Nat} (ha : vp_cell cA a0 = arrV cA n (fun _ => defaultValue ty)) (hn : ¬ k < 0) (hN : k.toNatClampNeg = n) (hbytes : n * componentBytes ty ≤ 536870912) (hZ : zG E B N O H) (hS : va_S A H0 H locs) (hcells : cells + 1 ≤ R.cells) (hslots : slots + n ≤ R.slots) (hdg : decode cc pc = .ok (.newarray atype, 2))
    (kk : ∀ H1 : Heap, zG E B (N + 1) (va_up O N (.inl (cA, a0))) H1 → va_S A H0 H1 locs → W p l e R s m args below meth c H1 locs (cells + 1) (slots + n) Q (F0 m (pc + 2) ls (.ref (B + N) :: rest))) : W p l e R s m args below meth c H locs cells slots Q (F0 m pc ls (.int k :: rest)) := by
  subst hty
  refine va_newaK hx hb (ht _ harr) rfl hdg rfl hn hN hbytes hcells hslots hZ.2 fun H1 cA1 e1 z1 o1 _ hNm => ?_
  have hcA : cA1 = cA := Option.some.inj (hNm.symm.trans (hra (hK.2 t0 _ ht0).2))
  subst hcA
  have z2 : H1.size = H.size + 1 := by rw [z1, hZ.2]
  have o2 : ∀ q : Nat, q < H.size → H1[q]? = H[q]? := fun q hq => o1 q (by rw [← hZ.2]; exact hq)
  exact kk H1 (zG_push hZ (by show H1[B + N]? = some (vp_cell _ _); rw [ha]; exact e1) z2 o2) (va_S_push hS z2 o2)
theorem arrV_none {cA : ClassId} {n : Nat} {f : Nat → Option Nat} (hf : ∀ j, j < n → f j = none) : vp_cell cA (n, .inr (.inr (.inr (.inr f)))) = arrV cA n (fun _ => .null) := by
  rw [vp_cell_q]
  unfold arrV
  congr 2
  funext j
  show va_rf (f j.val) = .null
  rw [hf j.val j.isLt]
  rfl
theorem zg_anew {p : Program} {l : Launch} {e : Env} {R : Room} {s : State} {m : MethodId} {args : Array Value} {below : List Frame} {meth : Method} {c : Code} {H : Heap} {locs : List Loc} {cells slots : Nat} {Q : State → Prop} {cc : ByteArray} {pc : Nat} {ls : Array Slot} {rest : List Value} {E : zE} {B N : Nat} {O : Nat → va_E} {H0 : Heap} {A : Nat → Prop} (hx : p.tables.exec = Jvm.exec) (hb : c.code = cc) {own : String} {index : Nat} (ht : ∀ w ∈ zt, w.before args s = true) (hown : s.vm.findClass own = some m.cls) (hcl : Cond.classLink own index "WholeDesk$Whole" ∈ zt) (hover : va_AO "WholeDesk$Whole" s) (hK : zK E s) {k : Int32} {n : Nat} {f : Nat → Option Nat} (hf : ∀ j, j < n → f j = none) (hn : ¬ k < 0) (hN : k.toNatClampNeg = n) (hbytes : n * 4 ≤ 536870912) (hZ : zG E B N O H) (hS : va_S A H0 H locs) (hcells : cells + 1 ≤ R.cells) (hslots : slots + n ≤ R.slots) (hdg : decode cc pc = .ok (.anewarray index, 3))
    (kk : ∀ H1 : Heap, zG E B (N + 1) (va_up O N (.inl (E.2.2.2.1, n, .inr (.inr (.inr (.inr f)))))) H1 → va_S A H0 H1 locs → W p l e R s m args below meth c H1 locs (cells + 1) (slots + n) Q (F0 m (pc + 3) ls (.ref (B + N) :: rest))) : W p l e R s m args below meth c H locs cells slots Q (F0 m pc ls (.int k :: rest)) := by
  subst hN
  refine W.anew hx hb hown (ht _ hcl) (va_AO.use hover) rfl hdg rfl hn hbytes hcells hslots fun cA kA comp f1 f2 f3 f4 => ?_
  obtain ⟨_, _, _, _, _, h4⟩ := (hK.2 2 (E.2.2.2.1, .object "WholeDesk$Whole") rfl).2
  have hcA : cA = E.2.2.2.1 := Option.some.inj (f1.symm.trans h4)
  subst hcA
  generalize hH1 : H.push ({ cls := E.2.2.2.1, slots := Array.replicate k.toNatClampNeg .null, vm := .none } : Cell) = H1
  have z1 : H1.size = H.size + 1 := by rw [← hH1, Array.size_push]
  have e1 : H1[H.size]? = some (arrV E.2.2.2.1 k.toNatClampNeg (fun _ => .null)) := by rw [← hH1, Array.getElem?_push_size, ← arrV_new]
  have o1 : ∀ q : Nat, q < H.size → H1[q]? = H[q]? := fun q hq => by rw [← hH1, Array.getElem?_push, if_neg (Nat.ne_of_lt hq)]
  have k9 := kk H1 (zG_push hZ (by show H1[B + N]? = some (vp_cell _ _); rw [arrV_none hf, ← hZ.2]; exact e1) z1 o1) (va_S_push hS z1 o1)
  rw [← hZ.2] at k9
  exact k9
abbrev zPn (E : zE) (P : Heap → Prop) (av : List Value) : Array Value → State → Prop := va_Pc av (fun U => (P U.heap ∧ zK E U) ∧ va_AO "WholeDesk$Whole" U)
theorem zcI {p : Program} {l : Launch} {e : Env} {R : Room} {s : State} {m : MethodId} {args : Array Value} {below : List Frame} {meth : Method} {c : Code} {H : Heap} {locs : List Loc} {cells slots : Nat} {Q : State → Prop} {cc : ByteArray} {pc : Nat} {ls : Array Slot} {rest : List Value} {E : zE} {H0 : Heap} {own : String} {index maxL nL fr lo mc ms : Nat} {y : MethodName} {bytes : ByteArray} {P P' : Heap → Prop} {A A0 : Nat → Prop} {a : Nat} (F : CallFix p m c cc nL s args zt own) (hM : Met l y (zws y bytes maxL none) { frames := fr, cells := mc, slots := ms, locals := lo } (zPn E P [.ref a]) (va_Qv (fun _ : Unit => True) (fun _ t => P' t.heap ∧ zK E t) A) mc ms A) (hcode : Cond.code y bytes maxL none ∈ zt) (hlink : Cond.methodLink own index y ∈ zt) (hinst : Cond.instanceMethod y ∈ zt) (hini : Cond.initialized y.cls ∈ zt) (hnm : y.name = "<init>") (hd : y.cls ≠ "java/lang/invoke/MethodHandle" ∧ y.cls ≠ "java/lang/invoke/VarHandle" ∧ (parseMethodDescriptor y.desc).map (fun d => d.parameters.length) = some 0) (hR : fr + 1 ≤ R.frames ∧ 8 + (maxL + 11) + lo ≤ R.locals)
    (hP : P H) (hK : zK E s) (hO : va_AO "WholeDesk$Whole" s) (hsize : ls.size = nL) (hroom : (rest.map fun v => v.category).sum ≤ 8) (hdg : decode cc pc = .ok (.invokespecial index, 3)) (hf : cells + mc ≤ R.cells ∧ slots + ms ≤ R.slots) (hA : ∀ q, A q → A0 q) (hS : va_S A0 H0 H locs)
    (kk : ∀ (H1 : Heap) (locs1 : List Loc), P' H1 → va_S A0 H0 H1 locs1 → (∀ q : Nat, q < H.size → ¬ A q → H1[q]? = H[q]?) → W p l e R s m args below meth c H1 locs1 (cells + mc) (slots + ms) Q (F0 m (pc + 3) ls rest)) : W p l e R s m args below meth c H locs cells slots Q (F0 m pc ls (.ref a :: rest)) := by
  have ht := F.2.2.2.2
  have cb : CallB R s args own index y bytes maxL none (zws y bytes maxL none) { frames := fr, cells := mc, slots := ms, locals := lo } mc ms 0 := callB_of 0 ht (good_zws hcode) rfl rfl rfl (ht _ hini) (ht _ hlink) hd hR
  exact va_callv (va_runI (As := []) (rest := rest) (b := a) F hM ⟨cb, hnm, ht _ hinst⟩ ⟨fun a U g mk q => ⟨q.1, ⟨q.2.1.1, va_K.moved (u := U) (U := U.calling g mk a) (Vm.Alike.refl U.vm) q.2.1.2⟩, va_AO.moved (u := U) (U := U.calling g mk a) (Vm.Alike.refl U.vm) q.2.2⟩, fun U hU hW => ⟨rfl, ⟨by rw [hU]; exact hP, va_K.moved hW.alike hK⟩, va_AO.moved hW.alike hO⟩⟩ rfl rfl hsize rfl (lv_room hroom) hdg hf) hS (fun q _ h => hA q h) hA (fun u t H1 locs1 ht1 hvm hw hB hz1 hk1 hS1 => kk H1 locs1 (by rw [← ht1]; exact hB.1) hS1 hk1)
theorem zof_n {l : Launch} {y : MethodName} {cc : ByteArray} {maxL fr lo mc ms : Nat} {E : zE} {P P' : Heap → Prop} {A : Nat → Prop} {av : List Value} (hy : plainName y.cls = true) (hnm : y.name = "<init>") (hlen : (lg_sl av).length ≤ maxL)
    (body : ∀ (p : Program) (e : Env) (R : Room) (s : State) (m : MethodId) (args : Array Value) (below : List Frame) (meth : Method) (c : Code) (Q : State → Prop) (ls : Array Slot), R = { frames := fr, cells := mc, slots := ms, locals := lo } → p.tables.exec = Jvm.exec → c.code = cc → c.maxLocals = maxL → (∀ w ∈ zt, w.before args s = true) → s.vm.findClass y.cls = some m.cls → meth.name = "<init>" → va_AO "WholeDesk$Whole" s → zK E s → P s.heap → lv_has ls maxL (lv_args 0 av) →
      (∀ (pc : Nat) (H : Heap) (locs : List Loc) (ls : Array Slot), decode cc pc = .ok (.return_, 1) → P' H → va_S A s.heap H locs → W p l e R s m args below meth c H locs mc ms Q (F0 m pc ls [])) → W p l e R s m args below meth c s.heap [] 0 0 Q (F0 m 0 ls [])) :
    Met l y (zws y cc maxL none) { frames := fr, cells := mc, slots := ms, locals := lo } (zPn E P av) (va_Qv (fun _ : Unit => True) (fun _ t => P' t.heap ∧ zK E t) A) mc ms A := by
  refine Met.ofW (cc := cc) (maxL := maxL) (ret := none) hy rfl ?_
  intro p e s m args below meth c s₁ BB hml hv
  obtain ⟨rfl, ⟨hZ, hK⟩, hO⟩ := hv
  have hlocks := BB.notSynchronized
  have hl := lv_entry av (n := maxL) hlen
  rw [lg_entry_eq]
  refine body p e _ s m _ below meth c _ _ rfl BB.exec BB.bytes hml (fun w h => atoms_spec (ws := zws y cc maxL none) BB.pre w (List.mem_cons_of_mem _ h)) (findClass_of_methodNamed BB.named) ((name_of_methodNamed BB.named BB.method).1.trans hnm) hO hK hZ hl ?_
  intro pc H locs ls hd hP hS
  exact W.vret BB.exec BB.bytes BB.returns (fun t ht9 hW9 => ⟨⟨(), rfl, trivial, by rw [ht9]; exact hP, va_K.moved hW9.alike hK⟩, hS.F ht9⟩) hS.2.2 hd hlocks
theorem zg_set {E : zE} {B N : Nat} {O : Nat → va_E} {x : va_E} {H H1 : Heap} {q0 : Nat} (hq : q0 < N) (hZ : zG E B N O H) (he : va_at E.1 zCl (B + q0, x) H1) (z : H1.size = H.size) (oq : ∀ q : Nat, q ≠ B + q0 → H1[q]? = H[q]?) : zG E B N (va_up O q0 x) H1 :=
  ⟨by rw [← zB_set hq]; exact hZ.1.set (zG_D B N O) (zB_at hq) he oq, by rw [z, hZ.2]⟩
theorem zg_putF {p : Program} {l : Launch} {e : Env} {R : Room} {s : State} {m : MethodId} {args : Array Value} {below : List Frame} {meth : Method} {c : Code} {H : Heap} {locs : List Loc} {cells slots : Nat} {Q : State → Prop} {cc : ByteArray} {pc : Nat} {ls : Array Slot} {rest : List Value} {E : zE} {B N : Nat} {O : Nat → va_E} {H0 : Heap} (hx : p.tables.exec = Jvm.exec) (hb : c.code = cc) {own ref C : String} {T : u_T} {n ci index : Nat} (ht : ∀ w ∈ zt, w.before args s = true) (hin : ∀ w ∈ u_ws C T n, w ∈ zt) (ty0 : Nat → FieldType) (hty : ∀ k, k < n → parseFieldDescriptor (T k).2.2.1 = some (ty0 k)) (hnm : ∀ a, a < n → ∀ b, b < n → a ≠ b → (T a).2.1 ≠ (T b).2.1) (hown : s.vm.findClass own = some m.cls) (hK : zK E s) (hZ : zG E B N O H) (hS0 : va_S (zGA B) H0 H locs) (q0 : Nat) (hq0 : q0 < N) {fs : List Value} (he : O q0 = .inr (ci, fs)) (hc : zCl[ci]? = some (C, T, n)) (k : Nat) (hk : k < n) (hlink : Cond.fieldLink own index ref (T k).2.1 (T k).2.2.1 ∈ zt) (hsame : ∀ x, s.fieldFound? (T k).1 (T k).2.1 (T k).2.2.1 = some x → s.fieldFound? ref (T k).2.1 (T k).2.2.1 = some x) (hfin : (T k).2.2.2 = true) (hin2 : meth.name = "<init>") (hdecl : (T k).1 = own) {ty : FieldType} {v : Value} (hd : parseFieldDescriptor (T k).2.2.1 = some ty) (hn : narrow ty v = v) (hfit : fits ty v = true) (hl : k < fs.length) (hdg : decode cc pc = .ok (.putfield index, 3))
    (kk : ∀ (H1 : Heap) (locs1 : List Loc), zG E B N (va_up O q0 (.inr (ci, fs.set k v))) H1 → va_S (zGA B) H0 H1 locs1 → W p l e R s m args below meth c H1 locs1 cells slots Q (F0 m (pc + 3) ls rest)) : W p l e R s m args below meth c H locs cells slots Q (F0 m pc ls (v :: .ref (B + q0) :: rest)) := by
  have hap := va_apart (own := own) ht hin ty0 hty hnm hK hc
  obtain ⟨r, h1, cell, q1, q2, q3, q4⟩ : va_at E.1 zCl (B + q0, .inr (ci, fs)) H := by rw [← he]; exact hZ.1 q0 _ (zB_at hq0)
  have hr : r = (C, T, n) := Option.some.inj (h1.symm.trans hc)
  subst hr
  obtain ⟨hS, hfc, kC, hkC, hkind⟩ := hK.1 ci _ hc
  obtain ⟨cf, kf, fi, f, hi, hsl⟩ := hS k hk
  have hlay := ht _ (hin _ (u_in_lay hk))
  unfold u_lay at hlay
  rw [if_pos hfin] at hlay
  have hst := (u_facts hfc hkC (u_lays ht hin hk) hi).1
  have hcf : m.cls = cf := by
    obtain ⟨_, _, c', _, _, _, -, -, hf', -, -, -, hown2, -⟩ := Cond.laysFinal_spec hlay
    have e1 : c' = cf := by have := hi.symm.trans hf'; simp at this; exact this.1.symm
    rw [hdecl] at hown2
    rw [← e1]; exact Option.some.inj (hown.symm.trans hown2)
  have h6 := u_fits hfc hkC hkind (Or.inr hlay) hi hd hn hfit
  refine W.putFinK hx hb hown (ht _ hlink) (hsame _ hi) hst hcf hin2 (by rw [q2]; exact h6) q1 q3 (by rw [hsl]; exact k2_hasslot (q4 k hk)) rfl rfl hdg fun H' e1 e2 e3 => ?_
  rw [hsl] at e1 ⊢
  exact kk H' _ (zg_set hq0 hZ ⟨_, hc, t_OB.to (V := updV (vp_V fs) k v) ⟨_, e1, q2, q3, t_set q4 hap hk v⟩ (fun j _ => vp_updV_set hl v j)⟩ e2 e3) (hS0.put e2 e3 (Nat.le_add_right _ _))
theorem zg_put {p : Program} {l : Launch} {e : Env} {R : Room} {s : State} {m : MethodId} {args : Array Value} {below : List Frame} {meth : Method} {c : Code} {H : Heap} {locs : List Loc} {cells slots : Nat} {Q : State → Prop} {cc : ByteArray} {pc : Nat} {ls : Array Slot} {rest : List Value} {E : zE} {B N : Nat} {O : Nat → va_E} {H0 : Heap} (hx : p.tables.exec = Jvm.exec) (hb : c.code = cc) {own ref C : String} {T : u_T} {n ci index : Nat} (ht : ∀ w ∈ zt, w.before args s = true) (hin : ∀ w ∈ u_ws C T n, w ∈ zt) (ty0 : Nat → FieldType) (hty : ∀ k, k < n → parseFieldDescriptor (T k).2.2.1 = some (ty0 k)) (hnm : ∀ a, a < n → ∀ b, b < n → a ≠ b → (T a).2.1 ≠ (T b).2.1) (hown : s.vm.findClass own = some m.cls) (hK : zK E s) (hZ : zG E B N O H) (hS0 : va_S (zGA B) H0 H locs) (q0 : Nat) (hq0 : q0 < N) {fs : List Value} (he : O q0 = .inr (ci, fs)) (hc : zCl[ci]? = some (C, T, n)) (k : Nat) (hk : k < n) (hlink : Cond.fieldLink own index ref (T k).2.1 (T k).2.2.1 ∈ zt) (hsame : ∀ x, s.fieldFound? (T k).1 (T k).2.1 (T k).2.2.1 = some x → s.fieldFound? ref (T k).2.1 (T k).2.2.1 = some x) (hfin : (T k).2.2.2 = false) {ty : FieldType} {v : Value} (hd : parseFieldDescriptor (T k).2.2.1 = some ty) (hn : narrow ty v = v) (hfit : fits ty v = true) (hl : k < fs.length) (hdg : decode cc pc = .ok (.putfield index, 3))
    (kk : ∀ (H1 : Heap) (locs1 : List Loc), zG E B N (va_up O q0 (.inr (ci, fs.set k v))) H1 → va_S (zGA B) H0 H1 locs1 → W p l e R s m args below meth c H1 locs1 cells slots Q (F0 m (pc + 3) ls rest)) : W p l e R s m args below meth c H locs cells slots Q (F0 m pc ls (v :: .ref (B + q0) :: rest)) := by
  have hap := va_apart (own := own) ht hin ty0 hty hnm hK hc
  obtain ⟨r, h1, cell, q1, q2, q3, q4⟩ : va_at E.1 zCl (B + q0, .inr (ci, fs)) H := by rw [← he]; exact hZ.1 q0 _ (zB_at hq0)
  have hr : r = (C, T, n) := Option.some.inj (h1.symm.trans hc)
  subst hr
  obtain ⟨hS, hfc, kC, hkC, hkind⟩ := hK.1 ci _ hc
  obtain ⟨cf, kf, fi, f, hi, hsl⟩ := hS k hk
  have hlay := ht _ (hin _ (u_in_lay hk))
  unfold u_lay at hlay
  rw [if_neg (by rw [hfin]; decide)] at hlay
  have hst := (u_facts hfc hkC (u_lays ht hin hk) hi).1
  have h6 := u_store hfc hkC hkind hlay hi hd hn hfit
  refine W.putK hx hb (f := f) ⟨hown, ht _ hlink, ⟨_, _, _, hsame _ hi⟩, hst⟩ (by rw [q2]; exact h6) q1 q3 (by rw [hsl]; exact k2_hasslot (q4 k hk)) rfl rfl hdg fun H' e1 e2 e3 => ?_
  rw [hsl] at e1 ⊢
  exact kk H' _ (zg_set hq0 hZ ⟨_, hc, t_OB.to (V := updV (vp_V fs) k v) ⟨_, e1, q2, q3, t_set q4 hap hk v⟩ (fun j _ => vp_updV_set hl v j)⟩ e2 e3) (hS0.put e2 e3 (Nat.le_add_right _ _))
theorem zg_aast {p : Program} {l : Launch} {e : Env} {R : Room} {s : State} {m : MethodId} {args : Array Value} {below : List Frame} {meth : Method} {c : Code} {H : Heap} {locs : List Loc} {cells slots : Nat} {Q : State → Prop} {cc : ByteArray} {pc : Nat} {ls : Array Slot} {rest : List Value} {E : zE} {B N : Nat} {O : Nat → va_E} {H0 : Heap} (hx : p.tables.exec = Jvm.exec) (hb : c.code = cc) (hK : zK E s) (hZ : zG E B N O H) (hS : va_S (zGA B) H0 H locs) (q0 qk : Nat) (hq0 : q0 < N) (hqk : qk < N) {n i : Nat} {vs : List Value} {f : Nat → Option Nat} (ha : O q0 = .inl (E.2.2.2.1, n, .inr (.inr (.inr (.inr f))))) (hv : O qk = .inr (0, vs)) (hi : i < n) (hn : n ≤ 100) (hdg : decode cc pc = .ok (.aastore, 1))
    (kk : ∀ (H1 : Heap) (locs1 : List Loc), zG E B N (va_up O q0 (.inl (E.2.2.2.1, n, .inr (.inr (.inr (.inr (va_up f i (some (B + qk))))))))) H1 → va_S (zGA B) H0 H1 locs1 → W p l e R s m args below meth c H1 locs1 cells slots Q (F0 m (pc + 1) ls rest)) : W p l e R s m args below meth c H locs cells slots Q (F0 m pc ls (.ref (B + qk) :: .int (iZ i) :: .ref (B + q0) :: rest)) := by
  have hzi : zi i := by unfold zi; omega
  have hcl : (iZ i).toNatClampNeg = i := by rw [iZ_clamp hzi]; rfl
  have h0 : ¬ (iZ i) < 0 := by rw [iZ_0, iZ_lt hzi ⟨by decide, by decide⟩]; omega
  have hP : va_at E.1 zCl (B + q0, .inl (E.2.2.2.1, n, .inr (.inr (.inr (.inr f))))) H := by rw [← ha]; exact hZ.1 q0 _ (zB_at hq0)
  obtain ⟨r', hr', cellV, g1, g2, g3, -⟩ : va_at E.1 zCl (B + qk, .inr (0, vs)) H := by rw [← hv]; exact hZ.1 qk _ (zB_at hqk)
  have hcls := (hK.1 0 ("WholeDesk$Whole", TW, 3) rfl).2
  obtain ⟨kA, comp, k1, k2, k3, -⟩ := (hK.2 2 (E.2.2.2.1, .object "WholeDesk$Whole") rfl).2
  have hcomp : comp = E.1.1 0 := Option.some.inj (k3.symm.trans hcls.1)
  subst hcomp
  obtain ⟨kC, hkC, -⟩ := hcls.2
  refine W.aast hx hb hP (fun q h => by cases h) (fun h => by cases h) k1 k2 rfl hkC ⟨h0, by show _ < (arrV _ _ _).slots.size; rw [arrV_size, hcl]; exact hi⟩ g1 (fun q h => by rw [g3] at h; cases h) (by rw [g2]; exact hkC) (by rw [g2]; exact va_assign hcls) rfl rfl hdg fun H1 e z oq => ?_
  refine kk H1 _ (zg_set hq0 hZ ?_ z oq) (hS.put z oq (Nat.le_add_right _ _))
  show H1[B + q0]? = some (vp_cell _ _)
  rw [e]
  rw [vp_cell_q, vp_cell_q, arrV_store, hcl]
  congr 2
  funext q
  by_cases hq : q = i
  · subst hq
    simp [updV, va_up, va_rf]
  · simp [updV, va_up, hq]