/-- the Reckoner's object: its Wholes at 23, 25, .., answer and spare at an and sp -/
def zR (B an sp : Nat) : va_E := .inr (1, [.ref (B + 23), .ref (B + 25), .ref (B + an), .ref (B + sp), .ref (B + 31), .ref (B + 33), .ref (B + 35), .ref (B + 37), .ref (B + 39)])
/-- the array of powers -/
def zPw (E : zE) (B : Nat) : va_E := .inl (E.2.2.2.1, 16, .inr (.inr (.inr (.inr (fun i => some (B + (40 + 2 * i)))))))
/-- the other cells with the Reckoner's object and its array -/
def zo (E : zE) (B : Nat) (o : Nat → va_E) (an sp : Nat) : Nat → va_E := va_up (va_up o 39 (zPw E B)) 22 (zR B an sp)
theorem zo_22 (E : zE) (B : Nat) (o : Nat → va_E) (an sp : Nat) : zo E B o an sp 22 = zR B an sp := va_up_self _ _ _
theorem zo_39 (E : zE) (B : Nat) (o : Nat → va_E) (an sp : Nat) : zo E B o an sp 39 = zPw E B := by
  unfold zo
  rw [va_up_ne _ _ (by decide), va_up_self]
theorem zo_up (E : zE) (B : Nat) (o : Nat → va_E) (an sp an1 sp1 : Nat) : va_up (zo E B o an sp) 22 (zR B an1 sp1) = zo E B o an1 sp1 := bx_uu _ _ _ _
theorem lp_22 : ¬ lp 22 = true := by decide
theorem lp_21 : ¬ (1 ≤ 22 ∧ lp (22 - 1) = true) := by decide
theorem lp_39 : ¬ lp 39 = true := by decide
theorem lp_38 : ¬ (1 ≤ 39 ∧ lp (39 - 1) = true) := by decide
section ZKR
variable {p : Program} {l : Launch} {e : Env} {R : Room} {s : State} {m : MethodId} {args : Array Value} {below : List Frame} {meth : Method} {c : Code} {H : Heap} {locs : List Loc} {cells slots : Nat} {Q : State → Prop}
variable {cc : ByteArray} {pc : Nat} {ls : Array Slot} {rest : List Value} {E : zE} {B : Nat} {v : Nat → zV} {o : Nat → va_E} {H0 : Heap} {own : String} {index an sp : Nat}
theorem zk_quotient (hx : p.tables.exec = Jvm.exec) (hb : c.code = cc) (ht : ∀ w ∈ zt, w.before args s = true) (hown : s.vm.findClass own = some m.cls) (hK : zK E s) (hZ : zD E B v (zo E B o an sp) H) (hl : Cond.fieldLink own index "WholeDesk$Reckoner" "quotient" "LWholeDesk$Whole;" ∈ zt) (hd : decode cc pc = .ok (.getfield index, 3))
    (kk : W p l e R s m args below meth c H locs cells slots Q (F0 m (pc + 3) ls (.ref (B + 23) :: rest))) : W p l e R s m args below meth c H locs cells slots Q (F0 m pc ls (.ref (B + 22) :: rest)) :=
  va_get (D := E.1) (cl := zCl) (ci := 1) (C := "WholeDesk$Reckoner") (T := TK) (N := 9) hx hb ht inK hown hK hZ.1 22 (by rw [zB_at (by decide), zO_o lp_22 lp_21, zo_22]; rfl) rfl 0 (by decide) (ht _ hl) (fun _ h9 => h9) rfl hd kk
theorem zk_rest (hx : p.tables.exec = Jvm.exec) (hb : c.code = cc) (ht : ∀ w ∈ zt, w.before args s = true) (hown : s.vm.findClass own = some m.cls) (hK : zK E s) (hZ : zD E B v (zo E B o an sp) H) (hl : Cond.fieldLink own index "WholeDesk$Reckoner" "rest" "LWholeDesk$Whole;" ∈ zt) (hd : decode cc pc = .ok (.getfield index, 3))
    (kk : W p l e R s m args below meth c H locs cells slots Q (F0 m (pc + 3) ls (.ref (B + 25) :: rest))) : W p l e R s m args below meth c H locs cells slots Q (F0 m pc ls (.ref (B + 22) :: rest)) :=
  va_get (D := E.1) (cl := zCl) (ci := 1) (C := "WholeDesk$Reckoner") (T := TK) (N := 9) hx hb ht inK hown hK hZ.1 22 (by rw [zB_at (by decide), zO_o lp_22 lp_21, zo_22]; rfl) rfl 1 (by decide) (ht _ hl) (fun _ h9 => h9) rfl hd kk
theorem zk_answer (hx : p.tables.exec = Jvm.exec) (hb : c.code = cc) (ht : ∀ w ∈ zt, w.before args s = true) (hown : s.vm.findClass own = some m.cls) (hK : zK E s) (hZ : zD E B v (zo E B o an sp) H) (hl : Cond.fieldLink own index "WholeDesk$Reckoner" "answer" "LWholeDesk$Whole;" ∈ zt) (hd : decode cc pc = .ok (.getfield index, 3))
    (kk : W p l e R s m args below meth c H locs cells slots Q (F0 m (pc + 3) ls (.ref (B + an) :: rest))) : W p l e R s m args below meth c H locs cells slots Q (F0 m pc ls (.ref (B + 22) :: rest)) :=
  va_get (D := E.1) (cl := zCl) (ci := 1) (C := "WholeDesk$Reckoner") (T := TK) (N := 9) hx hb ht inK hown hK hZ.1 22 (by rw [zB_at (by decide), zO_o lp_22 lp_21, zo_22]; rfl) rfl 2 (by decide) (ht _ hl) (fun _ h9 => h9) rfl hd kk
theorem zk_spare (hx : p.tables.exec = Jvm.exec) (hb : c.code = cc) (ht : ∀ w ∈ zt, w.before args s = true) (hown : s.vm.findClass own = some m.cls) (hK : zK E s) (hZ : zD E B v (zo E B o an sp) H) (hl : Cond.fieldLink own index "WholeDesk$Reckoner" "spare" "LWholeDesk$Whole;" ∈ zt) (hd : decode cc pc = .ok (.getfield index, 3))
    (kk : W p l e R s m args below meth c H locs cells slots Q (F0 m (pc + 3) ls (.ref (B + sp) :: rest))) : W p l e R s m args below meth c H locs cells slots Q (F0 m pc ls (.ref (B + 22) :: rest)) :=
  va_get (D := E.1) (cl := zCl) (ci := 1) (C := "WholeDesk$Reckoner") (T := TK) (N := 9) hx hb ht inK hown hK hZ.1 22 (by rw [zB_at (by decide), zO_o lp_22 lp_21, zo_22]; rfl) rfl 3 (by decide) (ht _ hl) (fun _ h9 => h9) rfl hd kk
theorem zk_first (hx : p.tables.exec = Jvm.exec) (hb : c.code = cc) (ht : ∀ w ∈ zt, w.before args s = true) (hown : s.vm.findClass own = some m.cls) (hK : zK E s) (hZ : zD E B v (zo E B o an sp) H) (hl : Cond.fieldLink own index "WholeDesk$Reckoner" "first" "LWholeDesk$Whole;" ∈ zt) (hd : decode cc pc = .ok (.getfield index, 3))
    (kk : W p l e R s m args below meth c H locs cells slots Q (F0 m (pc + 3) ls (.ref (B + 31) :: rest))) : W p l e R s m args below meth c H locs cells slots Q (F0 m pc ls (.ref (B + 22) :: rest)) :=
  va_get (D := E.1) (cl := zCl) (ci := 1) (C := "WholeDesk$Reckoner") (T := TK) (N := 9) hx hb ht inK hown hK hZ.1 22 (by rw [zB_at (by decide), zO_o lp_22 lp_21, zo_22]; rfl) rfl 4 (by decide) (ht _ hl) (fun _ h9 => h9) rfl hd kk
theorem zk_second (hx : p.tables.exec = Jvm.exec) (hb : c.code = cc) (ht : ∀ w ∈ zt, w.before args s = true) (hown : s.vm.findClass own = some m.cls) (hK : zK E s) (hZ : zD E B v (zo E B o an sp) H) (hl : Cond.fieldLink own index "WholeDesk$Reckoner" "second" "LWholeDesk$Whole;" ∈ zt) (hd : decode cc pc = .ok (.getfield index, 3))
    (kk : W p l e R s m args below meth c H locs cells slots Q (F0 m (pc + 3) ls (.ref (B + 33) :: rest))) : W p l e R s m args below meth c H locs cells slots Q (F0 m pc ls (.ref (B + 22) :: rest)) :=
  va_get (D := E.1) (cl := zCl) (ci := 1) (C := "WholeDesk$Reckoner") (T := TK) (N := 9) hx hb ht inK hown hK hZ.1 22 (by rw [zB_at (by decide), zO_o lp_22 lp_21, zo_22]; rfl) rfl 5 (by decide) (ht _ hl) (fun _ h9 => h9) rfl hd kk
theorem zk_third (hx : p.tables.exec = Jvm.exec) (hb : c.code = cc) (ht : ∀ w ∈ zt, w.before args s = true) (hown : s.vm.findClass own = some m.cls) (hK : zK E s) (hZ : zD E B v (zo E B o an sp) H) (hl : Cond.fieldLink own index "WholeDesk$Reckoner" "third" "LWholeDesk$Whole;" ∈ zt) (hd : decode cc pc = .ok (.getfield index, 3))
    (kk : W p l e R s m args below meth c H locs cells slots Q (F0 m (pc + 3) ls (.ref (B + 35) :: rest))) : W p l e R s m args below meth c H locs cells slots Q (F0 m pc ls (.ref (B + 22) :: rest)) :=
  va_get (D := E.1) (cl := zCl) (ci := 1) (C := "WholeDesk$Reckoner") (T := TK) (N := 9) hx hb ht inK hown hK hZ.1 22 (by rw [zB_at (by decide), zO_o lp_22 lp_21, zo_22]; rfl) rfl 6 (by decide) (ht _ hl) (fun _ h9 => h9) rfl hd kk
theorem zk_fourth (hx : p.tables.exec = Jvm.exec) (hb : c.code = cc) (ht : ∀ w ∈ zt, w.before args s = true) (hown : s.vm.findClass own = some m.cls) (hK : zK E s) (hZ : zD E B v (zo E B o an sp) H) (hl : Cond.fieldLink own index "WholeDesk$Reckoner" "fourth" "LWholeDesk$Whole;" ∈ zt) (hd : decode cc pc = .ok (.getfield index, 3))
    (kk : W p l e R s m args below meth c H locs cells slots Q (F0 m (pc + 3) ls (.ref (B + 37) :: rest))) : W p l e R s m args below meth c H locs cells slots Q (F0 m pc ls (.ref (B + 22) :: rest)) :=
  va_get (D := E.1) (cl := zCl) (ci := 1) (C := "WholeDesk$Reckoner") (T := TK) (N := 9) hx hb ht inK hown hK hZ.1 22 (by rw [zB_at (by decide), zO_o lp_22 lp_21, zo_22]; rfl) rfl 7 (by decide) (ht _ hl) (fun _ h9 => h9) rfl hd kk
theorem zk_powers (hx : p.tables.exec = Jvm.exec) (hb : c.code = cc) (ht : ∀ w ∈ zt, w.before args s = true) (hown : s.vm.findClass own = some m.cls) (hK : zK E s) (hZ : zD E B v (zo E B o an sp) H) (hl : Cond.fieldLink own index "WholeDesk$Reckoner" "powers" "[LWholeDesk$Whole;" ∈ zt) (hd : decode cc pc = .ok (.getfield index, 3))
    (kk : W p l e R s m args below meth c H locs cells slots Q (F0 m (pc + 3) ls (.ref (B + 39) :: rest))) : W p l e R s m args below meth c H locs cells slots Q (F0 m pc ls (.ref (B + 22) :: rest)) :=
  va_get (D := E.1) (cl := zCl) (ci := 1) (C := "WholeDesk$Reckoner") (T := TK) (N := 9) hx hb ht inK hown hK hZ.1 22 (by rw [zB_at (by decide), zO_o lp_22 lp_21, zo_22]; rfl) rfl 8 (by decide) (ht _ hl) (fun _ h9 => h9) rfl hd kk
theorem zk_put_answer (hx : p.tables.exec = Jvm.exec) (hb : c.code = cc) (ht : ∀ w ∈ zt, w.before args s = true) (hown : s.vm.findClass own = some m.cls) (hK : zK E s) (hZ : zD E B v (zo E B o an sp) H) (hS : va_S (zA B 80) H0 H locs) {x : Nat} (hl : Cond.fieldLink own index "WholeDesk$Reckoner" "answer" "LWholeDesk$Whole;" ∈ zt) (hd : decode cc pc = .ok (.putfield index, 3))
    (kk : ∀ (H1 : Heap) (locs1 : List Loc), zD E B v (zo E B o x sp) H1 → va_S (zA B 80) H0 H1 locs1 → W p l e R s m args below meth c H1 locs1 cells slots Q (F0 m (pc + 3) ls rest)) : W p l e R s m args below meth c H locs cells slots Q (F0 m pc ls (.ref (B + x) :: .ref (B + 22) :: rest)) := by
  refine va_put (D := E.1) (cl := zCl) (ci := 1) (C := "WholeDesk$Reckoner") (T := TK) (N := 9) (ty := .object "WholeDesk$Whole") (fs := [.ref (B + 23), .ref (B + 25), .ref (B + an), .ref (B + sp), .ref (B + 31), .ref (B + 33), .ref (B + 35), .ref (B + 37), .ref (B + 39)]) hx hb ht inK tyK tyK_ok nmK hown hK hZ.1 (zB_DA B 80 _) hS 22 (by rw [zB_at (by decide), zO_o lp_22 lp_21, zo_22]; rfl) rfl 2 (by decide) (ht _ hl) (fun _ h9 => h9) rfl (by decide +kernel) rfl rfl (Nat.le_of_ble_eq_true rfl) hd fun H1 locs1 hP hD hS1 => ?_
  refine kk H1 locs1 ⟨?_, hZ.2⟩ hS1
  rw [zB_set (by decide), zO_upo lp_22 lp_21] at hP
  rw [← zo_up E B o an sp]
  exact hP
theorem zk_put_spare (hx : p.tables.exec = Jvm.exec) (hb : c.code = cc) (ht : ∀ w ∈ zt, w.before args s = true) (hown : s.vm.findClass own = some m.cls) (hK : zK E s) (hZ : zD E B v (zo E B o an sp) H) (hS : va_S (zA B 80) H0 H locs) {x : Nat} (hl : Cond.fieldLink own index "WholeDesk$Reckoner" "spare" "LWholeDesk$Whole;" ∈ zt) (hd : decode cc pc = .ok (.putfield index, 3))
    (kk : ∀ (H1 : Heap) (locs1 : List Loc), zD E B v (zo E B o an x) H1 → va_S (zA B 80) H0 H1 locs1 → W p l e R s m args below meth c H1 locs1 cells slots Q (F0 m (pc + 3) ls rest)) : W p l e R s m args below meth c H locs cells slots Q (F0 m pc ls (.ref (B + x) :: .ref (B + 22) :: rest)) := by
  refine va_put (D := E.1) (cl := zCl) (ci := 1) (C := "WholeDesk$Reckoner") (T := TK) (N := 9) (ty := .object "WholeDesk$Whole") (fs := [.ref (B + 23), .ref (B + 25), .ref (B + an), .ref (B + sp), .ref (B + 31), .ref (B + 33), .ref (B + 35), .ref (B + 37), .ref (B + 39)]) hx hb ht inK tyK tyK_ok nmK hown hK hZ.1 (zB_DA B 80 _) hS 22 (by rw [zB_at (by decide), zO_o lp_22 lp_21, zo_22]; rfl) rfl 3 (by decide) (ht _ hl) (fun _ h9 => h9) rfl (by decide +kernel) rfl rfl (Nat.le_of_ble_eq_true rfl) hd fun H1 locs1 hP hD hS1 => ?_
  refine kk H1 locs1 ⟨?_, hZ.2⟩ hS1
  rw [zB_set (by decide), zO_upo lp_22 lp_21] at hP
  rw [← zo_up E B o an sp]
  exact hP
theorem zk_pw (hx : p.tables.exec = Jvm.exec) (hb : c.code = cc) (hK : zK E s) (hZ : zD E B v (zo E B o an sp) H) {i : Nat} (hi : i < 16) (hd : decode cc pc = .ok (.aaload, 1))
    (kk : W p l e R s m args below meth c H locs cells slots Q (F0 m (pc + 1) ls (.ref (B + (40 + 2 * i)) :: rest))) : W p l e R s m args below meth c H locs cells slots Q (F0 m pc ls (.int (iZ i) :: .ref (B + 39) :: rest)) := by
  refine va_aldq (D := E.1) (cl := zCl) (cA := E.2.2.2.1) (C := "WholeDesk$Whole") (n := 16) (f := fun i => some (B + (40 + 2 * i))) hx hb hK hZ.1 39 2 (by rw [zB_at (by decide), zO_o lp_39 lp_38, zo_39]; rfl) rfl (iZ_in ⟨by omega, by omega⟩ (by omega) (by omega)) hd ?_
  rw [iZ_clamp ⟨by omega, by omega⟩, Int.toNat_natCast]
  exact kk
end ZKR
theorem zK_recv {E : zE} {B : Nat} {v : Nat → zV} {o : Nat → va_E} {an sp : Nat} {H : Heap} {s : State} (hK : zK E s) (hZ : zD E B v (zo E B o an sp) H) : ∃ cellB : Cell, H[B + 22]? = some cellB ∧ cellB.vm.isStatics = false ∧ s.vm.findClass "WholeDesk$Reckoner" = some cellB.cls :=
  va_recv (q := ("WholeDesk$Reckoner", TK, 9)) hK hZ.1 (ci := 1) (q0 := 22) rfl (by rw [zB_at (by decide), zO_o lp_22 lp_21, zo_22]; rfl)
theorem zof_r {l : Launch} {y : MethodName} {cc : ByteArray} {maxL fr lo : Nat} {E : zE} {P : Heap → Prop} {S : Type} {post : S → Prop} {P' : S → Nat → Heap → Prop} {A : Nat → Prop} {av : List Value} {C : String} (hy : plainName y.cls = true) (hlen : (lg_sl av).length ≤ maxL)
    (body : ∀ (p : Program) (e : Env) (R : Room) (s : State) (m : MethodId) (args : Array Value) (below : List Frame) (meth : Method) (c : Code) (Q : State → Prop) (ls : Array Slot), R = { frames := fr, cells := 0, slots := 0, locals := lo } → p.tables.exec = Jvm.exec → c.code = cc → c.maxLocals = maxL → (∀ w ∈ zt, w.before args s = true) → s.vm.findClass y.cls = some m.cls → zK E s → P s.heap → lv_has ls maxL (lv_args 0 av) →
      (∀ (pc : Nat) (u : S) (a : Nat) (H : Heap) (locs : List Loc) (ls : Array Slot), decode cc pc = .ok (.areturn, 1) → post u → P' u a H → va_S A s.heap H locs → W p l e R s m args below meth c H locs 0 0 Q (F0 m pc ls [.ref a])) → W p l e R s m args below meth c s.heap [] 0 0 Q (F0 m 0 ls [])) :
    Met l y (zws y cc maxL (some (.object C))) { frames := fr, cells := 0, slots := 0, locals := lo } (zPc E P av) (va_Qr post (fun u a t => P' u a t.heap ∧ zK E t) A) 0 0 A := by
  refine Met.ofW (cc := cc) (maxL := maxL) (ret := some (.object C)) hy rfl ?_
  intro p e s m args below meth c s₁ BB hml hv
  obtain ⟨rfl, hZ, hK⟩ := hv
  have hlocks := BB.notSynchronized
  have hl := lv_entry av (n := maxL) hlen
  rw [lg_entry_eq]
  refine body p e _ s m _ below meth c _ _ rfl BB.exec BB.bytes hml (fun w h => atoms_spec (ws := zws y cc maxL (some (.object C))) BB.pre w (List.mem_cons_of_mem _ h)) (findClass_of_methodNamed BB.named) hK hZ hl ?_
  intro pc u a H locs ls hd hp hP hS
  exact W.aret (v := .ref a) BB.exec BB.bytes BB.returns (Or.inl ⟨C, rfl⟩) (Or.inr ⟨a, rfl⟩) (fun t ht9 hW9 => ⟨⟨u, a, rfl, hp, by rw [ht9]; exact hP, va_K.moved hW9.alike hK⟩, hS.F ht9⟩) hS.2.2 hd hlocks
theorem zcV_r {p : Program} {l : Launch} {e : Env} {R : Room} {s : State} {m : MethodId} {args : Array Value} {below : List Frame} {meth : Method} {c : Code} {H : Heap} {locs : List Loc} {cells slots : Nat} {Q : State → Prop} {cc : ByteArray} {pc : Nat} {ls : Array Slot} {rest st : List Value} {E : zE} {H0 : Heap} {own : String} {index maxL nL fr lo : Nat} {y : MethodName} {bytes : ByteArray} {ret : Option FieldType} {S : Type} {post : S → Prop} {P : Heap → Prop} {P' : S → Nat → Heap → Prop} {A : Nat → Prop} (n : Nat) {C : String} {a : Nat} {As av : List Value} (hav : av = .ref a :: As) (F : CallFix p m c cc nL s args zt own) (hM : Met l y (zws y bytes maxL ret) { frames := fr, cells := 0, slots := 0, locals := lo } (zPc E P av) (va_Qr post (fun u a t => P' u a t.heap ∧ zK E t) A) 0 0 A) (hcode : Cond.code y bytes maxL ret ∈ zt) (hlink : Cond.methodLink own index y ∈ zt) (hinst : Cond.instanceMethod y ∈ zt) (hsel : Cond.selects C y y ∈ zt) (hini : Cond.initialized y.cls ∈ zt) (hd : y.cls ≠ "java/lang/invoke/MethodHandle" ∧ y.cls ≠ "java/lang/invoke/VarHandle" ∧ (parseMethodDescriptor y.desc).map (fun d => d.parameters.length) = some n) (hR : fr + 1 ≤ R.frames ∧ 8 + (maxL + 11) + lo ≤ R.locals)
    (hrecv : ∃ cellB : Cell, H[a]? = some cellB ∧ cellB.vm.isStatics = false ∧ s.vm.findClass C = some cellB.cls) (hP : P H) (hK : zK E s) (hsize : ls.size = nL) (hst : st = As.reverse ++ .ref a :: rest) (hn : As.length = n) (hroom : (rest.map fun v => v.category).sum ≤ 8) (hdg : decode cc pc = .ok (.invokevirtual index, 3)) (hf : cells ≤ R.cells ∧ slots ≤ R.slots) (hS : va_S A H0 H locs)
    (kk : ∀ (u : S) (r : Nat) (H1 : Heap) (locs1 : List Loc), post u → P' u r H1 → H1.size ≥ H.size → va_S A H0 H1 locs1 → W p l e R s m args below meth c H1 locs1 cells slots Q (F0 m (pc + 3) ls (.ref r :: rest))) : W p l e R s m args below meth c H locs cells slots Q (F0 m pc ls st) := by
  subst hav
  have ht := F.2.2.2.2
  have cb : CallB R s args own index y bytes maxL ret (zws y bytes maxL ret) { frames := fr, cells := 0, slots := 0, locals := lo } 0 0 n := callB_of n ht (good_zws hcode) rfl rfl rfl (ht _ hini) (ht _ hlink) hd hR
  exact va_callr (va_runV (As := As) (rest := rest) (b := a) F hM ⟨cb, ht _ hinst, ht _ hsel⟩ ⟨zPc_blind E P _, hrecv, zPc_pre hP hK⟩ rfl hn hsize hst (lv_room hroom) hdg hf) hS (fun _ _ h => h) (fun _ h => h) (fun u r t H1 locs1 ht1 hvm hw hB hz1 hk1 hS1 => kk u r H1 locs1 hw (by rw [← ht1]; exact hB.1) hz1 hS1)
/-! from limbs to values -/
theorem zN_copy {w : zV} {d1 : Nat → Nat} {x : Int} (h : zN w x) (hd : ∀ i, i < w.2.1 → d1 i = w.1 i) : zN (d1, w.2.1, w.2.2) x := by
  obtain ⟨h1, h2, h3⟩ := h
  refine ⟨fun hn => ?_, h2, ?_⟩
  · show d1 (w.2.1 - 1) ≠ 0
    have hn1 : w.2.1 ≠ 0 := hn
    rw [hd _ (by omega)]
    exact h1 hn
  · rw [h3]
    show (if w.2.2 = true then -(wv w.1 w.2.1 : Int) else (wv w.1 w.2.1 : Int)) = if w.2.2 = true then -(wv d1 w.2.1 : Int) else (wv d1 w.2.1 : Int)
    rw [wv_congr hd]
theorem zN_sgn {w : zV} {x : Int} (h : zN w x) (t : Nat) : (if w.2.2 = true then -(t : Int) else (t : Int)) = if x < 0 then -(t : Int) else (t : Int) := by
  by_cases hx : x < 0
  · rw [if_pos ((zN_neg h).mpr hx), if_pos hx]
  · rw [if_neg (fun h9 => hx ((zN_neg h).mp h9)), if_neg hx]
theorem zN_len {w : zV} {x : Int} (hd : ∀ i, w.1 i < 268435456) (h : zN w x) {k : Nat} : w.2.1 ≤ k ↔ x.natAbs < wP k := by rw [zN_abs h]; exact nz_le hd h.1
theorem zN_mul {w1 w2 : zV} {x y : Int} (h1 : zN w1 x) (h2 : zN w2 y) : (if (w1.2.2 != w2.2.2) = true then -((wv w1.1 w1.2.1 * wv w2.1 w2.2.1 : Nat) : Int) else ((wv w1.1 w1.2.1 * wv w2.1 w2.2.1 : Nat) : Int)) = x * y := by
  obtain ⟨-, -, e1⟩ := h1
  obtain ⟨-, -, e2⟩ := h2
  rw [e1, e2, Int.natCast_mul]
  cases w1.2.2 <;> cases w2.2.2 <;> simp [Int.neg_mul, Int.mul_neg]
theorem zN_mulroom {w1 w2 : zV} {x y : Int} (hd1 : ∀ i, w1.1 i < 268435456) (hd2 : ∀ i, w2.1 i < 268435456) (hn1 : w1.2.1 ≤ 152) (hn2 : w2.2.1 ≤ 152) (h1 : zN w1 x) (h2 : zN w2 y) (hb : x.natAbs * y.natAbs < wP 150) : w1.2.1 + w2.2.1 ≤ 152 := by
  rw [zN_abs h1, zN_abs h2] at hb
  by_cases e1 : w1.2.1 = 0
  · omega
  · by_cases e2 : w2.2.1 = 0
    · omega
    · have a1 := wv_ge (h1.1 e1)
      have a2 := wv_ge (h2.1 e2)
      rw [show w1.2.1 - 1 + 1 = w1.2.1 by omega] at a1
      rw [show w2.2.1 - 1 + 1 = w2.2.1 by omega] at a2
      have a3 := Nat.mul_le_mul a1 a2
      rw [← wP_add] at a3
      rcases Nat.lt_or_ge 150 (w1.2.1 - 1 + (w2.2.1 - 1)) with h | h
      · have := wP_mono (Nat.le_of_lt h)
        omega
      · omega
theorem zN_div {w w2 : zV} {x y : Int} {q r0 : Nat} (h1 : zN w x) (h2 : zN w2 y) (e : wv w.1 w.2.1 = q * wv w2.1 w2.2.1 + r0) (hr : r0 < wv w2.1 w2.2.1) : q = x.natAbs / y.natAbs ∧ r0 = x.natAbs % y.natAbs := by
  rw [← zN_abs h1, ← zN_abs h2] at e
  rw [← zN_abs h2] at hr
  rw [e, Nat.add_comm, Nat.mul_comm]
  exact ⟨by rw [Nat.add_mul_div_left _ _ (by omega), Nat.div_eq_of_lt hr, Nat.zero_add], by rw [Nat.add_mul_mod_self_left, Nat.mod_eq_of_lt hr]⟩
theorem zN_rest {w : zV} {x : Int} (h : zN w x) (m : Int) : (if w.2.2 = true then -((x.natAbs % m.natAbs : Nat) : Int) else ((x.natAbs % m.natAbs : Nat) : Int)) = x.tmod m := by
  rw [zN_sgn h]
  by_cases hx : x < 0
  · rw [if_pos hx]
    obtain ⟨a, ha⟩ : ∃ a : Nat, x = -(a : Int) := ⟨x.natAbs, by omega⟩
    subst ha
    rw [Int.neg_tmod, Int.natAbs_neg, Int.natAbs_natCast]
    congr 1
    rcases Int.natAbs_eq m with h9 | h9 <;> rw [h9] <;> simp [Int.tmod_neg] <;> exact (Int.tmod_eq_emod_of_nonneg (by omega)).symm
  · rw [if_neg hx]
    obtain ⟨a, ha⟩ : ∃ a : Nat, x = (a : Int) := ⟨x.natAbs, by omega⟩
    subst ha
    rw [Int.natAbs_natCast]
    rcases Int.natAbs_eq m with h9 | h9 <;> rw [h9] <;> simp [Int.tmod_neg] <;> exact (Int.tmod_eq_emod_of_nonneg (by omega)).symm
theorem s_l : ∀ n, n < 32 → ((nI n &&& 31).toBitVec.smod 32).toNat = n := by decide +kernel
theorem zr_ishr {p : Program} {l : Launch} {e : Env} {R : Room} {s : State} {m : MethodId} {args : Array Value} {below : List Frame} {meth : Method} {c : Code} {H : Heap} {locs : List Loc} {cells slots : Nat} {Q : State → Prop} {cc : ByteArray} {pc : Nat} {ls : Array Slot} {rest : List Value} (hx : p.tables.exec = Jvm.exec) (hb : c.code = cc) {z k : Nat} (h : z < 2147483648) (hk : k < 32) (hd : decode cc pc = .ok (.ishr, 1)) (kk : W p l e R s m args below meth c H locs cells slots Q (F0 m (pc + 1) ls (.int (iZ ((z / 2 ^ k : Nat) : Int)) :: rest))) : W p l e R s m args below meth c H locs cells slots Q (F0 m pc ls (.int (iZ k) :: .int (iZ z) :: rest)) := lv_ishr hx hb hd (by rw [← iZ_nI, ← iZ_nI, pk_shrN h _ k (s_l k hk), iZ_nI]; exact kk)
theorem zr_iand {p : Program} {l : Launch} {e : Env} {R : Room} {s : State} {m : MethodId} {args : Array Value} {below : List Frame} {meth : Method} {c : Code} {H : Heap} {locs : List Loc} {cells slots : Nat} {Q : State → Prop} {cc : ByteArray} {pc : Nat} {ls : Array Slot} {rest : List Value} (hx : p.tables.exec = Jvm.exec) (hb : c.code = cc) {z : Nat} {M : Int32} (k : Nat) (h : z < 4294967296) (hM : M.toBitVec.toNat = 2 ^ k - 1) (hd : decode cc pc = .ok (.iand, 1)) (kk : W p l e R s m args below meth c H locs cells slots Q (F0 m (pc + 1) ls (.int (iZ ((z % 2 ^ k : Nat) : Int)) :: rest))) : W p l e R s m args below meth c H locs cells slots Q (F0 m pc ls (.int M :: .int (iZ z) :: rest)) := lv_iand hx hb hd (by rw [← iZ_nI, pk_andN h k hM, iZ_nI]; exact kk)
/-- sizes that have room; words that omega does not open -/
def sm (x : Int) : Prop := x.natAbs < wP 151
def smm (x y : Int) : Prop := x.natAbs * y.natAbs < wP 150
