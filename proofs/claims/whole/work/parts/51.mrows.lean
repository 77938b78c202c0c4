/-! the reference's object and its arrays: 15 cells from B on -/
def mln (k : Nat) : Nat := if k = 1 ∨ k = 14 then 2100 else if k = 2 then 1280 else if k = 3 then 10 else if k = 6 then 528 else 264
/-- thrown, fault, length, below, firstBelow, secondBelow, printed -/
abbrev zC : Type := Nat × Nat × Nat × Bool × Bool × Bool × Nat
def mFs (B : Nat) (c : zC) : List Value := [.int (iZ c.1), .int (iZ c.2.1), .ref (B + 1), .int (iZ c.2.2.1), .ref (B + 2), .ref (B + 3), .ref (B + 4), .int (iZ (bZ c.2.2.2.1)), .ref (B + 5), .ref (B + 6), .ref (B + 7), .ref (B + 8), .ref (B + 9), .ref (B + 10), .ref (B + 11), .ref (B + 12), .int (iZ (bZ c.2.2.2.2.1)), .int (iZ (bZ c.2.2.2.2.2.1)), .ref (B + 13), .ref (B + 14), .int (iZ c.2.2.2.2.2.2)]
def mAr (E : zE) (k : Nat) (d : Nat → Nat) : va_E := .inl (if k = 3 then E.2.2.2.2.2 else E.2.2.2.2.1, mln k, .inl (fun i => iZ ((d i : Nat) : Int)))
def mO (E : zE) (B : Nat) (w : Nat → Nat → Nat) (c : zC) : Nat → va_E := fun k => if k = 0 then .inr (5, mFs B c) else mAr E k (w k)
def zMD (E : zE) (B : Nat) (w : Nat → Nat → Nat) (c : zC) (H : Heap) : Prop := va_P E.1 zCl (zB B 15 (mO E B w c)) H ∧ ∀ k i, w k i < 65536
def mup (w : Nat → Nat → Nat) (k i x : Nat) : Nat → Nat → Nat := va_up w k (va_up (w k) i x)
theorem mup_ne (w : Nat → Nat → Nat) {k j : Nat} (i x : Nat) (h : j ≠ k) : mup w k i x j = w j := va_up_ne _ _ h
theorem mup_at (w : Nat → Nat → Nat) (k i x : Nat) : mup w k i x k = va_up (w k) i x := va_up_self _ _ _
theorem mup_lt {w : Nat → Nat → Nat} {k i x : Nat} (h : ∀ k i, w k i < 65536) (hx : x < 65536) : ∀ j q, mup w k i x j q < 65536 := by
  intro j q
  by_cases h1 : j = k
  · subst h1
    rw [mup_at]
    by_cases h2 : q = i
    · subst h2; rw [va_up_self]; exact hx
    · rw [va_up_ne _ _ h2]; exact h j q
  · rw [mup_ne _ _ _ h1]; exact h j q
theorem mO_0 (E : zE) (B : Nat) (w : Nat → Nat → Nat) (c : zC) : mO E B w c 0 = .inr (5, mFs B c) := rfl
theorem mO_k {E : zE} {B : Nat} {w : Nat → Nat → Nat} {c : zC} {k : Nat} (h : k ≠ 0) : mO E B w c k = mAr E k (w k) := if_neg h
theorem mO_up0 (E : zE) (B : Nat) (w : Nat → Nat → Nat) (c c1 : zC) : va_up (mO E B w c) 0 (.inr (5, mFs B c1)) = mO E B w c1 := by
  funext k
  by_cases h : k = 0
  · subst h; rw [va_up_self]; rfl
  · rw [va_up_ne _ _ h, mO_k h, mO_k h]
theorem mO_up (E : zE) (B : Nat) (w : Nat → Nat → Nat) (c : zC) {k : Nat} (hk : k ≠ 0) (i x : Nat) : va_up (mO E B w c) k (mAr E k (va_up (w k) i x)) = mO E B (mup w k i x) c := by
  funext j
  by_cases h : j = k
  · subst h; rw [va_up_self, mO_k hk, mup_at]
  · rw [va_up_ne _ _ h]
    by_cases h0 : j = 0
    · subst h0; rfl
    · rw [mO_k h0, mO_k h0, mup_ne _ _ _ h]
theorem upd_m (d : Nat → Nat) (i x : Nat) : upd (fun i => iZ ((d i : Nat) : Int)) i (iZ ((x : Nat) : Int)) = fun j => iZ ((va_up d i x j : Nat) : Int) := by
  funext j
  unfold upd va_up
  by_cases h : j = i
  · rw [if_pos h, if_pos h]
  · rw [if_neg h, if_neg h]
theorem nar_z (b : Bool) : vp_nar .boolean (iZ (bZ b)) = iZ (bZ b) := by cases b <;> decide +kernel
def bN (b : Bool) : Nat := if b then 1 else 0
theorem bN_Z (b : Bool) : ((bN b : Nat) : Int) = bZ b := by cases b <;> rfl
theorem bN_lt (b : Bool) : bN b < 65536 := by cases b <;> decide
section ZMR
variable {p : Program} {l : Launch} {e : Env} {R : Room} {s : State} {m : MethodId} {args : Array Value} {below : List Frame} {meth : Method} {c : Code} {H : Heap} {locs : List Loc} {cells slots : Nat} {Q : State → Prop}
variable {cc : ByteArray} {pc : Nat} {ls : Array Slot} {rest : List Value} {E : zE} {B : Nat} {w : Nat → Nat → Nat} {q : zC} {H0 : Heap} {own : String} {index : Nat}
theorem zm_thrown (hx : p.tables.exec = Jvm.exec) (hb : c.code = cc) (ht : ∀ w ∈ zt, w.before args s = true) (hown : s.vm.findClass own = some m.cls) (hK : zK E s) (hZ : zMD E B w q H) (hl : Cond.fieldLink own index "WholeDeskModel" "thrown" "I" ∈ zt) (hd : decode cc pc = .ok (.getfield index, 3))
    (kk : W p l e R s m args below meth c H locs cells slots Q (F0 m (pc + 3) ls (.int (iZ q.1) :: rest))) : W p l e R s m args below meth c H locs cells slots Q (F0 m pc ls (.ref B :: rest)) :=
  va_get (D := E.1) (cl := zCl) (ci := 5) (C := "WholeDeskModel") (T := TM) (N := 21) hx hb ht inM hown hK hZ.1 0 (by rw [zB_at (by decide), mO_0]; rfl) rfl 0 (by decide) (ht _ hl) (fun _ h9 => h9) rfl hd kk
theorem zm_fault (hx : p.tables.exec = Jvm.exec) (hb : c.code = cc) (ht : ∀ w ∈ zt, w.before args s = true) (hown : s.vm.findClass own = some m.cls) (hK : zK E s) (hZ : zMD E B w q H) (hl : Cond.fieldLink own index "WholeDeskModel" "fault" "I" ∈ zt) (hd : decode cc pc = .ok (.getfield index, 3))
    (kk : W p l e R s m args below meth c H locs cells slots Q (F0 m (pc + 3) ls (.int (iZ q.2.1) :: rest))) : W p l e R s m args below meth c H locs cells slots Q (F0 m pc ls (.ref B :: rest)) :=
  va_get (D := E.1) (cl := zCl) (ci := 5) (C := "WholeDeskModel") (T := TM) (N := 21) hx hb ht inM hown hK hZ.1 0 (by rw [zB_at (by decide), mO_0]; rfl) rfl 1 (by decide) (ht _ hl) (fun _ h9 => h9) rfl hd kk
theorem zm_draft (hx : p.tables.exec = Jvm.exec) (hb : c.code = cc) (ht : ∀ w ∈ zt, w.before args s = true) (hown : s.vm.findClass own = some m.cls) (hK : zK E s) (hZ : zMD E B w q H) (hl : Cond.fieldLink own index "WholeDeskModel" "draft" "[I" ∈ zt) (hd : decode cc pc = .ok (.getfield index, 3))
    (kk : W p l e R s m args below meth c H locs cells slots Q (F0 m (pc + 3) ls (.ref (B + 1) :: rest))) : W p l e R s m args below meth c H locs cells slots Q (F0 m pc ls (.ref B :: rest)) :=
  va_get (D := E.1) (cl := zCl) (ci := 5) (C := "WholeDeskModel") (T := TM) (N := 21) hx hb ht inM hown hK hZ.1 0 (by rw [zB_at (by decide), mO_0]; rfl) rfl 2 (by decide) (ht _ hl) (fun _ h9 => h9) rfl hd kk
theorem zm_length (hx : p.tables.exec = Jvm.exec) (hb : c.code = cc) (ht : ∀ w ∈ zt, w.before args s = true) (hown : s.vm.findClass own = some m.cls) (hK : zK E s) (hZ : zMD E B w q H) (hl : Cond.fieldLink own index "WholeDeskModel" "length" "I" ∈ zt) (hd : decode cc pc = .ok (.getfield index, 3))
    (kk : W p l e R s m args below meth c H locs cells slots Q (F0 m (pc + 3) ls (.int (iZ q.2.2.1) :: rest))) : W p l e R s m args below meth c H locs cells slots Q (F0 m pc ls (.ref B :: rest)) :=
  va_get (D := E.1) (cl := zCl) (ci := 5) (C := "WholeDeskModel") (T := TM) (N := 21) hx hb ht inM hown hK hZ.1 0 (by rw [zB_at (by decide), mO_0]; rfl) rfl 3 (by decide) (ht _ hl) (fun _ h9 => h9) rfl hd kk
theorem zm_kept (hx : p.tables.exec = Jvm.exec) (hb : c.code = cc) (ht : ∀ w ∈ zt, w.before args s = true) (hown : s.vm.findClass own = some m.cls) (hK : zK E s) (hZ : zMD E B w q H) (hl : Cond.fieldLink own index "WholeDeskModel" "kept" "[I" ∈ zt) (hd : decode cc pc = .ok (.getfield index, 3))
    (kk : W p l e R s m args below meth c H locs cells slots Q (F0 m (pc + 3) ls (.ref (B + 2) :: rest))) : W p l e R s m args below meth c H locs cells slots Q (F0 m pc ls (.ref B :: rest)) :=
  va_get (D := E.1) (cl := zCl) (ci := 5) (C := "WholeDeskModel") (T := TM) (N := 21) hx hb ht inM hown hK hZ.1 0 (by rw [zB_at (by decide), mO_0]; rfl) rfl 4 (by decide) (ht _ hl) (fun _ h9 => h9) rfl hd kk
theorem zm_minus (hx : p.tables.exec = Jvm.exec) (hb : c.code = cc) (ht : ∀ w ∈ zt, w.before args s = true) (hown : s.vm.findClass own = some m.cls) (hK : zK E s) (hZ : zMD E B w q H) (hl : Cond.fieldLink own index "WholeDeskModel" "minus" "[Z" ∈ zt) (hd : decode cc pc = .ok (.getfield index, 3))
    (kk : W p l e R s m args below meth c H locs cells slots Q (F0 m (pc + 3) ls (.ref (B + 3) :: rest))) : W p l e R s m args below meth c H locs cells slots Q (F0 m pc ls (.ref B :: rest)) :=
  va_get (D := E.1) (cl := zCl) (ci := 5) (C := "WholeDeskModel") (T := TM) (N := 21) hx hb ht inM hown hK hZ.1 0 (by rw [zB_at (by decide), mO_0]; rfl) rfl 5 (by decide) (ht _ hl) (fun _ h9 => h9) rfl hd kk
theorem zm_row (hx : p.tables.exec = Jvm.exec) (hb : c.code = cc) (ht : ∀ w ∈ zt, w.before args s = true) (hown : s.vm.findClass own = some m.cls) (hK : zK E s) (hZ : zMD E B w q H) (hl : Cond.fieldLink own index "WholeDeskModel" "row" "[I" ∈ zt) (hd : decode cc pc = .ok (.getfield index, 3))
    (kk : W p l e R s m args below meth c H locs cells slots Q (F0 m (pc + 3) ls (.ref (B + 4) :: rest))) : W p l e R s m args below meth c H locs cells slots Q (F0 m pc ls (.ref B :: rest)) :=
  va_get (D := E.1) (cl := zCl) (ci := 5) (C := "WholeDeskModel") (T := TM) (N := 21) hx hb ht inM hown hK hZ.1 0 (by rw [zB_at (by decide), mO_0]; rfl) rfl 6 (by decide) (ht _ hl) (fun _ h9 => h9) rfl hd kk
theorem zm_below (hx : p.tables.exec = Jvm.exec) (hb : c.code = cc) (ht : ∀ w ∈ zt, w.before args s = true) (hown : s.vm.findClass own = some m.cls) (hK : zK E s) (hZ : zMD E B w q H) (hl : Cond.fieldLink own index "WholeDeskModel" "below" "Z" ∈ zt) (hd : decode cc pc = .ok (.getfield index, 3))
    (kk : W p l e R s m args below meth c H locs cells slots Q (F0 m (pc + 3) ls (.int (iZ (bZ q.2.2.2.1)) :: rest))) : W p l e R s m args below meth c H locs cells slots Q (F0 m pc ls (.ref B :: rest)) :=
  va_get (D := E.1) (cl := zCl) (ci := 5) (C := "WholeDeskModel") (T := TM) (N := 21) hx hb ht inM hown hK hZ.1 0 (by rw [zB_at (by decide), mO_0]; rfl) rfl 7 (by decide) (ht _ hl) (fun _ h9 => h9) rfl hd kk
theorem zm_other (hx : p.tables.exec = Jvm.exec) (hb : c.code = cc) (ht : ∀ w ∈ zt, w.before args s = true) (hown : s.vm.findClass own = some m.cls) (hK : zK E s) (hZ : zMD E B w q H) (hl : Cond.fieldLink own index "WholeDeskModel" "other" "[I" ∈ zt) (hd : decode cc pc = .ok (.getfield index, 3))
    (kk : W p l e R s m args below meth c H locs cells slots Q (F0 m (pc + 3) ls (.ref (B + 5) :: rest))) : W p l e R s m args below meth c H locs cells slots Q (F0 m pc ls (.ref B :: rest)) :=
  va_get (D := E.1) (cl := zCl) (ci := 5) (C := "WholeDeskModel") (T := TM) (N := 21) hx hb ht inM hown hK hZ.1 0 (by rw [zB_at (by decide), mO_0]; rfl) rfl 8 (by decide) (ht _ hl) (fun _ h9 => h9) rfl hd kk
theorem zm_product (hx : p.tables.exec = Jvm.exec) (hb : c.code = cc) (ht : ∀ w ∈ zt, w.before args s = true) (hown : s.vm.findClass own = some m.cls) (hK : zK E s) (hZ : zMD E B w q H) (hl : Cond.fieldLink own index "WholeDeskModel" "product" "[I" ∈ zt) (hd : decode cc pc = .ok (.getfield index, 3))
    (kk : W p l e R s m args below meth c H locs cells slots Q (F0 m (pc + 3) ls (.ref (B + 6) :: rest))) : W p l e R s m args below meth c H locs cells slots Q (F0 m pc ls (.ref B :: rest)) :=
  va_get (D := E.1) (cl := zCl) (ci := 5) (C := "WholeDeskModel") (T := TM) (N := 21) hx hb ht inM hown hK hZ.1 0 (by rw [zB_at (by decide), mO_0]; rfl) rfl 9 (by decide) (ht _ hl) (fun _ h9 => h9) rfl hd kk
theorem zm_rest (hx : p.tables.exec = Jvm.exec) (hb : c.code = cc) (ht : ∀ w ∈ zt, w.before args s = true) (hown : s.vm.findClass own = some m.cls) (hK : zK E s) (hZ : zMD E B w q H) (hl : Cond.fieldLink own index "WholeDeskModel" "rest" "[I" ∈ zt) (hd : decode cc pc = .ok (.getfield index, 3))
    (kk : W p l e R s m args below meth c H locs cells slots Q (F0 m (pc + 3) ls (.ref (B + 7) :: rest))) : W p l e R s m args below meth c H locs cells slots Q (F0 m pc ls (.ref B :: rest)) :=
  va_get (D := E.1) (cl := zCl) (ci := 5) (C := "WholeDeskModel") (T := TM) (N := 21) hx hb ht inM hown hK hZ.1 0 (by rw [zB_at (by decide), mO_0]; rfl) rfl 10 (by decide) (ht _ hl) (fun _ h9 => h9) rfl hd kk
theorem zm_quotient (hx : p.tables.exec = Jvm.exec) (hb : c.code = cc) (ht : ∀ w ∈ zt, w.before args s = true) (hown : s.vm.findClass own = some m.cls) (hK : zK E s) (hZ : zMD E B w q H) (hl : Cond.fieldLink own index "WholeDeskModel" "quotient" "[I" ∈ zt) (hd : decode cc pc = .ok (.getfield index, 3))
    (kk : W p l e R s m args below meth c H locs cells slots Q (F0 m (pc + 3) ls (.ref (B + 8) :: rest))) : W p l e R s m args below meth c H locs cells slots Q (F0 m pc ls (.ref B :: rest)) :=
  va_get (D := E.1) (cl := zCl) (ci := 5) (C := "WholeDeskModel") (T := TM) (N := 21) hx hb ht inM hown hK hZ.1 0 (by rw [zB_at (by decide), mO_0]; rfl) rfl 11 (by decide) (ht _ hl) (fun _ h9 => h9) rfl hd kk
theorem zm_one (hx : p.tables.exec = Jvm.exec) (hb : c.code = cc) (ht : ∀ w ∈ zt, w.before args s = true) (hown : s.vm.findClass own = some m.cls) (hK : zK E s) (hZ : zMD E B w q H) (hl : Cond.fieldLink own index "WholeDeskModel" "one" "[I" ∈ zt) (hd : decode cc pc = .ok (.getfield index, 3))
    (kk : W p l e R s m args below meth c H locs cells slots Q (F0 m (pc + 3) ls (.ref (B + 9) :: rest))) : W p l e R s m args below meth c H locs cells slots Q (F0 m pc ls (.ref B :: rest)) :=
  va_get (D := E.1) (cl := zCl) (ci := 5) (C := "WholeDeskModel") (T := TM) (N := 21) hx hb ht inM hown hK hZ.1 0 (by rw [zB_at (by decide), mO_0]; rfl) rfl 12 (by decide) (ht _ hl) (fun _ h9 => h9) rfl hd kk
theorem zm_two (hx : p.tables.exec = Jvm.exec) (hb : c.code = cc) (ht : ∀ w ∈ zt, w.before args s = true) (hown : s.vm.findClass own = some m.cls) (hK : zK E s) (hZ : zMD E B w q H) (hl : Cond.fieldLink own index "WholeDeskModel" "two" "[I" ∈ zt) (hd : decode cc pc = .ok (.getfield index, 3))
    (kk : W p l e R s m args below meth c H locs cells slots Q (F0 m (pc + 3) ls (.ref (B + 10) :: rest))) : W p l e R s m args below meth c H locs cells slots Q (F0 m pc ls (.ref B :: rest)) :=
  va_get (D := E.1) (cl := zCl) (ci := 5) (C := "WholeDeskModel") (T := TM) (N := 21) hx hb ht inM hown hK hZ.1 0 (by rw [zB_at (by decide), mO_0]; rfl) rfl 13 (by decide) (ht _ hl) (fun _ h9 => h9) rfl hd kk
theorem zm_first (hx : p.tables.exec = Jvm.exec) (hb : c.code = cc) (ht : ∀ w ∈ zt, w.before args s = true) (hown : s.vm.findClass own = some m.cls) (hK : zK E s) (hZ : zMD E B w q H) (hl : Cond.fieldLink own index "WholeDeskModel" "first" "[I" ∈ zt) (hd : decode cc pc = .ok (.getfield index, 3))
    (kk : W p l e R s m args below meth c H locs cells slots Q (F0 m (pc + 3) ls (.ref (B + 11) :: rest))) : W p l e R s m args below meth c H locs cells slots Q (F0 m pc ls (.ref B :: rest)) :=
  va_get (D := E.1) (cl := zCl) (ci := 5) (C := "WholeDeskModel") (T := TM) (N := 21) hx hb ht inM hown hK hZ.1 0 (by rw [zB_at (by decide), mO_0]; rfl) rfl 14 (by decide) (ht _ hl) (fun _ h9 => h9) rfl hd kk
theorem zm_second (hx : p.tables.exec = Jvm.exec) (hb : c.code = cc) (ht : ∀ w ∈ zt, w.before args s = true) (hown : s.vm.findClass own = some m.cls) (hK : zK E s) (hZ : zMD E B w q H) (hl : Cond.fieldLink own index "WholeDeskModel" "second" "[I" ∈ zt) (hd : decode cc pc = .ok (.getfield index, 3))
    (kk : W p l e R s m args below meth c H locs cells slots Q (F0 m (pc + 3) ls (.ref (B + 12) :: rest))) : W p l e R s m args below meth c H locs cells slots Q (F0 m pc ls (.ref B :: rest)) :=
  va_get (D := E.1) (cl := zCl) (ci := 5) (C := "WholeDeskModel") (T := TM) (N := 21) hx hb ht inM hown hK hZ.1 0 (by rw [zB_at (by decide), mO_0]; rfl) rfl 15 (by decide) (ht _ hl) (fun _ h9 => h9) rfl hd kk
theorem zm_firstBelow (hx : p.tables.exec = Jvm.exec) (hb : c.code = cc) (ht : ∀ w ∈ zt, w.before args s = true) (hown : s.vm.findClass own = some m.cls) (hK : zK E s) (hZ : zMD E B w q H) (hl : Cond.fieldLink own index "WholeDeskModel" "firstBelow" "Z" ∈ zt) (hd : decode cc pc = .ok (.getfield index, 3))
    (kk : W p l e R s m args below meth c H locs cells slots Q (F0 m (pc + 3) ls (.int (iZ (bZ q.2.2.2.2.1)) :: rest))) : W p l e R s m args below meth c H locs cells slots Q (F0 m pc ls (.ref B :: rest)) :=
  va_get (D := E.1) (cl := zCl) (ci := 5) (C := "WholeDeskModel") (T := TM) (N := 21) hx hb ht inM hown hK hZ.1 0 (by rw [zB_at (by decide), mO_0]; rfl) rfl 16 (by decide) (ht _ hl) (fun _ h9 => h9) rfl hd kk
theorem zm_secondBelow (hx : p.tables.exec = Jvm.exec) (hb : c.code = cc) (ht : ∀ w ∈ zt, w.before args s = true) (hown : s.vm.findClass own = some m.cls) (hK : zK E s) (hZ : zMD E B w q H) (hl : Cond.fieldLink own index "WholeDeskModel" "secondBelow" "Z" ∈ zt) (hd : decode cc pc = .ok (.getfield index, 3))
    (kk : W p l e R s m args below meth c H locs cells slots Q (F0 m (pc + 3) ls (.int (iZ (bZ q.2.2.2.2.2.1)) :: rest))) : W p l e R s m args below meth c H locs cells slots Q (F0 m pc ls (.ref B :: rest)) :=
  va_get (D := E.1) (cl := zCl) (ci := 5) (C := "WholeDeskModel") (T := TM) (N := 21) hx hb ht inM hown hK hZ.1 0 (by rw [zB_at (by decide), mO_0]; rfl) rfl 17 (by decide) (ht _ hl) (fun _ h9 => h9) rfl hd kk
theorem zm_modulus (hx : p.tables.exec = Jvm.exec) (hb : c.code = cc) (ht : ∀ w ∈ zt, w.before args s = true) (hown : s.vm.findClass own = some m.cls) (hK : zK E s) (hZ : zMD E B w q H) (hl : Cond.fieldLink own index "WholeDeskModel" "modulus" "[I" ∈ zt) (hd : decode cc pc = .ok (.getfield index, 3))
    (kk : W p l e R s m args below meth c H locs cells slots Q (F0 m (pc + 3) ls (.ref (B + 13) :: rest))) : W p l e R s m args below meth c H locs cells slots Q (F0 m pc ls (.ref B :: rest)) :=
  va_get (D := E.1) (cl := zCl) (ci := 5) (C := "WholeDeskModel") (T := TM) (N := 21) hx hb ht inM hown hK hZ.1 0 (by rw [zB_at (by decide), mO_0]; rfl) rfl 18 (by decide) (ht _ hl) (fun _ h9 => h9) rfl hd kk
theorem zm_paper (hx : p.tables.exec = Jvm.exec) (hb : c.code = cc) (ht : ∀ w ∈ zt, w.before args s = true) (hown : s.vm.findClass own = some m.cls) (hK : zK E s) (hZ : zMD E B w q H) (hl : Cond.fieldLink own index "WholeDeskModel" "paper" "[I" ∈ zt) (hd : decode cc pc = .ok (.getfield index, 3))
    (kk : W p l e R s m args below meth c H locs cells slots Q (F0 m (pc + 3) ls (.ref (B + 14) :: rest))) : W p l e R s m args below meth c H locs cells slots Q (F0 m pc ls (.ref B :: rest)) :=
  va_get (D := E.1) (cl := zCl) (ci := 5) (C := "WholeDeskModel") (T := TM) (N := 21) hx hb ht inM hown hK hZ.1 0 (by rw [zB_at (by decide), mO_0]; rfl) rfl 19 (by decide) (ht _ hl) (fun _ h9 => h9) rfl hd kk
theorem zm_printed (hx : p.tables.exec = Jvm.exec) (hb : c.code = cc) (ht : ∀ w ∈ zt, w.before args s = true) (hown : s.vm.findClass own = some m.cls) (hK : zK E s) (hZ : zMD E B w q H) (hl : Cond.fieldLink own index "WholeDeskModel" "printed" "I" ∈ zt) (hd : decode cc pc = .ok (.getfield index, 3))
    (kk : W p l e R s m args below meth c H locs cells slots Q (F0 m (pc + 3) ls (.int (iZ q.2.2.2.2.2.2) :: rest))) : W p l e R s m args below meth c H locs cells slots Q (F0 m pc ls (.ref B :: rest)) :=
  va_get (D := E.1) (cl := zCl) (ci := 5) (C := "WholeDeskModel") (T := TM) (N := 21) hx hb ht inM hown hK hZ.1 0 (by rw [zB_at (by decide), mO_0]; rfl) rfl 20 (by decide) (ht _ hl) (fun _ h9 => h9) rfl hd kk
theorem zm_put_thrown (hx : p.tables.exec = Jvm.exec) (hb : c.code = cc) (ht : ∀ w ∈ zt, w.before args s = true) (hown : s.vm.findClass own = some m.cls) (hK : zK E s) (hZ : zMD E B w q H) (hS : va_S (zA B 15) H0 H locs) {x : Nat} (hl : Cond.fieldLink own index "WholeDeskModel" "thrown" "I" ∈ zt) (hd : decode cc pc = .ok (.putfield index, 3))
    (kk : ∀ (H1 : Heap) (locs1 : List Loc), zMD E B w (x, q.2) H1 → va_S (zA B 15) H0 H1 locs1 → W p l e R s m args below meth c H1 locs1 cells slots Q (F0 m (pc + 3) ls rest)) : W p l e R s m args below meth c H locs cells slots Q (F0 m pc ls (.int (iZ x) :: .ref B :: rest)) := by
  refine va_put (D := E.1) (cl := zCl) (ci := 5) (C := "WholeDeskModel") (T := TM) (N := 21) (ty := .int) (fs := mFs B q) hx hb ht inM tyM tyM_ok nmM hown hK hZ.1 (zB_DA B 15 _) hS 0 (by rw [zB_at (by decide), mO_0]; rfl) rfl 0 (by decide) (ht _ hl) (fun _ h9 => h9) rfl (by decide +kernel) rfl rfl (Nat.le_of_ble_eq_true rfl) hd fun H1 locs1 hP hD hS1 => ?_
  refine kk H1 locs1 ⟨?_, hZ.2⟩ hS1
  rw [← mO_up0 E B w q]
  have hP2 : va_P E.1 zCl ((zB B 15 (mO E B w q)).set 0 (B + 0, .inr (5, mFs B (x, q.2)))) H1 := hP
  rw [zB_set (by decide)] at hP2
  exact hP2
theorem zm_put_fault (hx : p.tables.exec = Jvm.exec) (hb : c.code = cc) (ht : ∀ w ∈ zt, w.before args s = true) (hown : s.vm.findClass own = some m.cls) (hK : zK E s) (hZ : zMD E B w q H) (hS : va_S (zA B 15) H0 H locs) {x : Nat} (hl : Cond.fieldLink own index "WholeDeskModel" "fault" "I" ∈ zt) (hd : decode cc pc = .ok (.putfield index, 3))
    (kk : ∀ (H1 : Heap) (locs1 : List Loc), zMD E B w (q.1, x, q.2.2) H1 → va_S (zA B 15) H0 H1 locs1 → W p l e R s m args below meth c H1 locs1 cells slots Q (F0 m (pc + 3) ls rest)) : W p l e R s m args below meth c H locs cells slots Q (F0 m pc ls (.int (iZ x) :: .ref B :: rest)) := by
  refine va_put (D := E.1) (cl := zCl) (ci := 5) (C := "WholeDeskModel") (T := TM) (N := 21) (ty := .int) (fs := mFs B q) hx hb ht inM tyM tyM_ok nmM hown hK hZ.1 (zB_DA B 15 _) hS 0 (by rw [zB_at (by decide), mO_0]; rfl) rfl 1 (by decide) (ht _ hl) (fun _ h9 => h9) rfl (by decide +kernel) rfl rfl (Nat.le_of_ble_eq_true rfl) hd fun H1 locs1 hP hD hS1 => ?_
  refine kk H1 locs1 ⟨?_, hZ.2⟩ hS1
  rw [← mO_up0 E B w q]
  have hP2 : va_P E.1 zCl ((zB B 15 (mO E B w q)).set 0 (B + 0, .inr (5, mFs B (q.1, x, q.2.2)))) H1 := hP
  rw [zB_set (by decide)] at hP2
  exact hP2
theorem zm_put_length (hx : p.tables.exec = Jvm.exec) (hb : c.code = cc) (ht : ∀ w ∈ zt, w.before args s = true) (hown : s.vm.findClass own = some m.cls) (hK : zK E s) (hZ : zMD E B w q H) (hS : va_S (zA B 15) H0 H locs) {x : Nat} (hl : Cond.fieldLink own index "WholeDeskModel" "length" "I" ∈ zt) (hd : decode cc pc = .ok (.putfield index, 3))
    (kk : ∀ (H1 : Heap) (locs1 : List Loc), zMD E B w (q.1, q.2.1, x, q.2.2.2) H1 → va_S (zA B 15) H0 H1 locs1 → W p l e R s m args below meth c H1 locs1 cells slots Q (F0 m (pc + 3) ls rest)) : W p l e R s m args below meth c H locs cells slots Q (F0 m pc ls (.int (iZ x) :: .ref B :: rest)) := by
  refine va_put (D := E.1) (cl := zCl) (ci := 5) (C := "WholeDeskModel") (T := TM) (N := 21) (ty := .int) (fs := mFs B q) hx hb ht inM tyM tyM_ok nmM hown hK hZ.1 (zB_DA B 15 _) hS 0 (by rw [zB_at (by decide), mO_0]; rfl) rfl 3 (by decide) (ht _ hl) (fun _ h9 => h9) rfl (by decide +kernel) rfl rfl (Nat.le_of_ble_eq_true rfl) hd fun H1 locs1 hP hD hS1 => ?_
  refine kk H1 locs1 ⟨?_, hZ.2⟩ hS1
  rw [← mO_up0 E B w q]
  have hP2 : va_P E.1 zCl ((zB B 15 (mO E B w q)).set 0 (B + 0, .inr (5, mFs B (q.1, q.2.1, x, q.2.2.2)))) H1 := hP
  rw [zB_set (by decide)] at hP2
  exact hP2
theorem zm_put_below (hx : p.tables.exec = Jvm.exec) (hb : c.code = cc) (ht : ∀ w ∈ zt, w.before args s = true) (hown : s.vm.findClass own = some m.cls) (hK : zK E s) (hZ : zMD E B w q H) (hS : va_S (zA B 15) H0 H locs) {x : Bool} (hl : Cond.fieldLink own index "WholeDeskModel" "below" "Z" ∈ zt) (hd : decode cc pc = .ok (.putfield index, 3))
    (kk : ∀ (H1 : Heap) (locs1 : List Loc), zMD E B w (q.1, q.2.1, q.2.2.1, x, q.2.2.2.2) H1 → va_S (zA B 15) H0 H1 locs1 → W p l e R s m args below meth c H1 locs1 cells slots Q (F0 m (pc + 3) ls rest)) : W p l e R s m args below meth c H locs cells slots Q (F0 m pc ls (.int (iZ (bZ x)) :: .ref B :: rest)) := by
  refine va_put (D := E.1) (cl := zCl) (ci := 5) (C := "WholeDeskModel") (T := TM) (N := 21) (ty := .boolean) (fs := mFs B q) hx hb ht inM tyM tyM_ok nmM hown hK hZ.1 (zB_DA B 15 _) hS 0 (by rw [zB_at (by decide), mO_0]; rfl) rfl 7 (by decide) (ht _ hl) (fun _ h9 => h9) rfl (by decide +kernel) (bZ_nar _) (bZ_fit _) (Nat.le_of_ble_eq_true rfl) hd fun H1 locs1 hP hD hS1 => ?_
  refine kk H1 locs1 ⟨?_, hZ.2⟩ hS1
  rw [← mO_up0 E B w q]
  have hP2 : va_P E.1 zCl ((zB B 15 (mO E B w q)).set 0 (B + 0, .inr (5, mFs B (q.1, q.2.1, q.2.2.1, x, q.2.2.2.2)))) H1 := hP
  rw [zB_set (by decide)] at hP2
  exact hP2
theorem zm_put_firstBelow (hx : p.tables.exec = Jvm.exec) (hb : c.code = cc) (ht : ∀ w ∈ zt, w.before args s = true) (hown : s.vm.findClass own = some m.cls) (hK : zK E s) (hZ : zMD E B w q H) (hS : va_S (zA B 15) H0 H locs) {x : Bool} (hl : Cond.fieldLink own index "WholeDeskModel" "firstBelow" "Z" ∈ zt) (hd : decode cc pc = .ok (.putfield index, 3))
    (kk : ∀ (H1 : Heap) (locs1 : List Loc), zMD E B w (q.1, q.2.1, q.2.2.1, q.2.2.2.1, x, q.2.2.2.2.2) H1 → va_S (zA B 15) H0 H1 locs1 → W p l e R s m args below meth c H1 locs1 cells slots Q (F0 m (pc + 3) ls rest)) : W p l e R s m args below meth c H locs cells slots Q (F0 m pc ls (.int (iZ (bZ x)) :: .ref B :: rest)) := by
  refine va_put (D := E.1) (cl := zCl) (ci := 5) (C := "WholeDeskModel") (T := TM) (N := 21) (ty := .boolean) (fs := mFs B q) hx hb ht inM tyM tyM_ok nmM hown hK hZ.1 (zB_DA B 15 _) hS 0 (by rw [zB_at (by decide), mO_0]; rfl) rfl 16 (by decide) (ht _ hl) (fun _ h9 => h9) rfl (by decide +kernel) (bZ_nar _) (bZ_fit _) (Nat.le_of_ble_eq_true rfl) hd fun H1 locs1 hP hD hS1 => ?_
  refine kk H1 locs1 ⟨?_, hZ.2⟩ hS1
  rw [← mO_up0 E B w q]
  have hP2 : va_P E.1 zCl ((zB B 15 (mO E B w q)).set 0 (B + 0, .inr (5, mFs B (q.1, q.2.1, q.2.2.1, q.2.2.2.1, x, q.2.2.2.2.2)))) H1 := hP
  rw [zB_set (by decide)] at hP2
  exact hP2
theorem zm_put_secondBelow (hx : p.tables.exec = Jvm.exec) (hb : c.code = cc) (ht : ∀ w ∈ zt, w.before args s = true) (hown : s.vm.findClass own = some m.cls) (hK : zK E s) (hZ : zMD E B w q H) (hS : va_S (zA B 15) H0 H locs) {x : Bool} (hl : Cond.fieldLink own index "WholeDeskModel" "secondBelow" "Z" ∈ zt) (hd : decode cc pc = .ok (.putfield index, 3))
    (kk : ∀ (H1 : Heap) (locs1 : List Loc), zMD E B w (q.1, q.2.1, q.2.2.1, q.2.2.2.1, q.2.2.2.2.1, x, q.2.2.2.2.2.2) H1 → va_S (zA B 15) H0 H1 locs1 → W p l e R s m args below meth c H1 locs1 cells slots Q (F0 m (pc + 3) ls rest)) : W p l e R s m args below meth c H locs cells slots Q (F0 m pc ls (.int (iZ (bZ x)) :: .ref B :: rest)) := by
  refine va_put (D := E.1) (cl := zCl) (ci := 5) (C := "WholeDeskModel") (T := TM) (N := 21) (ty := .boolean) (fs := mFs B q) hx hb ht inM tyM tyM_ok nmM hown hK hZ.1 (zB_DA B 15 _) hS 0 (by rw [zB_at (by decide), mO_0]; rfl) rfl 17 (by decide) (ht _ hl) (fun _ h9 => h9) rfl (by decide +kernel) (bZ_nar _) (bZ_fit _) (Nat.le_of_ble_eq_true rfl) hd fun H1 locs1 hP hD hS1 => ?_
  refine kk H1 locs1 ⟨?_, hZ.2⟩ hS1
  rw [← mO_up0 E B w q]
  have hP2 : va_P E.1 zCl ((zB B 15 (mO E B w q)).set 0 (B + 0, .inr (5, mFs B (q.1, q.2.1, q.2.2.1, q.2.2.2.1, q.2.2.2.2.1, x, q.2.2.2.2.2.2)))) H1 := hP
  rw [zB_set (by decide)] at hP2
  exact hP2
theorem zm_put_printed (hx : p.tables.exec = Jvm.exec) (hb : c.code = cc) (ht : ∀ w ∈ zt, w.before args s = true) (hown : s.vm.findClass own = some m.cls) (hK : zK E s) (hZ : zMD E B w q H) (hS : va_S (zA B 15) H0 H locs) {x : Nat} (hl : Cond.fieldLink own index "WholeDeskModel" "printed" "I" ∈ zt) (hd : decode cc pc = .ok (.putfield index, 3))
    (kk : ∀ (H1 : Heap) (locs1 : List Loc), zMD E B w (q.1, q.2.1, q.2.2.1, q.2.2.2.1, q.2.2.2.2.1, q.2.2.2.2.2.1, x) H1 → va_S (zA B 15) H0 H1 locs1 → W p l e R s m args below meth c H1 locs1 cells slots Q (F0 m (pc + 3) ls rest)) : W p l e R s m args below meth c H locs cells slots Q (F0 m pc ls (.int (iZ x) :: .ref B :: rest)) := by
  refine va_put (D := E.1) (cl := zCl) (ci := 5) (C := "WholeDeskModel") (T := TM) (N := 21) (ty := .int) (fs := mFs B q) hx hb ht inM tyM tyM_ok nmM hown hK hZ.1 (zB_DA B 15 _) hS 0 (by rw [zB_at (by decide), mO_0]; rfl) rfl 20 (by decide) (ht _ hl) (fun _ h9 => h9) rfl (by decide +kernel) rfl rfl (Nat.le_of_ble_eq_true rfl) hd fun H1 locs1 hP hD hS1 => ?_
  refine kk H1 locs1 ⟨?_, hZ.2⟩ hS1
  rw [← mO_up0 E B w q]
  have hP2 : va_P E.1 zCl ((zB B 15 (mO E B w q)).set 0 (B + 0, .inr (5, mFs B (q.1, q.2.1, q.2.2.1, q.2.2.2.1, q.2.2.2.2.1, q.2.2.2.2.2.1, x)))) H1 := hP
  rw [zB_set (by decide)] at hP2
  exact hP2
theorem zm_ld (hx : p.tables.exec = Jvm.exec) (hb : c.code = cc) (hK : zK E s) (hZ : zMD E B w q H) {k i : Nat} (hk : 1 ≤ k ∧ k ≤ 14 ∧ k ≠ 3) (hi : i < mln k) (hd : decode cc pc = .ok (.iaload, 1))
    (kk : W p l e R s m args below meth c H locs cells slots Q (F0 m (pc + 1) ls (.int (iZ ((w k i : Nat) : Int)) :: rest))) : W p l e R s m args below meth c H locs cells slots Q (F0 m pc ls (.int (iZ i) :: .ref (B + k) :: rest)) := by
  have hl : mln k ≤ 2100 := by unfold mln; (repeat' split) <;> omega
  refine va_iald (D := E.1) (cl := zCl) (cA := E.2.2.2.2.1) (n := mln k) (f := fun i => iZ ((w k i : Nat) : Int)) hx hb hK hZ.1 k 3 (by rw [zB_at (by omega), mO_k (by omega), mAr, if_neg hk.2.2]) rfl (iZ_in ⟨by omega, by omega⟩ (by omega) (by omega)) hd ?_
  rw [iZ_clamp ⟨by omega, by omega⟩, Int.toNat_natCast]
  exact kk
theorem zm_st (hx : p.tables.exec = Jvm.exec) (hb : c.code = cc) (hK : zK E s) (hZ : zMD E B w q H) (hS : va_S (zA B 15) H0 H locs) {k i x : Nat} (hk : 1 ≤ k ∧ k ≤ 14 ∧ k ≠ 3) (hi : i < mln k) (hxx : x < 65536) (hd : decode cc pc = .ok (.iastore, 1))
    (kk : ∀ (H1 : Heap) (locs1 : List Loc), zMD E B (mup w k i x) q H1 → va_S (zA B 15) H0 H1 locs1 → W p l e R s m args below meth c H1 locs1 cells slots Q (F0 m (pc + 1) ls rest)) : W p l e R s m args below meth c H locs cells slots Q (F0 m pc ls (.int (iZ ((x : Nat) : Int)) :: .int (iZ i) :: .ref (B + k) :: rest)) := by
  have hl : mln k ≤ 2100 := by unfold mln; (repeat' split) <;> omega
  refine va_iast (D := E.1) (cl := zCl) (cA := E.2.2.2.2.1) (n := mln k) (f := fun i => iZ ((w k i : Nat) : Int)) hx hb hK hZ.1 (zB_DA B 15 _) hS k 3 (by rw [zB_at (by omega), mO_k (by omega), mAr, if_neg hk.2.2]) rfl (iZ_in ⟨by omega, by omega⟩ (by omega) (by omega)) hd fun H1 locs1 hP hD hS1 => ?_
  refine kk H1 locs1 ⟨?_, mup_lt hZ.2 hxx⟩ hS1
  rw [iZ_clamp ⟨by omega, by omega⟩, Int.toNat_natCast, upd_m, zB_set (by omega)] at hP
  rw [← mO_up E B w q (show k ≠ 0 by omega), mAr, if_neg hk.2.2]
  exact hP
theorem zm_ldz (hx : p.tables.exec = Jvm.exec) (hb : c.code = cc) (hK : zK E s) (hZ : zMD E B w q H) {i : Nat} (hi : i < 10) (hd : decode cc pc = .ok (.baload, 1))
    (kk : W p l e R s m args below meth c H locs cells slots Q (F0 m (pc + 1) ls (.int (iZ ((w 3 i : Nat) : Int)) :: rest))) : W p l e R s m args below meth c H locs cells slots Q (F0 m pc ls (.int (iZ i) :: .ref (B + 3) :: rest)) := by
  refine va_zald (D := E.1) (cl := zCl) (cA := E.2.2.2.2.2) (n := 10) (f := fun i => iZ ((w 3 i : Nat) : Int)) hx hb hK hZ.1 3 4 (by rw [zB_at (by decide), mO_k (by decide)]; rfl) rfl (iZ_in ⟨by omega, by omega⟩ (by omega) (by omega)) hd ?_
  rw [iZ_clamp ⟨by omega, by omega⟩, Int.toNat_natCast]
  exact kk
theorem zm_stz (hx : p.tables.exec = Jvm.exec) (hb : c.code = cc) (hK : zK E s) (hZ : zMD E B w q H) (hS : va_S (zA B 15) H0 H locs) {i : Nat} {x : Bool} (hi : i < 10) (hd : decode cc pc = .ok (.bastore, 1))
    (kk : ∀ (H1 : Heap) (locs1 : List Loc), zMD E B (mup w 3 i (bN x)) q H1 → va_S (zA B 15) H0 H1 locs1 → W p l e R s m args below meth c H1 locs1 cells slots Q (F0 m (pc + 1) ls rest)) : W p l e R s m args below meth c H locs cells slots Q (F0 m pc ls (.int (iZ (bZ x)) :: .int (iZ i) :: .ref (B + 3) :: rest)) := by
  refine va_zast (D := E.1) (cl := zCl) (cA := E.2.2.2.2.2) (n := 10) (f := fun i => iZ ((w 3 i : Nat) : Int)) hx hb hK hZ.1 (zB_DA B 15 _) hS 3 4 (by rw [zB_at (by decide), mO_k (by decide)]; rfl) rfl (iZ_in ⟨by omega, by omega⟩ (by omega) (by omega)) hd fun H1 locs1 hP hD hS1 => ?_
  refine kk H1 locs1 ⟨?_, mup_lt hZ.2 (bN_lt x)⟩ hS1
  rw [iZ_clamp ⟨by omega, by omega⟩, Int.toNat_natCast, nar_z, ← bN_Z, upd_m, zB_set (by decide)] at hP
  rw [← mO_up E B w q (show 3 ≠ 0 by decide), mAr, if_pos rfl]
  exact hP
theorem zm_len (hx : p.tables.exec = Jvm.exec) (hb : c.code = cc) (hK : zK E s) (hZ : zMD E B w q H) {k : Nat} (hk : 1 ≤ k ∧ k ≤ 14 ∧ k ≠ 3) (hd : decode cc pc = .ok (.arraylength, 1))
    (kk : W p l e R s m args below meth c H locs cells slots Q (F0 m (pc + 1) ls (.int (iZ ((mln k : Nat) : Int)) :: rest))) : W p l e R s m args below meth c H locs cells slots Q (F0 m pc ls (.ref (B + k) :: rest)) :=
  va_alen (D := E.1) (cl := zCl) (cA := E.2.2.2.2.1) (x := (mln k, .inl (fun i => iZ ((w k i : Nat) : Int)))) hx hb hK hZ.1 k 3 (by rw [zB_at (by omega), mO_k (by omega), mAr, if_neg hk.2.2]) rfl (by rw [← iZ_nI]; rfl) hd kk
end ZMR
theorem zm_recv {E : zE} {B : Nat} {w : Nat → Nat → Nat} {q : zC} {H : Heap} {s : State} (hK : zK E s) (hZ : zMD E B w q H) : ∃ cellB : Cell, H[B]? = some cellB ∧ cellB.vm.isStatics = false ∧ s.vm.findClass "WholeDeskModel" = some cellB.cls :=
  va_recv (q := ("WholeDeskModel", TM, 21)) hK hZ.1 (ci := 5) (q0 := 0) rfl (by rw [zB_at (by decide), mO_0]; rfl)
