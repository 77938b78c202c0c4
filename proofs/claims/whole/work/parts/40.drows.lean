theorem up_comm {α : Type} (f : Nat → α) {i j : Nat} (x y : α) (h : i ≠ j) : va_up (va_up f i x) j y = va_up (va_up f j y) i x := by
  funext k
  by_cases h1 : k = i
  · subst h1; rw [va_up_ne _ _ h, va_up_self, va_up_self]
  · by_cases h2 : k = j
    · subst h2; rw [va_up_self, va_up_ne _ _ h1, va_up_self]
    · rw [va_up_ne _ _ h2, va_up_ne _ _ h1, va_up_ne _ _ h1, va_up_ne _ _ h2]
/-- a byte as the int that an array of bytes holds -/
def sb (x : Nat) : Int := if x < 128 then (x : Int) else (x : Int) - 256
theorem sb_bd {x : Nat} (h : x < 256) : -128 ≤ sb x ∧ sb x ≤ 127 := by unfold sb; split <;> omega
theorem sb_eq {x y : Nat} (h : x < 256) (hy : y < 128) : sb x = (y : Int) ↔ x = y := by unfold sb; split <;> omega
theorem sb_lo {x : Nat} (h : x < 128) : sb x = (x : Int) := by unfold sb; rw [if_pos h]
theorem sb_nar : ∀ x, x < 256 → vp_nar .byte (iZ (sb x)) = iZ (sb x) := by decide +kernel
theorem i2b_sb (z : Int) : (iZ z).toInt8.toInt32 = iZ (sb (z % 256).toNat) := by
  have h0 : (iZ z).toInt8 = Int8.ofInt z := Int32.toInt8_ofInt
  have h1 : (Int8.ofInt z).toInt = sb (z % 256).toNat := by
    rw [Int8.toInt_ofInt]
    unfold sb
    rw [Int.bmod_def]
    have := Int.emod_nonneg z (show (256 : Int) ≠ 0 by decide)
    have h3 : (z % ↑(256 : Nat)) = z % 256 := rfl
    show (if z % ↑(2 ^ 8 : Nat) < (↑(2 ^ 8 : Nat) + 1) / 2 then z % ↑(2 ^ 8 : Nat) else z % ↑(2 ^ 8 : Nat) - ↑(2 ^ 8 : Nat)) = _
    rw [show ((2 ^ 8 : Nat) : Int) = 256 from rfl, show ((256 : Int) + 1) / 2 = 128 from rfl]
    split <;> split <;> omega
  rw [h0, ← h1]
  apply Int32.toInt_inj.mp
  rw [Int8.toInt_toInt32, iZ_toInt]
  have := Int8.toInt_lt (Int8.ofInt z)
  have := Int8.le_toInt (Int8.ofInt z)
  unfold zi
  omega
/-- the Draft's object and its array -/
def zDr (B c : Nat) : va_E := .inr (2, [.int (iZ c), .ref (B + 73), .ref (B + 74)])
def zBy (E : zE) (n : Nat) (f : Nat → Nat) : va_E := .inl (E.2.2.1, n, .inl (fun i => iZ (sb (f i))))
def zd (E : zE) (B : Nat) (o : Nat → va_E) (ct : Nat) (f : Nat → Nat) : Nat → va_E := va_up (va_up o 72 (zDr B ct)) 73 (zBy E 2100 f)
/-- the Writing's object and its array -/
def zWr (B st : Nat) : va_E := .inr (3, [.ref (B + 77), .int (iZ st), .ref (B + 78)])
def zg (E : zE) (B : Nat) (o : Nat → va_E) (st : Nat) (f : Nat → Nat) : Nat → va_E := va_up (va_up o 76 (zWr B st)) 77 (zBy E 2049 f)
/-- the desk's object and its registers -/
def zs (E : zE) (B : Nat) : Nat → va_E := fun k => if k = 0 then .inr (4, [.ref (B + 1), .ref (B + 22), .ref (B + 72), .ref (B + 76)]) else .inl (E.2.2.2.1, 10, .inr (.inr (.inr (.inr (fun i => some (B + (2 + 2 * i)))))))
/-- all cells of the desk beside the Wholes -/
def zF (E : zE) (B an sp ct : Nat) (f : Nat → Nat) (st : Nat) (g : Nat → Nat) : Nat → va_E := zo E B (zd E B (zg E B (zs E B) st g) ct f) an sp
theorem zF_k (E : zE) (B an sp ct : Nat) (f : Nat → Nat) (st : Nat) (g : Nat → Nat) : zF E B an sp ct f st g = zo E B (zd E B (zg E B (zs E B) st g) ct f) an sp := rfl
theorem zF_d (E : zE) (B an sp ct : Nat) (f : Nat → Nat) (st : Nat) (g : Nat → Nat) : zF E B an sp ct f st g = zd E B (zo E B (zg E B (zs E B) st g) an sp) ct f := by
  unfold zF zd zo
  rw [up_comm _ (i := 73) (j := 39) _ _ (by decide), up_comm _ (i := 72) (j := 39) _ _ (by decide), up_comm _ (i := 73) (j := 22) _ _ (by decide), up_comm _ (i := 72) (j := 22) _ _ (by decide)]
theorem zF_g (E : zE) (B an sp ct : Nat) (f : Nat → Nat) (st : Nat) (g : Nat → Nat) : zF E B an sp ct f st g = zg E B (zo E B (zd E B (zs E B) ct f) an sp) st g := by
  unfold zF zd zo zg
  rw [up_comm _ (i := 77) (j := 72) _ _ (by decide), up_comm _ (i := 76) (j := 72) _ _ (by decide), up_comm _ (i := 77) (j := 73) _ _ (by decide), up_comm _ (i := 76) (j := 73) _ _ (by decide), up_comm _ (i := 77) (j := 39) _ _ (by decide), up_comm _ (i := 76) (j := 39) _ _ (by decide), up_comm _ (i := 77) (j := 22) _ _ (by decide), up_comm _ (i := 76) (j := 22) _ _ (by decide)]
theorem zF_s {E : zE} {B an sp ct : Nat} {f : Nat → Nat} {st : Nat} {g : Nat → Nat} {k : Nat} (h : k < 2) : zF E B an sp ct f st g k = zs E B k := by
  unfold zF zd zo zg
  rw [va_up_ne _ _ (by omega), va_up_ne _ _ (by omega), va_up_ne _ _ (by omega), va_up_ne _ _ (by omega), va_up_ne _ _ (by omega), va_up_ne _ _ (by omega)]
theorem zd_72 (E : zE) (B : Nat) (o : Nat → va_E) (ct : Nat) (f : Nat → Nat) : zd E B o ct f 72 = zDr B ct := by unfold zd; rw [va_up_ne _ _ (by decide), va_up_self]
theorem zd_73 (E : zE) (B : Nat) (o : Nat → va_E) (ct : Nat) (f : Nat → Nat) : zd E B o ct f 73 = zBy E 2100 f := va_up_self _ _ _
theorem zg_76 (E : zE) (B : Nat) (o : Nat → va_E) (ct : Nat) (f : Nat → Nat) : zg E B o ct f 76 = zWr B ct := by unfold zg; rw [va_up_ne _ _ (by decide), va_up_self]
theorem zg_77 (E : zE) (B : Nat) (o : Nat → va_E) (ct : Nat) (f : Nat → Nat) : zg E B o ct f 77 = zBy E 2049 f := va_up_self _ _ _
theorem zd_up1 (E : zE) (B : Nat) (o : Nat → va_E) (ct ct1 : Nat) (f : Nat → Nat) : va_up (zd E B o ct f) 72 (zDr B ct1) = zd E B o ct1 f := by
  unfold zd; rw [up_comm _ (i := 73) (j := 72) _ _ (by decide), bx_uu]
theorem zd_up2 (E : zE) (B : Nat) (o : Nat → va_E) (ct : Nat) (f f1 : Nat → Nat) : va_up (zd E B o ct f) 73 (zBy E 2100 f1) = zd E B o ct f1 := bx_uu _ _ _ _
theorem zg_up1 (E : zE) (B : Nat) (o : Nat → va_E) (ct ct1 : Nat) (f : Nat → Nat) : va_up (zg E B o ct f) 76 (zWr B ct1) = zg E B o ct1 f := by
  unfold zg; rw [up_comm _ (i := 77) (j := 76) _ _ (by decide), bx_uu]
theorem zg_up2 (E : zE) (B : Nat) (o : Nat → va_E) (ct : Nat) (f f1 : Nat → Nat) : va_up (zg E B o ct f) 77 (zBy E 2049 f1) = zg E B o ct f1 := bx_uu _ _ _ _
theorem upd_sb (f : Nat → Nat) (i x : Nat) (hx : x < 256) : upd (fun i => iZ (sb (f i))) i (vp_nar .byte (iZ (sb x))) = fun j => iZ (sb (va_up f i x j)) := by
  funext j
  rw [sb_nar x hx]
  unfold upd va_up
  by_cases h : j = i
  · rw [if_pos h, if_pos h]
  · rw [if_neg h, if_neg h]
theorem lq_72 : ¬ lp 72 = true := by decide
theorem lq_72p : ¬ (1 ≤ 72 ∧ lp (72 - 1) = true) := by decide
theorem lq_73 : ¬ lp 73 = true := by decide
theorem lq_73p : ¬ (1 ≤ 73 ∧ lp (73 - 1) = true) := by decide
theorem lq_76 : ¬ lp 76 = true := by decide
theorem lq_76p : ¬ (1 ≤ 76 ∧ lp (76 - 1) = true) := by decide
theorem lq_77 : ¬ lp 77 = true := by decide
theorem lq_77p : ¬ (1 ≤ 77 ∧ lp (77 - 1) = true) := by decide
theorem lq_0 : ¬ lp 0 = true := by decide
theorem lq_0p : ¬ (1 ≤ 0 ∧ lp (0 - 1) = true) := by decide
theorem lq_1 : ¬ lp 1 = true := by decide
theorem lq_1p : ¬ (1 ≤ 1 ∧ lp (1 - 1) = true) := by decide
section ZDR
variable {p : Program} {l : Launch} {e : Env} {R : Room} {s : State} {m : MethodId} {args : Array Value} {below : List Frame} {meth : Method} {c : Code} {H : Heap} {locs : List Loc} {cells slots : Nat} {Q : State → Prop}
variable {cc : ByteArray} {pc : Nat} {ls : Array Slot} {rest : List Value} {E : zE} {B : Nat} {v : Nat → zV} {o : Nat → va_E} {H0 : Heap} {own : String} {index an sp ct st : Nat} {f g : Nat → Nat}
theorem zd_count (hx : p.tables.exec = Jvm.exec) (hb : c.code = cc) (ht : ∀ w ∈ zt, w.before args s = true) (hown : s.vm.findClass own = some m.cls) (hK : zK E s) (hZ : zD E B v (zd E B o ct f) H) (hl : Cond.fieldLink own index "WholeDesk$Draft" "count" "I" ∈ zt) (hd : decode cc pc = .ok (.getfield index, 3))
    (kk : W p l e R s m args below meth c H locs cells slots Q (F0 m (pc + 3) ls (.int (iZ ct) :: rest))) : W p l e R s m args below meth c H locs cells slots Q (F0 m pc ls (.ref (B + 72) :: rest)) :=
  va_get (D := E.1) (cl := zCl) (ci := 2) (C := "WholeDesk$Draft") (T := TD) (N := 3) hx hb ht inD hown hK hZ.1 72 (by rw [zB_at (by decide), zO_o lq_72 lq_72p, zd_72]; rfl) rfl 0 (by decide) (ht _ hl) (fun _ h9 => h9) rfl hd kk
theorem zd_characters (hx : p.tables.exec = Jvm.exec) (hb : c.code = cc) (ht : ∀ w ∈ zt, w.before args s = true) (hown : s.vm.findClass own = some m.cls) (hK : zK E s) (hZ : zD E B v (zd E B o ct f) H) (hl : Cond.fieldLink own index "WholeDesk$Draft" "characters" "[B" ∈ zt) (hd : decode cc pc = .ok (.getfield index, 3))
    (kk : W p l e R s m args below meth c H locs cells slots Q (F0 m (pc + 3) ls (.ref (B + 73) :: rest))) : W p l e R s m args below meth c H locs cells slots Q (F0 m pc ls (.ref (B + 72) :: rest)) :=
  va_get (D := E.1) (cl := zCl) (ci := 2) (C := "WholeDesk$Draft") (T := TD) (N := 3) hx hb ht inD hown hK hZ.1 72 (by rw [zB_at (by decide), zO_o lq_72 lq_72p, zd_72]; rfl) rfl 1 (by decide) (ht _ hl) (fun _ h9 => h9) rfl hd kk
theorem zd_value (hx : p.tables.exec = Jvm.exec) (hb : c.code = cc) (ht : ∀ w ∈ zt, w.before args s = true) (hown : s.vm.findClass own = some m.cls) (hK : zK E s) (hZ : zD E B v (zd E B o ct f) H) (hl : Cond.fieldLink own index "WholeDesk$Draft" "value" "LWholeDesk$Whole;" ∈ zt) (hd : decode cc pc = .ok (.getfield index, 3))
    (kk : W p l e R s m args below meth c H locs cells slots Q (F0 m (pc + 3) ls (.ref (B + 74) :: rest))) : W p l e R s m args below meth c H locs cells slots Q (F0 m pc ls (.ref (B + 72) :: rest)) :=
  va_get (D := E.1) (cl := zCl) (ci := 2) (C := "WholeDesk$Draft") (T := TD) (N := 3) hx hb ht inD hown hK hZ.1 72 (by rw [zB_at (by decide), zO_o lq_72 lq_72p, zd_72]; rfl) rfl 2 (by decide) (ht _ hl) (fun _ h9 => h9) rfl hd kk
theorem zg_row (hx : p.tables.exec = Jvm.exec) (hb : c.code = cc) (ht : ∀ w ∈ zt, w.before args s = true) (hown : s.vm.findClass own = some m.cls) (hK : zK E s) (hZ : zD E B v (zg E B o st f) H) (hl : Cond.fieldLink own index "WholeDesk$Writing" "row" "[B" ∈ zt) (hd : decode cc pc = .ok (.getfield index, 3))
    (kk : W p l e R s m args below meth c H locs cells slots Q (F0 m (pc + 3) ls (.ref (B + 77) :: rest))) : W p l e R s m args below meth c H locs cells slots Q (F0 m pc ls (.ref (B + 76) :: rest)) :=
  va_get (D := E.1) (cl := zCl) (ci := 3) (C := "WholeDesk$Writing") (T := TG) (N := 3) hx hb ht inG hown hK hZ.1 76 (by rw [zB_at (by decide), zO_o lq_76 lq_76p, zg_76]; rfl) rfl 0 (by decide) (ht _ hl) (fun _ h9 => h9) rfl hd kk
theorem zg_start (hx : p.tables.exec = Jvm.exec) (hb : c.code = cc) (ht : ∀ w ∈ zt, w.before args s = true) (hown : s.vm.findClass own = some m.cls) (hK : zK E s) (hZ : zD E B v (zg E B o st f) H) (hl : Cond.fieldLink own index "WholeDesk$Writing" "start" "I" ∈ zt) (hd : decode cc pc = .ok (.getfield index, 3))
    (kk : W p l e R s m args below meth c H locs cells slots Q (F0 m (pc + 3) ls (.int (iZ st) :: rest))) : W p l e R s m args below meth c H locs cells slots Q (F0 m pc ls (.ref (B + 76) :: rest)) :=
  va_get (D := E.1) (cl := zCl) (ci := 3) (C := "WholeDesk$Writing") (T := TG) (N := 3) hx hb ht inG hown hK hZ.1 76 (by rw [zB_at (by decide), zO_o lq_76 lq_76p, zg_76]; rfl) rfl 1 (by decide) (ht _ hl) (fun _ h9 => h9) rfl hd kk
theorem zg_left (hx : p.tables.exec = Jvm.exec) (hb : c.code = cc) (ht : ∀ w ∈ zt, w.before args s = true) (hown : s.vm.findClass own = some m.cls) (hK : zK E s) (hZ : zD E B v (zg E B o st f) H) (hl : Cond.fieldLink own index "WholeDesk$Writing" "left" "LWholeDesk$Whole;" ∈ zt) (hd : decode cc pc = .ok (.getfield index, 3))
    (kk : W p l e R s m args below meth c H locs cells slots Q (F0 m (pc + 3) ls (.ref (B + 78) :: rest))) : W p l e R s m args below meth c H locs cells slots Q (F0 m pc ls (.ref (B + 76) :: rest)) :=
  va_get (D := E.1) (cl := zCl) (ci := 3) (C := "WholeDesk$Writing") (T := TG) (N := 3) hx hb ht inG hown hK hZ.1 76 (by rw [zB_at (by decide), zO_o lq_76 lq_76p, zg_76]; rfl) rfl 2 (by decide) (ht _ hl) (fun _ h9 => h9) rfl hd kk
theorem zs_registers (hx : p.tables.exec = Jvm.exec) (hb : c.code = cc) (ht : ∀ w ∈ zt, w.before args s = true) (hown : s.vm.findClass own = some m.cls) (hK : zK E s) (hZ : zD E B v (zF E B an sp ct f st g) H) (hl : Cond.fieldLink own index "WholeDesk" "registers" "[LWholeDesk$Whole;" ∈ zt) (hd : decode cc pc = .ok (.getfield index, 3))
    (kk : W p l e R s m args below meth c H locs cells slots Q (F0 m (pc + 3) ls (.ref (B + 1) :: rest))) : W p l e R s m args below meth c H locs cells slots Q (F0 m pc ls (.ref B :: rest)) :=
  va_get (D := E.1) (cl := zCl) (ci := 4) (C := "WholeDesk") (T := TS) (N := 4) hx hb ht inS hown hK hZ.1 0 (by rw [zB_at (by decide), zO_o lq_0 lq_0p, zF_s (by decide)]; rfl) rfl 0 (by decide) (ht _ hl) (fun _ h9 => h9) rfl hd kk
theorem zs_reckoner (hx : p.tables.exec = Jvm.exec) (hb : c.code = cc) (ht : ∀ w ∈ zt, w.before args s = true) (hown : s.vm.findClass own = some m.cls) (hK : zK E s) (hZ : zD E B v (zF E B an sp ct f st g) H) (hl : Cond.fieldLink own index "WholeDesk" "reckoner" "LWholeDesk$Reckoner;" ∈ zt) (hd : decode cc pc = .ok (.getfield index, 3))
    (kk : W p l e R s m args below meth c H locs cells slots Q (F0 m (pc + 3) ls (.ref (B + 22) :: rest))) : W p l e R s m args below meth c H locs cells slots Q (F0 m pc ls (.ref B :: rest)) :=
  va_get (D := E.1) (cl := zCl) (ci := 4) (C := "WholeDesk") (T := TS) (N := 4) hx hb ht inS hown hK hZ.1 0 (by rw [zB_at (by decide), zO_o lq_0 lq_0p, zF_s (by decide)]; rfl) rfl 1 (by decide) (ht _ hl) (fun _ h9 => h9) rfl hd kk
theorem zs_draft (hx : p.tables.exec = Jvm.exec) (hb : c.code = cc) (ht : ∀ w ∈ zt, w.before args s = true) (hown : s.vm.findClass own = some m.cls) (hK : zK E s) (hZ : zD E B v (zF E B an sp ct f st g) H) (hl : Cond.fieldLink own index "WholeDesk" "draft" "LWholeDesk$Draft;" ∈ zt) (hd : decode cc pc = .ok (.getfield index, 3))
    (kk : W p l e R s m args below meth c H locs cells slots Q (F0 m (pc + 3) ls (.ref (B + 72) :: rest))) : W p l e R s m args below meth c H locs cells slots Q (F0 m pc ls (.ref B :: rest)) :=
  va_get (D := E.1) (cl := zCl) (ci := 4) (C := "WholeDesk") (T := TS) (N := 4) hx hb ht inS hown hK hZ.1 0 (by rw [zB_at (by decide), zO_o lq_0 lq_0p, zF_s (by decide)]; rfl) rfl 2 (by decide) (ht _ hl) (fun _ h9 => h9) rfl hd kk
theorem zs_writing (hx : p.tables.exec = Jvm.exec) (hb : c.code = cc) (ht : ∀ w ∈ zt, w.before args s = true) (hown : s.vm.findClass own = some m.cls) (hK : zK E s) (hZ : zD E B v (zF E B an sp ct f st g) H) (hl : Cond.fieldLink own index "WholeDesk" "writing" "LWholeDesk$Writing;" ∈ zt) (hd : decode cc pc = .ok (.getfield index, 3))
    (kk : W p l e R s m args below meth c H locs cells slots Q (F0 m (pc + 3) ls (.ref (B + 76) :: rest))) : W p l e R s m args below meth c H locs cells slots Q (F0 m pc ls (.ref B :: rest)) :=
  va_get (D := E.1) (cl := zCl) (ci := 4) (C := "WholeDesk") (T := TS) (N := 4) hx hb ht inS hown hK hZ.1 0 (by rw [zB_at (by decide), zO_o lq_0 lq_0p, zF_s (by decide)]; rfl) rfl 3 (by decide) (ht _ hl) (fun _ h9 => h9) rfl hd kk
theorem zs_reg (hx : p.tables.exec = Jvm.exec) (hb : c.code = cc) (hK : zK E s) (hZ : zD E B v (zF E B an sp ct f st g) H) {i : Nat} (hi : i < 10) (hd : decode cc pc = .ok (.aaload, 1))
    (kk : W p l e R s m args below meth c H locs cells slots Q (F0 m (pc + 1) ls (.ref (B + (2 + 2 * i)) :: rest))) : W p l e R s m args below meth c H locs cells slots Q (F0 m pc ls (.int (iZ i) :: .ref (B + 1) :: rest)) := by
  refine va_aldq (D := E.1) (cl := zCl) (cA := E.2.2.2.1) (C := "WholeDesk$Whole") (n := 10) (f := fun i => some (B + (2 + 2 * i))) hx hb hK hZ.1 1 2 (by rw [zB_at (by decide), zO_o lq_1 lq_1p, zF_s (by decide)]; rfl) rfl (iZ_in ⟨by omega, by omega⟩ (by omega) (by omega)) hd ?_
  rw [iZ_clamp ⟨by omega, by omega⟩, Int.toNat_natCast]
  exact kk
theorem zd_put_count (hx : p.tables.exec = Jvm.exec) (hb : c.code = cc) (ht : ∀ w ∈ zt, w.before args s = true) (hown : s.vm.findClass own = some m.cls) (hK : zK E s) (hZ : zD E B v (zd E B o ct f) H) (hS : va_S (zA B 80) H0 H locs) {ct1 : Nat} (hl : Cond.fieldLink own index "WholeDesk$Draft" "count" "I" ∈ zt) (hd : decode cc pc = .ok (.putfield index, 3))
    (kk : ∀ (H1 : Heap) (locs1 : List Loc), zD E B v (zd E B o ct1 f) H1 → va_S (zA B 80) H0 H1 locs1 → W p l e R s m args below meth c H1 locs1 cells slots Q (F0 m (pc + 3) ls rest)) : W p l e R s m args below meth c H locs cells slots Q (F0 m pc ls (.int (iZ ct1) :: .ref (B + 72) :: rest)) := by
  refine va_put (D := E.1) (cl := zCl) (ci := 2) (C := "WholeDesk$Draft") (T := TD) (N := 3) (ty := .int) (fs := [.int (iZ ct), .ref (B + 73), .ref (B + 74)]) hx hb ht inD tyD tyD_ok nmD hown hK hZ.1 (zB_DA B 80 _) hS 72 (by rw [zB_at (by decide), zO_o lq_72 lq_72p, zd_72]; rfl) rfl 0 (by decide) (ht _ hl) (fun _ h9 => h9) rfl (by decide +kernel) rfl rfl (Nat.le_of_ble_eq_true rfl) hd fun H1 locs1 hP hD hS1 => ?_
  refine kk H1 locs1 ⟨?_, hZ.2⟩ hS1
  rw [zB_set (by decide), zO_upo lq_72 lq_72p] at hP
  rw [← zd_up1 E B o ct]
  exact hP
theorem zg_put_start (hx : p.tables.exec = Jvm.exec) (hb : c.code = cc) (ht : ∀ w ∈ zt, w.before args s = true) (hown : s.vm.findClass own = some m.cls) (hK : zK E s) (hZ : zD E B v (zg E B o st f) H) (hS : va_S (zA B 80) H0 H locs) {ct1 : Nat} (hl : Cond.fieldLink own index "WholeDesk$Writing" "start" "I" ∈ zt) (hd : decode cc pc = .ok (.putfield index, 3))
    (kk : ∀ (H1 : Heap) (locs1 : List Loc), zD E B v (zg E B o ct1 f) H1 → va_S (zA B 80) H0 H1 locs1 → W p l e R s m args below meth c H1 locs1 cells slots Q (F0 m (pc + 3) ls rest)) : W p l e R s m args below meth c H locs cells slots Q (F0 m pc ls (.int (iZ ct1) :: .ref (B + 76) :: rest)) := by
  refine va_put (D := E.1) (cl := zCl) (ci := 3) (C := "WholeDesk$Writing") (T := TG) (N := 3) (ty := .int) (fs := [.ref (B + 77), .int (iZ st), .ref (B + 78)]) hx hb ht inG tyG tyG_ok nmG hown hK hZ.1 (zB_DA B 80 _) hS 76 (by rw [zB_at (by decide), zO_o lq_76 lq_76p, zg_76]; rfl) rfl 1 (by decide) (ht _ hl) (fun _ h9 => h9) rfl (by decide +kernel) rfl rfl (Nat.le_of_ble_eq_true rfl) hd fun H1 locs1 hP hD hS1 => ?_
  refine kk H1 locs1 ⟨?_, hZ.2⟩ hS1
  rw [zB_set (by decide), zO_upo lq_76 lq_76p] at hP
  rw [← zg_up1 E B o st]
  exact hP
theorem zd_ld (hx : p.tables.exec = Jvm.exec) (hb : c.code = cc) (hK : zK E s) (hZ : zD E B v (zd E B o ct f) H) {i : Nat} (hi : i < 2100) (hd : decode cc pc = .ok (.baload, 1))
    (kk : W p l e R s m args below meth c H locs cells slots Q (F0 m (pc + 1) ls (.int (iZ (sb (f i))) :: rest))) : W p l e R s m args below meth c H locs cells slots Q (F0 m pc ls (.int (iZ i) :: .ref (B + 73) :: rest)) := by
  refine va_bald (D := E.1) (cl := zCl) (cA := E.2.2.1) (n := 2100) (f := fun i => iZ (sb (f i))) hx hb hK hZ.1 73 1 (by rw [zB_at (by decide), zO_o lq_73 lq_73p, zd_73]; rfl) rfl (iZ_in ⟨by omega, by omega⟩ (by omega) (by omega)) hd ?_
  rw [iZ_clamp ⟨by omega, by omega⟩, Int.toNat_natCast]
  exact kk
theorem zd_st (hx : p.tables.exec = Jvm.exec) (hb : c.code = cc) (hK : zK E s) (hZ : zD E B v (zd E B o ct f) H) (hS : va_S (zA B 80) H0 H locs) {i x : Nat} (hi : i < 2100) (hxx : x < 256) (hd : decode cc pc = .ok (.bastore, 1))
    (kk : ∀ (H1 : Heap) (locs1 : List Loc), zD E B v (zd E B o ct (va_up f i x)) H1 → va_S (zA B 80) H0 H1 locs1 → W p l e R s m args below meth c H1 locs1 cells slots Q (F0 m (pc + 1) ls rest)) : W p l e R s m args below meth c H locs cells slots Q (F0 m pc ls (.int (iZ (sb x)) :: .int (iZ i) :: .ref (B + 73) :: rest)) := by
  refine va_bast (D := E.1) (cl := zCl) (cA := E.2.2.1) (n := 2100) (f := fun i => iZ (sb (f i))) hx hb hK hZ.1 (zB_DA B 80 _) hS 73 1 (by rw [zB_at (by decide), zO_o lq_73 lq_73p, zd_73]; rfl) rfl (iZ_in ⟨by omega, by omega⟩ (by omega) (by omega)) hd fun H1 locs1 hP hD hS1 => ?_
  refine kk H1 locs1 ⟨?_, hZ.2⟩ hS1
  rw [iZ_clamp ⟨by omega, by omega⟩, Int.toNat_natCast, upd_sb f i x hxx, zB_set (by decide), zO_upo lq_73 lq_73p] at hP
  rw [← zd_up2 E B o ct f]
  exact hP
theorem zg_ld (hx : p.tables.exec = Jvm.exec) (hb : c.code = cc) (hK : zK E s) (hZ : zD E B v (zg E B o st f) H) {i : Nat} (hi : i < 2049) (hd : decode cc pc = .ok (.baload, 1))
    (kk : W p l e R s m args below meth c H locs cells slots Q (F0 m (pc + 1) ls (.int (iZ (sb (f i))) :: rest))) : W p l e R s m args below meth c H locs cells slots Q (F0 m pc ls (.int (iZ i) :: .ref (B + 77) :: rest)) := by
  refine va_bald (D := E.1) (cl := zCl) (cA := E.2.2.1) (n := 2049) (f := fun i => iZ (sb (f i))) hx hb hK hZ.1 77 1 (by rw [zB_at (by decide), zO_o lq_77 lq_77p, zg_77]; rfl) rfl (iZ_in ⟨by omega, by omega⟩ (by omega) (by omega)) hd ?_
  rw [iZ_clamp ⟨by omega, by omega⟩, Int.toNat_natCast]
  exact kk
theorem zg_st (hx : p.tables.exec = Jvm.exec) (hb : c.code = cc) (hK : zK E s) (hZ : zD E B v (zg E B o st f) H) (hS : va_S (zA B 80) H0 H locs) {i x : Nat} (hi : i < 2049) (hxx : x < 256) (hd : decode cc pc = .ok (.bastore, 1))
    (kk : ∀ (H1 : Heap) (locs1 : List Loc), zD E B v (zg E B o st (va_up f i x)) H1 → va_S (zA B 80) H0 H1 locs1 → W p l e R s m args below meth c H1 locs1 cells slots Q (F0 m (pc + 1) ls rest)) : W p l e R s m args below meth c H locs cells slots Q (F0 m pc ls (.int (iZ (sb x)) :: .int (iZ i) :: .ref (B + 77) :: rest)) := by
  refine va_bast (D := E.1) (cl := zCl) (cA := E.2.2.1) (n := 2049) (f := fun i => iZ (sb (f i))) hx hb hK hZ.1 (zB_DA B 80 _) hS 77 1 (by rw [zB_at (by decide), zO_o lq_77 lq_77p, zg_77]; rfl) rfl (iZ_in ⟨by omega, by omega⟩ (by omega) (by omega)) hd fun H1 locs1 hP hD hS1 => ?_
  refine kk H1 locs1 ⟨?_, hZ.2⟩ hS1
  rw [iZ_clamp ⟨by omega, by omega⟩, Int.toNat_natCast, upd_sb f i x hxx, zB_set (by decide), zO_upo lq_77 lq_77p] at hP
  rw [← zg_up2 E B o st f]
  exact hP
end ZDR
theorem zd_recv {E : zE} {B : Nat} {v : Nat → zV} {o : Nat → va_E} {ct : Nat} {f : Nat → Nat} {H : Heap} {s : State} (hK : zK E s) (hZ : zD E B v (zd E B o ct f) H) : ∃ cellB : Cell, H[B + 72]? = some cellB ∧ cellB.vm.isStatics = false ∧ s.vm.findClass "WholeDesk$Draft" = some cellB.cls :=
  va_recv (q := ("WholeDesk$Draft", TD, 3)) hK hZ.1 (ci := 2) (q0 := 72) rfl (by rw [zB_at (by decide), zO_o lq_72 lq_72p, zd_72]; rfl)
theorem zg_recv {E : zE} {B : Nat} {v : Nat → zV} {o : Nat → va_E} {ct : Nat} {f : Nat → Nat} {H : Heap} {s : State} (hK : zK E s) (hZ : zD E B v (zg E B o ct f) H) : ∃ cellB : Cell, H[B + 76]? = some cellB ∧ cellB.vm.isStatics = false ∧ s.vm.findClass "WholeDesk$Writing" = some cellB.cls :=
  va_recv (q := ("WholeDesk$Writing", TG, 3)) hK hZ.1 (ci := 3) (q0 := 76) rfl (by rw [zB_at (by decide), zO_o lq_76 lq_76p, zg_76]; rfl)
theorem zs_recv {E : zE} {B : Nat} {v : Nat → zV} {an sp ct st : Nat} {f g : Nat → Nat} {H : Heap} {s : State} (hK : zK E s) (hZ : zD E B v (zF E B an sp ct f st g) H) : ∃ cellB : Cell, H[B + 0]? = some cellB ∧ cellB.vm.isStatics = false ∧ s.vm.findClass "WholeDesk" = some cellB.cls :=
  va_recv (q := ("WholeDesk", TS, 4)) hK hZ.1 (ci := 4) (q0 := 0) rfl (by rw [zB_at (by decide), zO_o lq_0 lq_0p, zF_s (by decide)]; rfl)
