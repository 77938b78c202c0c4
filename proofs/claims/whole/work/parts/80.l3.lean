def R_law : String := "WholeDeskLaw"
def lw_P (b : Addr) (xs : List Int32) (args : Array Value) (s : State) : Prop := args = #[.ref b] ∧ s.IntsAt b xs ∧ xs.length ≤ 2560 ∧ (Jvm.Cond.and given_1 narrow_1).before args s = true
def lw_Q (_ : Array Value) (s : State) (o : Outcome) (t : State) : Prop := o = .returned (some (.int 1)) ∧ Framed s o t [] 601024 7293034
def lw_Z (below : List Frame) (a : Array Value) (s : State) : State → Prop := fun t => ∃ o, t.status = .running ∧ Ended t below o ∧ lw_Q a s o t
/-- the law's own end, with 1 on the stack, nothing written that was there before, its room as the claim has it -/
theorem lw_ret {p : Program} {l : Launch} {e : Env} {s : State} {m : MethodId} {below : List Frame} {meth : Method} {c : Code} {b : Nat} (hx : p.tables.exec = Jvm.exec) (hb : c.code = code) (hr : meth.sig.returnType = ret) (hlocks : meth.locks = false) {pc : Nat} {H : Heap} {ls : Array Slot} (hdg : decode code pc = .ok (.ireturn, 1)) : W p l e room_1 s m #[Value.ref b] below meth c H [] 601024 7293034 (lw_Z below #[Value.ref b] s) (F0 m pc ls [.int 1]) := by
  intro T hT X
  obtain ⟨fs, hret, hrun, hended, hW, hframe⟩ := X.leave (v := some (.int 1)) (hlocks := hlocks) (fun h => by rw [hr] at h; cases h)
  have hmeth' : T.vm.method? m = some meth := X.method'
  refine ⟨T.setFrames fs, ?_, .returned (some (.int 1)), hrun, hended, rfl, ⟨_, rfl⟩, hW, hframe⟩
  jvm_step X.here [X.here.top, hx, hb, hdg, hmeth', hr, ret, narrow_b1]
  (try refine ⟨rfl, ?_⟩); (try refine ⟨rfl, ?_⟩)
  first | (intro acts; rw [hret _ acts rfl rfl rfl]) | rw [hret _ _ rfl rfl rfl]
  exact Steps.refl _
/-- what holds at the law's entry: the machine, the code, the tables' words (any of lw_tbl by 'hts w (by decide +kernel)'), the script of L ints xs at the cell b, what the Statement gives of the start (any of its parts by flat_of_before) -/
def lw_At (p : Program) (s : State) (m : MethodId) (meth : Method) (c : Code) (b L : Nat) (xs : Nat → Int32) : Prop :=
  p.tables.exec = Jvm.exec ∧ c.code = code ∧ meth.sig.returnType = ret ∧ c.maxLocals = 8 ∧ s.vm.findClass R_law = some m.cls ∧ (∀ w ∈ lw_tbl, w.before #[Value.ref b] s = true) ∧ va_X b L xs s s.heap ∧ b < s.heap.size ∧ meth.locks = false ∧ (Jvm.Cond.and given_1 narrow_1).before #[Value.ref b] s = true
theorem mM_thr (l : Launch) (E : zE) (B : Nat) (σ : zS) (t : Nat) :
    Met l yM_thrown (zws yM_thrown cM_thrown 1 (some .int)) { frames := 0, cells := 0, slots := 0, locals := 0 } (zPc E (zQM E B σ t) [.ref (B)]) (va_Qi (fun (r : Int32) (_ : Unit) => r = iZ ↑t) (fun _ U => zQM E B σ t U.heap ∧ zK E U) (zA B 15)) 0 0 (zA B 15) := by
  refine zof_i (P' := fun (_ : Unit) H => zQM E B σ t H) (by decide) (Nat.le_of_ble_eq_true rfl) fun p e R s m args below meth c Q ls hR hx hb hml ht hown hK hZ hl hend => ?_
  have hS : va_S (zA B 15) s.heap s.heap [] := va_S.rf
  have hown : s.vm.findClass "WholeDeskModel" = some m.cls := hown
  have hl : lv_has ls 1 [(0, .ref (B))] := hl
  have hZ0 := hZ
  obtain ⟨h1, w, ⟨th, fa, le, be, fb, sb9, pr⟩, hZ, h4, h5⟩ := hZ
  have h5 : th = t := h5
  subst h5
  refine lv_aload_n hx hb dM_thrown_0 rfl (lv_at hl 0 rfl) ?_
  refine zm_thrown hx hb ht hown hK hZ tw_677 dM_thrown_1 ?_
  refine zc_i (y := iZ (↑th)) rfl ?_
  exact hend 4 _ () _ _ _ dM_thrown_4 rfl hZ0 hS
theorem lw_arg {p : Program} {l : Launch} {e : Env} {R : Room} {s : State} {m : MethodId} {args : Array Value} {below : List Frame} {meth : Method} {c : Code} {H : Heap} {locs : List Loc} {cells slots : Nat} {Q : State → Prop} {cc : ByteArray} {pc : Nat} {ls : Array Slot} {rest : List Value} {A : Nat → Prop} {H0 : Heap} {b L j : Nat} {xs : Nat → Int32} {x : Int} (k : Nat) (hxx : (xs (5 * j + k)).toInt = x) (hk : k < 5) (hx : p.tables.exec = Jvm.exec) (hb : c.code = cc) (hX : va_X b L xs s H0) (hbl : b < H0.size) (hbA : ¬ A b) (hS : va_S A H0 H locs) (hj : 5 * j + 5 ≤ L) (hL : L ≤ 2000000000) (h0 : ls[0]? = some (.val (.ref b))) (h4 : ls[4]? = some (.val (.int (iZ ((5 * j : Nat) : Int))))) (d0 : decode cc pc = .ok (.aload_n 0, 1)) (d1 : decode cc (pc + 1) = .ok (.iload 4, 2)) (d2 : decode cc (pc + 3) = .ok (.iconst (k : Int), 1)) (d3 : decode cc (pc + 4) = .ok (.iadd, 1)) (d4 : decode cc (pc + 5) = .ok (.iaload, 1))
    (kk : W p l e R s m args below meth c H locs cells slots Q (F0 m (pc + 6) ls (.int (iZ x) :: rest))) : W p l e R s m args below meth c H locs cells slots Q (F0 m pc ls rest) := by
  have hz : zi (((5 * j : Nat) : Int) + (k : Int)) := ⟨by omega, by omega⟩
  refine lv_aload_n hx hb d0 rfl h0 ?_
  refine lv_iload hx hb d1 h4 ?_
  refine lv_iconst (v := iZ (k : Int)) hx hb d2 rfl ?_
  refine zr_iadd hx hb d3 ?_
  refine va_sld hx hb hX hbl hbA hS (iZ_in hz (by omega) (by omega)) d4 ?_
  have e1 : xs (iZ (((5 * j : Nat) : Int) + (k : Int))).toNatClampNeg = iZ x := by
    rw [iZ_clamp hz, ← hxx, show (((5 * j : Nat) : Int) + (k : Int)).toNat = 5 * j + k by omega]
    exact iZ_of _
  rw [e1]
  exact kk
theorem lw_bool {p : Program} {l : Launch} {e : Env} {R : Room} {s : State} {m : MethodId} {args : Array Value} {below : List Frame} {meth : Method} {c : Code} {H : Heap} {locs : List Loc} {cells slots : Nat} {Q : State → Prop} {cc : ByteArray} {pc : Nat} {ls : Array Slot} {rest : List Value} {x : Int} (less : Bool) (hless : less = decide (x ≠ 0)) (hx : p.tables.exec = Jvm.exec) (hb : c.code = cc) (hz : zi x) (d0 : decode cc pc = .ok (.ifCond .eq 7, 3)) (d1 : decode cc (pc + 3) = .ok (.iconst 1, 1)) (d2 : decode cc (pc + 4) = .ok (.goto 4, 3)) (d3 : decode cc (pc + 7) = .ok (.iconst 0, 1))
    (kk : W p l e R s m args below meth c H locs cells slots Q (F0 m (pc + 8) ls (.int (iZ (bZ less)) :: rest))) : W p l e R s m args below meth c H locs cells slots Q (F0 m pc ls (.int (iZ x) :: rest)) := by
  refine zr_if_eq (tgt := pc + 7) hx hb hz d0 (by omega) (fun h => ?_) (fun h => ?_)
  · refine lv_iconst (v := iZ 0) hx hb d3 rfl ?_
    have h9 : less = false := hless.trans (decide_eq_false (fun h8 => h8 h))
    rw [h9] at kk
    exact kk
  · refine lv_iconst (v := iZ 1) hx hb d1 rfl ?_
    refine lv_goto (tgt := pc + 8) hx hb d2 (by omega) ?_
    have h9 : less = true := hless.trans (decide_eq_true h)
    rw [h9] at kk
    exact kk
/-- the long that the law makes of two ints -/
def lwL (a b : Int) : Int := (lZ (a * 4294967296) ||| lZ (b % 4294967296)).toInt
theorem lwL_z (a b : Int) : zl (lwL a b) := ⟨by have := (lZ (a * 4294967296) ||| lZ (b % 4294967296)).le_toInt; unfold lwL; omega, by have := (lZ (a * 4294967296) ||| lZ (b % 4294967296)).toInt_lt; unfold lwL; omega⟩
theorem lwL_of (a b : Int) : (lZ (a * 4294967296) ||| lZ (b % 4294967296)) = lZ (lwL a b) := lZ_of _
theorem lw_old {p : Program} {l : Launch} {e : Env} {R : Room} {s : State} {m : MethodId} {args : Array Value} {below : List Frame} {meth : Method} {c : Code} {H : Heap} {locs : List Loc} {cells slots : Nat} {Q : State → Prop} {cc : ByteArray} {pc : Nat} {ls : Array Slot} {rest : List Value} {E : zE} {qo : Nat} {v : Int64} (hx : p.tables.exec = Jvm.exec) (hb : c.code = cc) (hK : zK E s) (ho : zOc E qo v H) (hdg : decode cc pc = .ok (.laload, 1))
    (kk : W p l e R s m args below meth c H locs cells slots Q (F0 m (pc + 1) ls (.long v :: rest))) : W p l e R s m args below meth c H locs cells slots Q (F0 m pc ls (.int (iZ 0) :: .ref qo :: rest)) :=
  W.lald (v := .long v) hx hb ho ((hK.2 0 (E.2.1, .long) rfl).1 1 (fun _ => .long v)) (fun q => by cases q) (by show ¬ (iZ 0 < 0 ∨ (arrV _ _ _).slots.size ≤ _); rw [arrV_size]; exact (by decide : ¬ (iZ 0 < 0 ∨ 1 ≤ (iZ 0).toNatClampNeg))) (by show (arrV _ _ _).slots[_]? = _; rw [arrV_read _ _ (by decide : (iZ 0).toNatClampNeg < 1)]) rfl rfl hdg kk
theorem SP_k {good f2 f3 : Prop} {res : zS → Prop} {σ σ1 : zS} {k : Nat} (h : SP good f2 f3 res σ k σ1) : k ≤ 3 := by
  rcases h with h | h | h | h <;> rw [h.1] <;> decide
theorem lw_tc0 {k : Nat} (hk : k ≤ 3) (h : iZ ((tc k : Nat) : Int) = 0) : k = 0 := by
  have h9 : k = 0 ∨ k = 1 ∨ k = 2 ∨ k = 3 := by omega
  rcases h9 with rfl | rfl | rfl | rfl
  · rfl
  · exact absurd h (by decide +kernel)
  · exact absurd h (by decide +kernel)
  · exact absurd h (by decide +kernel)
theorem tld_uniq {x what : Int} {r q : Int64} (h0 : 0 ≤ what) (h4 : what ≤ 4) (h : tld x what r) (h2 : tld x what q) : r = q := by
  have h9 : what = 0 ∨ what = 1 ∨ what = 2 ∨ what = 3 ∨ what = 4 := by omega
  obtain ⟨a0, a1, a2, a3, a4⟩ := h
  obtain ⟨b0, b1, b2, b3, b4⟩ := h2
  rcases h9 with h9 | h9 | h9 | h9 | h9
  · rw [a0 h9, b0 h9]
  · rw [a1 h9, b1 h9]
  · obtain ⟨u, h1, h2⟩ := a2 h9
    obtain ⟨v, h3, h4⟩ := b2 h9
    rw [h2, h4, bl_uniq h1 h3]
  · rw [a3 h9, b3 h9]
  · by_cases hx : x = 0
    · rw [(a4 h9).1 hx, (b4 h9).1 hx]
    · obtain ⟨u, h1, h2⟩ := (a4 h9).2 hx
      obtain ⟨v, h3, h4⟩ := (b4 h9).2 hx
      rw [h2, h4, lo1_uniq h1 h3]
theorem lwA80 {B : Nat} : ∀ q, zA B 80 q → zGA B q := fun _ h => h.1
theorem lwA15 {B : Nat} : ∀ q, zA (B + 80) 15 q → zGA B q := fun _ h => Nat.le_trans (Nat.le_add_right _ _) h.1
theorem lwAo {B : Nat} : ∀ q, zAo B (B + 95) q → zGA B q := fun q h => h.elim (fun h => h.1) (fun h => by show B ≤ q; omega)
theorem lw_kM {E : zE} {B : Nat} {σ : zS} {t : Nat} {H H1 : Heap} (h : zQM E (B + 80) σ t H) (hk : ∀ q : Nat, q < H.size → ¬ zA B 80 q → H1[q]? = H[q]?) : zQM E (B + 80) σ t H1 := h.kept fun q hq => hk q (Nat.lt_of_lt_of_le hq.2 h.lt) (fun h9 => absurd h9.2 (Nat.not_lt.mpr hq.1))
theorem lw_kMo {E : zE} {B : Nat} {σ : zS} {t : Nat} {H H1 : Heap} (h : zQM E (B + 80) σ t H) (hk : ∀ q : Nat, q < H.size → ¬ zAo B (B + 95) q → H1[q]? = H[q]?) : zQM E (B + 80) σ t H1 := h.kept fun q hq => hk q (Nat.lt_of_lt_of_le hq.2 h.lt) (fun h9 => h9.elim (fun h9 => absurd h9.2 (Nat.not_lt.mpr hq.1)) (fun h9 => by have h8 : q < B + 80 + 15 := hq.2; omega))
theorem lw_kO {E : zE} {B : Nat} {v : Int64} {H H1 : Heap} (h : zOc E (B + 95) v H) (hk : ∀ q : Nat, q < H.size → ¬ zA B 80 q → H1[q]? = H[q]?) : zOc E (B + 95) v H1 := by
  unfold zOc
  rw [hk _ h.lt (fun h9 => by have h8 : B + 95 < B + 80 := h9.2; omega)]
  exact h
theorem lw_kO2 {E : zE} {B : Nat} {v : Int64} {H H1 : Heap} (h : zOc E (B + 95) v H) (hk : ∀ q : Nat, q < H.size → ¬ zA (B + 80) 15 q → H1[q]? = H[q]?) : zOc E (B + 95) v H1 := by
  unfold zOc
  rw [hk _ h.lt (fun h9 => by have h8 : B + 95 < B + 80 + 15 := h9.2; omega)]
  exact h
theorem lw_kQ {E : zE} {B : Nat} {σ : zS} {H H1 : Heap} (h : zQ E B σ H) (hk : ∀ q : Nat, q < H.size → ¬ zA (B + 80) 15 q → H1[q]? = H[q]?) : zQ E B σ H1 := h.kept fun q hq => hk q (Nat.lt_of_lt_of_le hq.2 h.lt) (fun h9 => by have h8 : B + 80 ≤ q := h9.1; have h7 : q < B + 80 := hq.2; omega)
/-- what holds all through the law -/
def lwC (p : Program) (s : State) (m : MethodId) (meth : Method) (c : Code) (b L : Nat) (xs : Nat → Int32) (E : zE) (B : Nat) : Prop := lw_At p s m meth c b L xs ∧ L ≤ 2560 ∧ zK E s ∧ zH (zGA B) s s.heap ∧ zNc s ∧ s.heap.size = B
/-- the law's world between two calls: the class and the reference in the same state -/
def lwS (s : State) (b : Nat) (E : zE) (B j : Nat) (σ : zS) (t : Nat) (v : Int64) (H : Heap) (locs : List Loc) (ls : Array Slot) : Prop := zQ E B σ H ∧ zQM E (B + 80) σ t H ∧ zOc E (B + 95) v H ∧ va_S (zGA B) s.heap H locs ∧ lv_has ls 8 [(4, .int (iZ ((5 * j : Nat) : Int))), (3, .ref (B + 95)), (2, .ref (B + 80)), (1, .ref B), (0, .ref b)]
def lwN (p : Program) (l : Launch) (e : Env) (s : State) (m : MethodId) (below : List Frame) (meth : Method) (c : Code) (b : Nat) (E : zE) (B : Nat) (Q : State → Prop) (j : Nat) : Prop := ∀ (σ : zS) (t : Nat) (v : Int64) (H : Heap) (locs : List Loc) (ls : Array Slot), lwS s b E B j σ t v H locs ls → W p l e room_1 s m #[Value.ref b] below meth c H locs (96 + 8 * (j + 1)) (18190 + 48 * (j + 1)) Q (F0 m 1394 ls [])
theorem lw_d1 {ls : Array Slot} {n : Nat} {x : Nat × Value} {lv : List (Nat × Value)} (h : lv_has ls n (x :: lv)) : lv_has ls n lv := ⟨h.1, h.2.1, fun q hq => h.2.2 q (List.mem_cons_of_mem _ hq)⟩
theorem lw_room {j L : Nat} (hL : L ≤ 2560) (hj : 5 * j + 5 ≤ L) : 96 + 8 * j + 8 ≤ room_1.cells ∧ 18190 + 48 * j + 48 ≤ room_1.slots := by
  show 96 + 8 * j + 8 ≤ 601024 ∧ 18190 + 48 * j + 48 ≤ 7293034
  omega
