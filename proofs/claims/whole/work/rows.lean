section
-- ===== PART A: goes FIRST, ahead of the names: the tables' words, and 'selects' of the private methods out of them =====
/-- a private method of a class that the tables say can be made, by its rows of tables_1 -/
def lw_okq (q : MethodName × Nat) : Prop := (q.1.cls ≠ "java/lang/invoke/MethodHandle" ∧ q.1.cls ≠ "java/lang/invoke/VarHandle") ∧ Cond.instantiable q.1.cls q.2 ∈ tables_1 ∧ Cond.privateMethod q.1 ∈ tables_1 ∧ Cond.instanceMethod q.1 ∈ tables_1
theorem lw_p0 : lw_okq (⟨"WholeDesk$Writing", "characterAt", "(J)I"⟩, 3) := ⟨⟨by decide +kernel, by decide +kernel⟩, List.mem_of_getElem? (i := 110) (by decide +kernel), List.mem_of_getElem? (i := 153) (by decide +kernel), List.mem_of_getElem? (i := 154) (by decide +kernel)⟩
theorem lw_p1 : lw_okq (⟨"java/lang/Throwable", "fillInStackTrace", "(I)Ljava/lang/Throwable;"⟩, 6) := ⟨⟨by decide +kernel, by decide +kernel⟩, List.mem_of_getElem? (i := 203) (by decide +kernel), List.mem_of_getElem? (i := 201) (by decide +kernel), List.mem_of_getElem? (i := 202) (by decide +kernel)⟩
theorem lw_p2 : lw_okq (⟨"WholeDesk$Draft", "start", "()I"⟩, 3) := ⟨⟨by decide +kernel, by decide +kernel⟩, List.mem_of_getElem? (i := 90) (by decide +kernel), List.mem_of_getElem? (i := 257) (by decide +kernel), List.mem_of_getElem? (i := 258) (by decide +kernel)⟩
theorem lw_p3 : lw_okq (⟨"WholeDesk$Draft", "startsWith", "(C)Z"⟩, 3) := ⟨⟨by decide +kernel, by decide +kernel⟩, List.mem_of_getElem? (i := 90) (by decide +kernel), List.mem_of_getElem? (i := 261) (by decide +kernel), List.mem_of_getElem? (i := 262) (by decide +kernel)⟩
theorem lw_p4 : lw_okq (⟨"WholeDesk", "keep", "(LWholeDesk$Whole;I)V"⟩, 4) := ⟨⟨by decide +kernel, by decide +kernel⟩, List.mem_of_getElem? (i := 17) (by decide +kernel), List.mem_of_getElem? (i := 312) (by decide +kernel), List.mem_of_getElem? (i := 313) (by decide +kernel)⟩
theorem lw_p5 : lw_okq (⟨"WholeDesk$Whole", "guess", "(IIJJ)J"⟩, 3) := ⟨⟨by decide +kernel, by decide +kernel⟩, List.mem_of_getElem? (i := 26) (by decide +kernel), List.mem_of_getElem? (i := 421) (by decide +kernel), List.mem_of_getElem? (i := 422) (by decide +kernel)⟩
theorem lw_p6 : lw_okq (⟨"WholeDesk$Reckoner", "times", "(LWholeDesk$Whole;)V"⟩, 9) := ⟨⟨by decide +kernel, by decide +kernel⟩, List.mem_of_getElem? (i := 52) (by decide +kernel), List.mem_of_getElem? (i := 460) (by decide +kernel), List.mem_of_getElem? (i := 461) (by decide +kernel)⟩
theorem lw_p7 : lw_okq (⟨"WholeDesk$Reckoner", "improve", "(LWholeDesk$Whole;ILWholeDesk$Whole;LWholeDesk$Whole;)V"⟩, 9) := ⟨⟨by decide +kernel, by decide +kernel⟩, List.mem_of_getElem? (i := 52) (by decide +kernel), List.mem_of_getElem? (i := 482) (by decide +kernel), List.mem_of_getElem? (i := 483) (by decide +kernel)⟩
theorem lw_p8 : lw_okq (⟨"WholeDesk$Reckoner", "fillPowers", "(LWholeDesk$Whole;LWholeDesk$Whole;)V"⟩, 9) := ⟨⟨by decide +kernel, by decide +kernel⟩, List.mem_of_getElem? (i := 52) (by decide +kernel), List.mem_of_getElem? (i := 537) (by decide +kernel), List.mem_of_getElem? (i := 538) (by decide +kernel)⟩
theorem lw_p9 : lw_okq (⟨"WholeDesk$Reckoner", "timesModulo", "(LWholeDesk$Whole;LWholeDesk$Whole;)V"⟩, 9) := ⟨⟨by decide +kernel, by decide +kernel⟩, List.mem_of_getElem? (i := 52) (by decide +kernel), List.mem_of_getElem? (i := 541) (by decide +kernel), List.mem_of_getElem? (i := 542) (by decide +kernel)⟩
theorem lw_p10 : lw_okq (⟨"WholeDesk$Writing", "prependDigits", "(JII)V"⟩, 3) := ⟨⟨by decide +kernel, by decide +kernel⟩, List.mem_of_getElem? (i := 110) (by decide +kernel), List.mem_of_getElem? (i := 664) (by decide +kernel), List.mem_of_getElem? (i := 665) (by decide +kernel)⟩
theorem lw_p11 : lw_okq (⟨"WholeDesk$Writing", "prepend", "(C)V"⟩, 3) := ⟨⟨by decide +kernel, by decide +kernel⟩, List.mem_of_getElem? (i := 110) (by decide +kernel), List.mem_of_getElem? (i := 668) (by decide +kernel), List.mem_of_getElem? (i := 669) (by decide +kernel)⟩
theorem lw_p12 : lw_okq (⟨"WholeDeskModel", "store", "(I)V"⟩, 21) := ⟨⟨by decide +kernel, by decide +kernel⟩, List.mem_of_getElem? (i := 672) (by decide +kernel), List.mem_of_getElem? (i := 777) (by decide +kernel), List.mem_of_getElem? (i := 778) (by decide +kernel)⟩
theorem lw_p13 : lw_okq (⟨"WholeDeskModel", "take", "(I[I)V"⟩, 21) := ⟨⟨by decide +kernel, by decide +kernel⟩, List.mem_of_getElem? (i := 672) (by decide +kernel), List.mem_of_getElem? (i := 789) (by decide +kernel), List.mem_of_getElem? (i := 790) (by decide +kernel)⟩
theorem lw_p14 : lw_okq (⟨"WholeDeskModel", "sum", "([IZ[IZ)V"⟩, 21) := ⟨⟨by decide +kernel, by decide +kernel⟩, List.mem_of_getElem? (i := 672) (by decide +kernel), List.mem_of_getElem? (i := 793) (by decide +kernel), List.mem_of_getElem? (i := 794) (by decide +kernel)⟩
theorem lw_p15 : lw_okq (⟨"WholeDeskModel", "multiplyRows", "([I[I[I)V"⟩, 21) := ⟨⟨by decide +kernel, by decide +kernel⟩, List.mem_of_getElem? (i := 672) (by decide +kernel), List.mem_of_getElem? (i := 810) (by decide +kernel), List.mem_of_getElem? (i := 811) (by decide +kernel)⟩
def lw_privs_1 : List (MethodName × Nat) := [(⟨"WholeDesk$Writing", "characterAt", "(J)I"⟩, 3), (⟨"java/lang/Throwable", "fillInStackTrace", "(I)Ljava/lang/Throwable;"⟩, 6), (⟨"WholeDesk$Draft", "start", "()I"⟩, 3), (⟨"WholeDesk$Draft", "startsWith", "(C)Z"⟩, 3), (⟨"WholeDesk", "keep", "(LWholeDesk$Whole;I)V"⟩, 4), (⟨"WholeDesk$Whole", "guess", "(IIJJ)J"⟩, 3), (⟨"WholeDesk$Reckoner", "times", "(LWholeDesk$Whole;)V"⟩, 9), (⟨"WholeDesk$Reckoner", "improve", "(LWholeDesk$Whole;ILWholeDesk$Whole;LWholeDesk$Whole;)V"⟩, 9), (⟨"WholeDesk$Reckoner", "fillPowers", "(LWholeDesk$Whole;LWholeDesk$Whole;)V"⟩, 9), (⟨"WholeDesk$Reckoner", "timesModulo", "(LWholeDesk$Whole;LWholeDesk$Whole;)V"⟩, 9), (⟨"WholeDesk$Writing", "prependDigits", "(JII)V"⟩, 3), (⟨"WholeDesk$Writing", "prepend", "(C)V"⟩, 3), (⟨"WholeDeskModel", "store", "(I)V"⟩, 21), (⟨"WholeDeskModel", "take", "(I[I)V"⟩, 21), (⟨"WholeDeskModel", "sum", "([IZ[IZ)V"⟩, 21), (⟨"WholeDeskModel", "multiplyRows", "([I[I[I)V"⟩, 21)]
theorem lw_r1 : ∀ q ∈ lw_privs_1, lw_okq q := List.forall_mem_cons.mpr ⟨lw_p0, List.forall_mem_cons.mpr ⟨lw_p1, List.forall_mem_cons.mpr ⟨lw_p2, List.forall_mem_cons.mpr ⟨lw_p3, List.forall_mem_cons.mpr ⟨lw_p4, List.forall_mem_cons.mpr ⟨lw_p5, List.forall_mem_cons.mpr ⟨lw_p6, List.forall_mem_cons.mpr ⟨lw_p7, List.forall_mem_cons.mpr ⟨lw_p8, List.forall_mem_cons.mpr ⟨lw_p9, List.forall_mem_cons.mpr ⟨lw_p10, List.forall_mem_cons.mpr ⟨lw_p11, List.forall_mem_cons.mpr ⟨lw_p12, List.forall_mem_cons.mpr ⟨lw_p13, List.forall_mem_cons.mpr ⟨lw_p14, List.forall_mem_cons.mpr ⟨lw_p15, fun _ h => absurd h List.not_mem_nil⟩⟩⟩⟩⟩⟩⟩⟩⟩⟩⟩⟩⟩⟩⟩⟩
theorem lw_p16 : lw_okq (⟨"WholeDeskModel", "isZero", "(I)Z"⟩, 21) := ⟨⟨by decide +kernel, by decide +kernel⟩, List.mem_of_getElem? (i := 672) (by decide +kernel), List.mem_of_getElem? (i := 818) (by decide +kernel), List.mem_of_getElem? (i := 819) (by decide +kernel)⟩
theorem lw_p17 : lw_okq (⟨"WholeDeskModel", "divideRows", "([I[I)V"⟩, 21) := ⟨⟨by decide +kernel, by decide +kernel⟩, List.mem_of_getElem? (i := 672) (by decide +kernel), List.mem_of_getElem? (i := 822) (by decide +kernel), List.mem_of_getElem? (i := 823) (by decide +kernel)⟩
theorem lw_p18 : lw_okq (⟨"WholeDeskModel", "isAbove0", "(I)Z"⟩, 21) := ⟨⟨by decide +kernel, by decide +kernel⟩, List.mem_of_getElem? (i := 672) (by decide +kernel), List.mem_of_getElem? (i := 830) (by decide +kernel), List.mem_of_getElem? (i := 831) (by decide +kernel)⟩
theorem lw_p19 : lw_okq (⟨"WholeDeskModel", "reduce", "(I[I)V"⟩, 21) := ⟨⟨by decide +kernel, by decide +kernel⟩, List.mem_of_getElem? (i := 672) (by decide +kernel), List.mem_of_getElem? (i := 834) (by decide +kernel), List.mem_of_getElem? (i := 835) (by decide +kernel)⟩
theorem lw_p20 : lw_okq (⟨"WholeDeskModel", "setOne", "([I)V"⟩, 21) := ⟨⟨by decide +kernel, by decide +kernel⟩, List.mem_of_getElem? (i := 672) (by decide +kernel), List.mem_of_getElem? (i := 842) (by decide +kernel), List.mem_of_getElem? (i := 843) (by decide +kernel)⟩
theorem lw_p21 : lw_okq (⟨"WholeDeskModel", "fits", "(I)Z"⟩, 21) := ⟨⟨by decide +kernel, by decide +kernel⟩, List.mem_of_getElem? (i := 672) (by decide +kernel), List.mem_of_getElem? (i := 850) (by decide +kernel), List.mem_of_getElem? (i := 851) (by decide +kernel)⟩
theorem lw_p22 : lw_okq (⟨"WholeDeskModel", "inverts", "()Z"⟩, 21) := ⟨⟨by decide +kernel, by decide +kernel⟩, List.mem_of_getElem? (i := 672) (by decide +kernel), List.mem_of_getElem? (i := 862) (by decide +kernel), List.mem_of_getElem? (i := 863) (by decide +kernel)⟩
theorem lw_p23 : lw_okq (⟨"WholeDeskModel", "limb", "(II)I"⟩, 21) := ⟨⟨by decide +kernel, by decide +kernel⟩, List.mem_of_getElem? (i := 672) (by decide +kernel), List.mem_of_getElem? (i := 874) (by decide +kernel), List.mem_of_getElem? (i := 875) (by decide +kernel)⟩
def lw_privs_2 : List (MethodName × Nat) := [(⟨"WholeDeskModel", "isZero", "(I)Z"⟩, 21), (⟨"WholeDeskModel", "divideRows", "([I[I)V"⟩, 21), (⟨"WholeDeskModel", "isAbove0", "(I)Z"⟩, 21), (⟨"WholeDeskModel", "reduce", "(I[I)V"⟩, 21), (⟨"WholeDeskModel", "setOne", "([I)V"⟩, 21), (⟨"WholeDeskModel", "fits", "(I)Z"⟩, 21), (⟨"WholeDeskModel", "inverts", "()Z"⟩, 21), (⟨"WholeDeskModel", "limb", "(II)I"⟩, 21)]
theorem lw_r2 : ∀ q ∈ lw_privs_2, lw_okq q := List.forall_mem_cons.mpr ⟨lw_p16, List.forall_mem_cons.mpr ⟨lw_p17, List.forall_mem_cons.mpr ⟨lw_p18, List.forall_mem_cons.mpr ⟨lw_p19, List.forall_mem_cons.mpr ⟨lw_p20, List.forall_mem_cons.mpr ⟨lw_p21, List.forall_mem_cons.mpr ⟨lw_p22, List.forall_mem_cons.mpr ⟨lw_p23, fun _ h => absurd h List.not_mem_nil⟩⟩⟩⟩⟩⟩⟩⟩
def lw_privs : List (MethodName × Nat) := lw_privs_1 ++ (lw_privs_2)
def lw_tbl : List Cond := k2_sels lw_privs ++ tables_1
theorem lw_privs_ok : ∀ q ∈ lw_privs, lw_okq q := by
  show ∀ q ∈ lw_privs_1 ++ (lw_privs_2), lw_okq q
  exact List.forall_mem_append.mpr ⟨lw_r1, lw_r2⟩

/-! ===== BEGIN words of one list among another's, by their places ===== -/
theorem goodIn_r {big : List Cond} (ws : List Cond) (ps : List Nat) (hp : ws = ps.filterMap (fun i => big[i]?)) (h : ws.all goodWord = true) : GoodIn big ws := by
  intro w hw
  have h1 := List.all_eq_true.mp h w hw
  rw [hp] at hw
  obtain ⟨i, -, hi⟩ := List.mem_filterMap.mp hw
  have hm : w ∈ big := by first | exact List.mem_of_getElem? hi | exact List.getElem?_mem hi
  exact ⟨hm, good_of_word h1⟩
theorem goodIn_app {big a b : List Cond} (ha : GoodIn big a) (hb : GoodIn big b) : GoodIn big (a ++ b) := fun w h => (List.mem_append.mp h).elim (ha w) (hb w)
theorem goodIn_ca {big a b : List Cond} {c : Cond} (ha : GoodIn big (c :: a)) (hb : GoodIn big b) : GoodIn big (c :: (a ++ b)) := fun w h => (List.mem_cons.mp h).elim (fun e => ha w (List.mem_cons.mpr (Or.inl e))) (fun h => (List.mem_append.mp h).elim (fun h => ha w (List.mem_cons.mpr (Or.inr h))) (hb w))
theorem goodIn_sub {big ws : List Cond} (hm : ∀ w ∈ ws, w ∈ big) (h : ws.all goodWord = true) : GoodIn big ws := fun w hw => ⟨hm w hw, good_of_word (List.all_eq_true.mp h w hw)⟩
/-! ===== END ===== -/

/-! ===== BEGIN exceptions that leave a method, and their catching by the caller (launches without stack traces) ===== -/
section VXA
/-! The laws vx_back, vx_callV, vx_callS, vx_callSW, vx_throw0, vx_throwS follow proofs of the library, with one case more: JvmDerived/Free/Laws.lean (Back.of_free), Shelf42/LK1.lean (callV, callS), Shelf/KitTraced.lean (throwNew0V, throwNewS). -/
/-- where a method has thrown q: the class by its name, the cell, what was written, the world -/
def vx_T (XC : String → State → State → Prop) (st : State) (q : Addr) (t : State) (mc ms : Nat) (free : Addr → Prop) : Prop :=
  ∃ (E : String) (ce : Cell) (L : List Loc), XC E st t ∧ t.heap[q]? = some ce ∧ ce.vm = .none ∧ st.vm.findClass E = some ce.cls ∧ st.WarmedH t.vm ∧ st.sameButNew ({ t with vm := st.vm } : State) L mc ms ∧ ∀ z ∈ L, free z.base
def vx_Q (Qc : Array Value → State → Outcome → State → Prop) (XC : String → State → State → Prop) (mc ms : Nat) (free : Addr → Prop) : Array Value → State → Outcome → State → Prop := fun a st o t =>
  (Qc a st o t ∧ ∃ L, FrameEnd st o t L mc ms ∧ ∀ q ∈ L, free q.base) ∨ ∃ q, o = .threw q ∧ vx_T XC st q t mc ms free
/-- a callee that returns or throws -/
def vx_Met (l : Launch) (y : MethodName) (ws : List Cond) (rm : Room) (Pc : Array Value → State → Prop) (Qc : Array Value → State → Outcome → State → Prop) (XC : String → State → State → Prop) (mc ms : Nat) (free : Addr → Prop) : Prop :=
  MetFree l y (headSpec ws rm) Pc (fun _ _ _ _ _ => True) (vx_Q Qc XC mc ms free)
def vx_Post (XC : String → State → State → Prop) (mc ms : Nat) (free : Addr → Prop) : Pt → Array Value → Addr → Pt → Prop := fun A a q B =>
  ∃ (g : JFrame) (mk : MethodId) (t : State) (L : List Loc) (E : String) (ce : Cell), B.U.heap = t.heap ∧ B.U.vm = t.vm ∧ XC E (A.U.calling g mk a) t ∧ t.heap[q]? = some ce ∧ ce.vm = .none ∧ A.U.vm.findClass E = some ce.cls ∧ B.locs = A.locs ++ L ∧ (∀ z ∈ L, free z.base) ∧ B.cells = A.cells + mc ∧ B.slots = A.slots + ms
def vx_Back (l : Launch) (R : Room) (p : Program) (e : Env) (below : List Frame) (s : State) (sargs : Array Value) (y : MethodName) (len W9 : Nat)
    (Pre : Pt → Array Value → Prop) (Post : Pt → Array Value → Option Value → Pt → Prop) (PostX : Pt → Array Value → Addr → Pt → Prop) : Prop :=
  ∀ (m : MethodId) (meth : Method) (c : Code) (A : Pt) (g : JFrame) (ig : Instr) (mk : MethodId) (a : Array Value),
    Stand p l e R s m sargs below meth c A.U A.locs A.cells A.slots → g.method = m → g.locals.size = c.maxLocals → decode c.code g.pc = .ok (ig, len) →
    2 * g.monitorRoom + (g.stack.map fun v => v.category).sum ≤ W9 → A.U.methodNamed? y = some mk → Pre A a →
    (∃ (v : Option Value) (B : Pt), Stand p l e R s m sargs below meth c B.U B.locs B.cells B.slots ∧ Post A a v B ∧
      Steps p.tables e below (doInvoke e (A.U.setTop g) [] mk a).1 (B.U.setTop { g with pc := g.pc + len, stack := v.toList ++ g.stack })) ∨
    (∃ (q : Addr) (B : Pt), Stand p l e R s m sargs below meth c B.U B.locs B.cells B.slots ∧ PostX A a q B ∧
      Steps p.tables e below (doInvoke e (A.U.setTop g) [] mk a).1 ((B.U.setTop g).pushFrame (.throwing q)))
section Payer
variable {l : Launch} {R : Room} {p : Program} {e : Env} {below : List Frame} {s : State} {sargs : Array Value} {y : MethodName} {len W9 : Nat}
theorem vx_back {ws : List Cond} {rm : Room} {Pc : Array Value → State → Prop} {Qc : Array Value → State → Outcome → State → Prop} {XC : String → State → State → Prop} {mc ms : Nat} {free : Addr → Prop} {bytes : ByteArray} {maxL : Nat} {ret : Option FieldType}
    (hM : vx_Met l y ws rm Pc Qc XC mc ms free) (hblind : FrameBlind Pc) (hrc : rm.cells = mc) (hrs : rm.slots = ms)
    (hframes : rm.frames + 1 ≤ R.frames) (hlocals : W9 + (maxL + 11) + rm.locals ≤ R.locals)
    (hws : ∀ w ∈ ws, ∀ a' U, s.WarmedH U.vm → w.before a' U = true) (hcode : Cond.code y bytes maxL ret ∈ ws) (hinit : ∀ a' U, s.WarmedH U.vm → (Cond.initialized y.cls).before a' U = true) :
    vx_Back l R p e below s sargs y len W9 (PreOf R mc ms Pc) (PostOf Qc mc ms free) (vx_Post XC mc ms free) := by
  intro m meth c A g ig mk a X hg hsize hdg hW hn hp
  have h1 : (headSpec ws rm).pre.before a A.U = true := atoms_intro fun w hw => hws w hw _ _ X.warmed
  have h2 : (Cond.code y bytes maxL ret).before a A.U = true := hws _ hcode _ _ X.warmed
  have h3 : (Cond.initialized y.cls).before a A.U = true := hinit _ _ X.warmed
  have h4 : A.cells + (headSpec ws rm).room.cells ≤ R.cells := by rw [show (headSpec ws rm).room.cells = mc from hrc]; exact hp.1
  have h5 : A.slots + (headSpec ws rm).room.slots ≤ R.slots := by rw [show (headSpec ws rm).room.slots = ms from hrs]; exact hp.2.1
  have hPc : Pc a (A.U.calling g mk a) := hblind _ _ _ _ hp.2.2
  obtain ⟨U, Ls, c0, s0⟩ := A
  dsimp only [Pt.U, Pt.locs, Pt.cells, Pt.slots] at h1 h2 h3 h4 h5 X hn hPc ⊢
  obtain ⟨methY, cY, hmY, hcY, -, hlY, -, -, -, -⟩ := Cond.code_spec hn h2
  obtain ⟨kY, hkY, -⟩ := className_of_methodNamed hn
  have hinitY : kY.init = .initialized := Cond.initialized_spec (findClass_of_methodNamed hn) hkY h3
  have h : At U g.method c below := by rw [hg]; exact X.here
  have hlocals9 : W9 + (maxL + 11) + (headSpec ws rm).room.locals ≤ R.locals := hlocals
  have happ : (headSpec ws rm).appliesLoose y e.platform (U.calling g mk a) = true :=
    Spec.appliesLoose_calling (g := g) h hdg hn hkY hinitY
      (X.room_calling (g := g) (R' := (headSpec ws rm).room) hsize hmY hcY hframes (by rw [hlY]; omega) h4 h5) h1
  obtain ⟨mid, hmid⟩ := h.above
  have hfr : (U.setTop g).frames = (.java g :: mid) ++ below := by rw [State.frames_setTop' g h.top, hmid]; rfl
  obtain ⟨o, s₂, hsteps, -, hend, hq⟩ := Steps.callFree hM p X.admits X.cas X.clock (acts := []) hfr happ hPc trivial
  have hq' : vx_Q Qc XC mc ms free a (U.calling g mk a) o s₂ := hq
  rw [State.frames_setTop' g h.top] at hend
  obtain ⟨g₀, hg0⟩ := Option.isSome_iff_exists.mp h.top
  obtain ⟨r, hr⟩ := State.topJava?_eq_some.mp hg0
  have hr' : (({ U with heap := s₂.heap, slotsUsed := s₂.slotsUsed } : State).setVm s₂.vm).frames = .java g₀ :: r := hr
  rcases hq' with ⟨hqc, L, hfe, hL⟩ | ⟨q, rfl, E, ce, L, hx, hce, hcv, hcl, hW₂, hsm, hL⟩
  · obtain ⟨⟨v, rfl⟩, hW₂, e2, q2, q3, q4, q5, q6⟩ := id hfe
    have e3 : s₂ = ({ (U.calling g mk a).setFrames s₂.frames with heap := s₂.heap, slotsUsed := s₂.slotsUsed } : State).setVm s₂.vm := by
      have : s₂ = ({ s₂ with vm := (U.calling g mk a).vm } : State).setVm s₂.vm := rfl
      rw [e2] at this
      exact this
    obtain ⟨c₂, i₂, len₂, hc₂, hd₂, hf₂⟩ := hend
    have hW' : U.WarmedH s₂.vm := hW₂
    have hcc : c₂ = c := by
      have h1 : s₂.code? g.method = U.code? g.method := by
        rw [State.code?_eq, State.code?_eq, hW'.alike.method?]
      exact Option.some.inj (hc₂.symm.trans (h1.trans h.code))
    subst hcc
    have hlen : len₂ = len := by rw [hdg] at hd₂; cases hd₂; rfl
    subst hlen
    have hs₂ : s₂ = (({ U with heap := s₂.heap, slotsUsed := s₂.slotsUsed } : State).setVm s₂.vm).setTop { g with pc := g.pc + len₂, stack := v.toList ++ g.stack } := by
      refine e3.trans ?_
      rw [hf₂, State.calling_eq h.top, State.setFrames_setFrames, State.setTop_of_frames _ hr', hr]
      rfl
    have hsame : U.sameButNew ({ U with heap := s₂.heap, slotsUsed := s₂.slotsUsed } : State) L mc ms := by
      refine ⟨?_, q2, q3, q4, q5, q6⟩
      obtain ⟨t, ht, -⟩ := State.frames_cons hr
      show ({ U with heap := s₂.heap, slotsUsed := s₂.slotsUsed } : State) = { U.setFrames U.frames with heap := s₂.heap, slotsUsed := s₂.slotsUsed }
      rw [State.setFrames_self ht]
    subst hg
    refine Or.inl ⟨v, ⟨(({ U with heap := s₂.heap, slotsUsed := s₂.slotsUsed } : State).setVm s₂.vm), Ls ++ L, c0 + mc, s0 + ms⟩,
      ⟨X.admits, X.cas, X.clock, X.frames, X.room, X.hears, X.method, X.code, (X.here.setHeapUsed s₂.heap s₂.slotsUsed).setVm hW'.alike, X.tail, State.WarmedH.trans X.warmed hW', X.limits, X.bytes, X.same.trans (hsame.setVm s.vm)⟩,
      ⟨g, mk, s₂, L, rfl, rfl, hqc, rfl, hL, rfl, rfl⟩, ?_⟩
    show Steps p.tables e below _ ((({ U with heap := s₂.heap, slotsUsed := s₂.slotsUsed } : State).setVm s₂.vm).setTop { g with pc := g.pc + len₂, stack := v.toList ++ g.stack })
    rw [← hs₂]
    exact hsteps
  · obtain ⟨e2, q2, q3, q4, q5, q6⟩ := id hsm
    have e3 : s₂ = ({ (U.calling g mk a).setFrames s₂.frames with heap := s₂.heap, slotsUsed := s₂.slotsUsed } : State).setVm s₂.vm := by
      have : s₂ = ({ s₂ with vm := (U.calling g mk a).vm } : State).setVm s₂.vm := rfl
      rw [e2] at this
      exact this
    have hf₂ : s₂.frames = .throwing q :: .java g :: U.frames.tail := hend
    have hW' : U.WarmedH s₂.vm := hW₂
    have hs₂ : s₂ = ((({ U with heap := s₂.heap, slotsUsed := s₂.slotsUsed } : State).setVm s₂.vm).setTop g).pushFrame (.throwing q) := by
      refine e3.trans ?_
      rw [hf₂, State.calling_eq h.top, State.setFrames_setFrames, State.pushFrame, State.frames_setTop _ hr', State.setTop_of_frames _ hr', State.setFrames_setFrames, hr]
      rfl
    have hsame : U.sameButNew ({ U with heap := s₂.heap, slotsUsed := s₂.slotsUsed } : State) L mc ms := by
      refine ⟨?_, q2, q3, q4, q5, q6⟩
      obtain ⟨t, ht, -⟩ := State.frames_cons hr
      show ({ U with heap := s₂.heap, slotsUsed := s₂.slotsUsed } : State) = { U.setFrames U.frames with heap := s₂.heap, slotsUsed := s₂.slotsUsed }
      rw [State.setFrames_self ht]
    subst hg
    refine Or.inr ⟨q, ⟨(({ U with heap := s₂.heap, slotsUsed := s₂.slotsUsed } : State).setVm s₂.vm), Ls ++ L, c0 + mc, s0 + ms⟩,
      ⟨X.admits, X.cas, X.clock, X.frames, X.room, X.hears, X.method, X.code, (X.here.setHeapUsed s₂.heap s₂.slotsUsed).setVm hW'.alike, X.tail, State.WarmedH.trans X.warmed hW', X.limits, X.bytes, X.same.trans (hsame.setVm s.vm)⟩,
      ⟨g, mk, s₂, L, E, ce, rfl, rfl, hx, hce, hcv, hcl, rfl, hL, rfl, rfl⟩, ?_⟩
    show Steps p.tables e below _ (((({ U with heap := s₂.heap, slotsUsed := s₂.slotsUsed } : State).setVm s₂.vm).setTop g).pushFrame (.throwing q))
    rw [← hs₂]
    exact hsteps
end Payer
section Calls
variable {p : Program} {l : Launch} {e : Env} {R : Room} {s : State} {m : MethodId} {args : Array Value} {below : List Frame} {meth : Method} {c : Code} {T : State} {locs : List Loc} {cells slots : Nat}
theorem vx_callV (X : Stand p l e R s m args below meth c T locs cells slots) (hexec : p.tables.exec = Jvm.exec) {own C : String} {index : Nat} {y : MethodName} {bytes : ByteArray} {maxL : Nat} {ret : Option FieldType}
    (hown : s.vm.findClass own = some m.cls) (hlink : (Cond.methodLink own index y).before args s = true) (hinst : (Cond.instanceMethod y).before args s = true) (hsel : (Cond.selects C y y).before args s = true)
    (hcode : (Cond.code y bytes maxL ret).before args s = true) (hy : y.cls ≠ "java/lang/invoke/MethodHandle" ∧ y.cls ≠ "java/lang/invoke/VarHandle")
    {W9 : Nat} {Pre : Pt → Array Value → Prop} {Post : Pt → Array Value → Option Value → Pt → Prop} {PostX : Pt → Array Value → Addr → Pt → Prop} (hK : vx_Back l R p e below s args y 3 W9 Pre Post PostX)
    {b : Addr} {cellB : Cell} (hcell : T.heap[b]? = some cellB) (hobj : cellB.vm.isStatics = false) (hcls : s.vm.findClass C = some cellB.cls)
    {g : JFrame} (hg : g.method = m) (hsize : g.locals.size = c.maxLocals) {argsL rest : List Value} (hlen : ∀ sig, parseMethodDescriptor y.desc = some sig → argsL.length = sig.parameters.length)
    (hstack : g.stack = argsL.reverse ++ .ref b :: rest) (hW : 2 * g.monitorRoom + (rest.map fun v => v.category).sum ≤ W9) (hdg : decode c.code g.pc = .ok (.invokevirtual index, 3))
    (hpre : ∀ vm₁, s.WarmedH vm₁ → Pre ⟨T.setVm vm₁, locs, cells, slots⟩ (Value.ref b :: argsL).toArray) :
    (∃ (v : Option Value) (vm₁ : Vm) (B : Pt), s.WarmedH vm₁ ∧ Stand p l e R s m args below meth c B.U B.locs B.cells B.slots ∧ Post ⟨T.setVm vm₁, locs, cells, slots⟩ (Value.ref b :: argsL).toArray v B ∧
      ∀ target, Steps p.tables e below (B.U.setTop { g with pc := g.pc + 3, stack := v.toList ++ rest }) target → Steps p.tables e below (T.setTop g) target) ∨
    (∃ (q : Addr) (vm₁ : Vm) (B : Pt), s.WarmedH vm₁ ∧ Stand p l e R s m args below meth c B.U B.locs B.cells B.slots ∧ PostX ⟨T.setVm vm₁, locs, cells, slots⟩ (Value.ref b :: argsL).toArray q B ∧
      Steps p.tables e below (T.setTop g) ((B.U.setTop { g with stack := rest }).pushFrame (.throwing q))) := by
  obtain ⟨mk, methM, hnamed, hmethM, hstM, habM⟩ := Cond.instanceMethod_spec hinst
  obtain ⟨methM', cM, hmethM', -, -, -, -, -, -, hsigM⟩ := Cond.code_spec hnamed hcode
  cases hmethM.symm.trans hmethM'
  obtain ⟨c2, r2, m2, q1, q2, q3, q4, kP, hkP, hkPi⟩ := Cond.selects_spec hsel
  cases hcls.symm.trans q1
  cases (State.methodFound?_of_named hnamed hy).symm.trans q2
  cases hnamed.symm.trans q3
  have hselP : selectMethod e.platform s.vm cellB.cls mk = .method mk := by rw [Launch.admits_selectMethod X.admits]; exact q4
  obtain ⟨vm₁, X₁, hstep₁⟩ := X.invokevirtual hexec hown hlink hnamed hmethM hstM hkP hkPi hy (a := b) (cell := cellB) hcell
    (fun z h => by rw [h] at hobj; cases hobj) hselP hmethM habM hkP hkPi (g := g) hg (argsL := argsL) (rest := rest) (hlen _ hsigM) hstack hdg
  rcases hK m meth c ⟨T.setVm vm₁, locs, cells, slots⟩ { g with stack := rest } (.invokevirtual index) mk (Value.ref b :: argsL).toArray X₁ hg hsize hdg hW (X₁.named hnamed) (hpre vm₁ X₁.warmed) with ⟨v, B, X', hpost, hsteps⟩ | ⟨q, B, X', hpost, hsteps⟩
  · exact Or.inl ⟨v, vm₁, B, X₁.warmed, X', hpost, fun target h => hstep₁ _ fun acts => by rw [doInvoke_state]; exact hsteps.trans h⟩
  · exact Or.inr ⟨q, vm₁, B, X₁.warmed, X', hpost, hstep₁ _ fun acts => by rw [doInvoke_state]; exact hsteps⟩
theorem vx_callS (X : Stand p l e R s m args below meth c T locs cells slots) (hexec : p.tables.exec = Jvm.exec) {own : String} {index : Nat} {y : MethodName} {bytes : ByteArray} {maxL : Nat} {ret : Option FieldType}
    (hown : s.vm.findClass own = some m.cls) (hlink : (Cond.methodLink own index y).before args s = true) (hstat : (Cond.static y).before args s = true) (hinit : (Cond.initialized y.cls).before args s = true)
    (hcode : (Cond.code y bytes maxL ret).before args s = true) (hy : y.cls ≠ "java/lang/invoke/MethodHandle" ∧ y.cls ≠ "java/lang/invoke/VarHandle")
    {W9 : Nat} {Pre : Pt → Array Value → Prop} {Post : Pt → Array Value → Option Value → Pt → Prop} {PostX : Pt → Array Value → Addr → Pt → Prop} (hK : vx_Back l R p e below s args y 3 W9 Pre Post PostX)
    {g : JFrame} (hg : g.method = m) (hsize : g.locals.size = c.maxLocals) {argsL rest : List Value} (hlen : ∀ sig, parseMethodDescriptor y.desc = some sig → argsL.length = sig.parameters.length)
    (hstack : g.stack = argsL.reverse ++ rest) (hW : 2 * g.monitorRoom + (rest.map fun v => v.category).sum ≤ W9) (hdg : decode c.code g.pc = .ok (.invokestatic index, 3))
    (hpre : ∀ vm₁, s.WarmedH vm₁ → Pre ⟨T.setVm vm₁, locs, cells, slots⟩ argsL.toArray) :
    (∃ (v : Option Value) (vm₁ : Vm) (B : Pt), s.WarmedH vm₁ ∧ Stand p l e R s m args below meth c B.U B.locs B.cells B.slots ∧ Post ⟨T.setVm vm₁, locs, cells, slots⟩ argsL.toArray v B ∧
      ∀ target, Steps p.tables e below (B.U.setTop { g with pc := g.pc + 3, stack := v.toList ++ rest }) target → Steps p.tables e below (T.setTop g) target) ∨
    (∃ (q : Addr) (vm₁ : Vm) (B : Pt), s.WarmedH vm₁ ∧ Stand p l e R s m args below meth c B.U B.locs B.cells B.slots ∧ PostX ⟨T.setVm vm₁, locs, cells, slots⟩ argsL.toArray q B ∧
      Steps p.tables e below (T.setTop g) ((B.U.setTop { g with stack := rest }).pushFrame (.throwing q))) := by
  obtain ⟨mk, hnamed⟩ := Cond.code_named hcode
  obtain ⟨methM, cM, hmethM, -, -, -, -, -, -, hsigM⟩ := Cond.code_spec hnamed hcode
  have hstatic : methM.isStatic = true := Cond.static_spec hnamed hmethM hstat
  obtain ⟨kP, hkP, -⟩ := className_of_methodNamed hnamed
  have hinitP : kP.init = .initialized := Cond.initialized_spec (findClass_of_methodNamed hnamed) hkP hinit
  obtain ⟨vm₁, X₁, hstep₁⟩ := X.invokestatic hexec hown hlink hnamed hmethM hstatic hkP hinitP hy (g := g) hg (argsL := argsL) (rest := rest) (hlen _ hsigM) hstack hdg
  rcases hK m meth c ⟨T.setVm vm₁, locs, cells, slots⟩ { g with stack := rest } (.invokestatic index) mk argsL.toArray X₁ hg hsize hdg hW (X₁.named hnamed) (hpre vm₁ X₁.warmed) with ⟨v, B, X', hpost, hsteps⟩ | ⟨q, B, X', hpost, hsteps⟩
  · exact Or.inl ⟨v, vm₁, B, X₁.warmed, X', hpost, fun target h => hstep₁ _ fun acts => by rw [doInvoke_state]; exact hsteps.trans h⟩
  · exact Or.inr ⟨q, vm₁, B, X₁.warmed, X', hpost, hstep₁ _ fun acts => by rw [doInvoke_state]; exact hsteps⟩
end Calls
theorem vx_cls {s : State} {T : State} {vm₁ : Vm} {E : String} {k : ClassId} (hW : s.WarmedH vm₁) (h : (T.setVm vm₁).vm.findClass E = some k) : s.vm.findClass E = some k := by
  have h1 : vm₁.findClass E = some k := h
  rw [hW.alike.findClass] at h1
  exact h1
/-- the method's frame g, with q thrown over it -/
def vx_W (p : Program) (l : Launch) (e : Env) (R : Room) (s : State) (m : MethodId) (args : Array Value) (below : List Frame) (meth : Method) (c : Code) (H : Heap) (locs : List Loc) (cells slots : Nat) (Q : State → Prop) (g : JFrame) (q : Addr) : Prop :=
  ∀ T : State, T.heap = H → Stand p l e R s m args below meth c T locs cells slots → ∃ t, Steps p.tables e below ((T.setTop g).pushFrame (.throwing q)) t ∧ Q t
def vx_Run (p : Program) (l : Launch) (e : Env) (R : Room) (s : State) (m : MethodId) (args : Array Value) (below : List Frame) (meth : Method) (c : Code) (H : Heap) (locs : List Loc) (cells slots mc ms : Nat) (g : JFrame) (rest : List Value) (Qa : State → Outcome → State → Prop) (XC : String → State → State → Prop) (free : Addr → Prop) : Prop :=
  ∀ T : State, T.heap = H → Stand p l e R s m args below meth c T locs cells slots →
    (∃ (v : Option Value) (st₀ t T' : State) (L : List Loc), st₀.heap = H ∧ Stand p l e R s m args below meth c T' (locs ++ L) (cells + mc) (slots + ms) ∧ (∀ q ∈ L, free q.base) ∧ T'.heap = t.heap ∧ T'.vm = t.vm ∧ Qa st₀ (.returned v) t ∧
      Goes p e below T g T' { g with pc := g.pc + 3, stack := v.toList ++ rest }) ∨
    (∃ (q : Addr) (st₀ t T' : State) (L : List Loc) (E : String) (ce : Cell), st₀.heap = H ∧ Stand p l e R s m args below meth c T' (locs ++ L) (cells + mc) (slots + ms) ∧ (∀ z ∈ L, free z.base) ∧ T'.heap = t.heap ∧ T'.vm = t.vm ∧ XC E st₀ t ∧ t.heap[q]? = some ce ∧ ce.vm = .none ∧ s.vm.findClass E = some ce.cls ∧
      Steps p.tables e below (T.setTop g) ((T'.setTop { g with stack := rest }).pushFrame (.throwing q)))
def vx_X {S : Type} (px : S → Prop) (B : String → S → State → Prop) (A : Nat → Prop) : String → State → State → Prop := fun E st t => ∃ u : S, px u ∧ B E u t ∧ va_F A st t
section Runs
variable {p : Program} {l : Launch} {e : Env} {R : Room} {s : State} {m : MethodId} {args : Array Value} {below : List Frame} {meth : Method} {c : Code} {H : Heap} {locs : List Loc} {cells slots : Nat}
variable {y : MethodName} {bytes cc : ByteArray} {maxL nL mc ms n index : Nat} {ret : Option FieldType} {ws : List Cond} {rm : Room} {Pc : Array Value → State → Prop} {Qc : Array Value → State → Outcome → State → Prop} {XC : String → State → State → Prop} {free : Addr → Prop} {Ts : List Cond} {own C : String} {b : Addr} {As rest : List Value} {g : JFrame}
theorem vx_callBack (cb : CallB R s args own index y bytes maxL ret ws rm mc ms n) (hM : vx_Met l y ws rm Pc Qc XC mc ms free) (hbl : FrameBlind Pc) : vx_Back l R p e below s args y 3 8 (PreOf R mc ms Pc) (PostOf Qc mc ms free) (vx_Post XC mc ms free) := by
  obtain ⟨hrc, hrs, hfr, hlo, hws, hcw, -, hini, -⟩ := cb
  exact vx_back (bytes := bytes) (maxL := maxL) (ret := ret) hM hbl hrc hrs hfr hlo hws hcw (fun a' U hW => word_at hW (Or.inl (by first | rfl | simp [Cond.onTables, Cond.keeps, Cond.steady])) hini)
theorem vx_runV (S : CallFix p m c cc nL s args Ts own) (hM : vx_Met l y ws rm Pc Qc XC mc ms free) (cw : CallW R s args own C index y bytes maxL ret ws rm mc ms n) (hp : PreV s H C b Pc As)
    (hg : g.method = m) (hn : As.length = n) (hsize : g.locals.size = nL) (hstack : g.stack = As.reverse ++ .ref b :: rest) (hW : 2 * g.monitorRoom + (rest.map fun v => v.category).sum ≤ 8) (hdg : decode cc g.pc = .ok (.invokevirtual index, 3)) (hf : cells + mc ≤ R.cells ∧ slots + ms ≤ R.slots) :
    vx_Run p l e R s m args below meth c H locs cells slots mc ms g rest (Qc (Value.ref b :: As).toArray) XC free := by
  have hK : vx_Back l R p e below s args y 3 8 (PreOf R mc ms Pc) (PostOf Qc mc ms free) (vx_Post XC mc ms free) := vx_callBack cw.1 hM hp.1
  obtain ⟨⟨-, -, -, -, -, -, hcode, -, hy, hlen, hl⟩, hin, hse⟩ := cw
  obtain ⟨hx, hb, hml, ho, -⟩ := S
  obtain ⟨-, ⟨cellB, hcB, hoB, hclB⟩, hPc⟩ := hp
  intro T hT X
  rcases vx_callV X hx (C := C) (bytes := bytes) (maxL := maxL) (ret := ret) ho hl hin hse hcode hy hK (by rw [hT]; exact hcB) hoB hclB hg (hsize.trans hml.symm) (argsL := As) (rest := rest) (fun sig h => hn.trans (hlen sig h)) hstack hW (by rw [hb]; exact hdg)
    (fun vm₁ hW₁ => ⟨hf.1, hf.2, hPc (T.setVm vm₁) hT hW₁⟩) with ⟨v, vm₁, ⟨U', l2, c2, s2⟩, hW₁, X', ⟨g', mk, t, L, e1, e2, hq, h1, hL, h2, h3⟩, st⟩ | ⟨q, vm₁, ⟨U', l2, c2, s2⟩, hW₁, X', ⟨g', mk, t, L, E, ce, e1, e2, hq, hce, hcv, hcl, h1, hL, h2, h3⟩, st⟩
  · dsimp only [Pt.U, Pt.locs, Pt.cells, Pt.slots] at X' e1 e2 h1 h2 h3 st
    subst h1; subst h2; subst h3
    exact Or.inl ⟨v, (T.setVm vm₁).calling g' mk (Value.ref b :: As).toArray, t, U', L, hT, X', hL, e1, e2, hq, st⟩
  · dsimp only [Pt.U, Pt.locs, Pt.cells, Pt.slots] at X' e1 e2 h1 h2 h3 st hcl
    subst h1; subst h2; subst h3
    exact Or.inr ⟨q, (T.setVm vm₁).calling g' mk (Value.ref b :: As).toArray, t, U', L, E, ce, hT, X', hL, e1, e2, hq, hce, hcv, vx_cls hW₁ hcl, st⟩
theorem vx_runS (S : CallFix p m c cc nL s args Ts own) (hM : vx_Met l y ws rm Pc Qc XC mc ms free) (cw : CallB R s args own index y bytes maxL ret ws rm mc ms n ∧ (Cond.static y).before args s = true) (hp : PreS s H Pc As)
    (hg : g.method = m) (hn : As.length = n) (hsize : g.locals.size = nL) (hstack : g.stack = As.reverse ++ rest) (hW : 2 * g.monitorRoom + (rest.map fun v => v.category).sum ≤ 8) (hdg : decode cc g.pc = .ok (.invokestatic index, 3)) (hf : cells + mc ≤ R.cells ∧ slots + ms ≤ R.slots) :
    vx_Run p l e R s m args below meth c H locs cells slots mc ms g rest (Qc As.toArray) XC free := by
  have hK : vx_Back l R p e below s args y 3 8 (PreOf R mc ms Pc) (PostOf Qc mc ms free) (vx_Post XC mc ms free) := vx_callBack cw.1 hM hp.1
  obtain ⟨⟨-, -, -, -, -, -, hcode, hini, hy, hlen, hl⟩, hstt⟩ := cw
  obtain ⟨hx, hb, hml, ho, -⟩ := S
  intro T hT X
  rcases vx_callS X hx (bytes := bytes) (maxL := maxL) (ret := ret) ho hl hstt hini hcode hy hK hg (hsize.trans hml.symm) (argsL := As) (rest := rest) (fun sig h => hn.trans (hlen sig h)) hstack hW (by rw [hb]; exact hdg)
    (fun vm₁ hW₁ => ⟨hf.1, hf.2, hp.2 (T.setVm vm₁) hT hW₁⟩) with ⟨v, vm₁, ⟨U', l2, c2, s2⟩, hW₁, X', ⟨g', mk, t, L, e1, e2, hq, h1, hL, h2, h3⟩, st⟩ | ⟨q, vm₁, ⟨U', l2, c2, s2⟩, hW₁, X', ⟨g', mk, t, L, E, ce, e1, e2, hq, hce, hcv, hcl, h1, hL, h2, h3⟩, st⟩
  · dsimp only [Pt.U, Pt.locs, Pt.cells, Pt.slots] at X' e1 e2 h1 h2 h3 st
    subst h1; subst h2; subst h3
    exact Or.inl ⟨v, (T.setVm vm₁).calling g' mk As.toArray, t, U', L, hT, X', hL, e1, e2, hq, st⟩
  · dsimp only [Pt.U, Pt.locs, Pt.cells, Pt.slots] at X' e1 e2 h1 h2 h3 st hcl
    subst h1; subst h2; subst h3
    exact Or.inr ⟨q, (T.setVm vm₁).calling g' mk As.toArray, t, U', L, E, ce, hT, X', hL, e1, e2, hq, hce, hcv, vx_cls hW₁ hcl, st⟩
end Runs
section Rows
variable {p : Program} {l : Launch} {e : Env} {R : Room} {s : State} {m : MethodId} {args : Array Value} {below : List Frame} {meth : Method} {c : Code} {H : Heap} {locs : List Loc} {cells slots : Nat} {Q : State → Prop}
variable {mc ms : Nat} {free : Addr → Prop} {A0 A1 : Nat → Prop} {H0 : Heap} {a : Array Value} {pc : Nat} {ls : Array Slot} {st0 rest : List Value}
theorem vx_keep {st₀ t T' : State} {L : List Loc} (h0 : st₀.heap = H) (e1 : T'.heap = t.heap) (hS : va_S A0 H0 H locs) (hA : ∀ q, q < H.size → A1 q → A0 q) (hf : ∀ q, free q → A0 q) (hL : ∀ q ∈ L, free q.base) (hF : va_F A1 st₀ t) :
    H.size ≤ T'.heap.size ∧ (∀ q : Nat, q < H.size → ¬ A1 q → T'.heap[q]? = H[q]?) ∧ va_S A0 H0 T'.heap (locs ++ L) := by
  obtain ⟨hz, hk⟩ := hF
  rw [h0] at hz hk
  exact ⟨by rw [e1]; exact hz, fun q h1 h2 => by rw [e1]; exact hk q h1 h2,
    ⟨Nat.le_trans hS.1 (by rw [e1]; exact hz), fun q h1 h2 => by rw [e1, hk q (Nat.lt_of_lt_of_le h1 hS.1) (fun z => h2 (hA q (Nat.lt_of_lt_of_le h1 hS.1) z))]; exact hS.2.1 q h1 h2, fun q hq => by
      rcases List.mem_append.mp hq with h | h
      · exact hS.2.2 q h
      · exact hf _ (hL q h)⟩⟩
theorem vx_calli {S SX : Type} {post : Int32 → S → Prop} {px : SX → Prop} {B : S → State → Prop} {BX : String → SX → State → Prop} {AX : Nat → Prop} (hr : vx_Run p l e R s m args below meth c H locs cells slots mc ms (F0 m pc ls st0) rest (va_Qi post B A1 a) (vx_X px BX AX) free) (hS : va_S A0 H0 H locs) (hA : ∀ q, q < H.size → A1 q → A0 q) (hf : ∀ q, free q → A0 q) (hAX : ∀ q, q < H.size → AX q → A0 q)
    (kx : ∀ (E : String) (ce : Cell) (q9 : Addr) (u : SX) (t : State) (H1 : Heap) (locs1 : List Loc), t.heap = H1 → s.vm.Alike t.vm → px u → BX E u t → H.size ≤ H1.size → (∀ q : Nat, q < H.size → ¬ AX q → H1[q]? = H[q]?) → va_S A0 H0 H1 locs1 → H1[q9]? = some ce → ce.vm = .none → s.vm.findClass E = some ce.cls → vx_W p l e R s m args below meth c H1 locs1 (cells + mc) (slots + ms) Q (F0 m pc ls rest) q9)
    (kk : ∀ (r : Int32) (u : S) (t : State) (H1 : Heap) (locs1 : List Loc), t.heap = H1 → s.vm.Alike t.vm → post r u → B u t → H.size ≤ H1.size → (∀ q : Nat, q < H.size → ¬ A1 q → H1[q]? = H[q]?) → va_S A0 H0 H1 locs1 → W p l e R s m args below meth c H1 locs1 (cells + mc) (slots + ms) Q (F0 m (pc + 3) ls (.int r :: rest))) : W p l e R s m args below meth c H locs cells slots Q (F0 m pc ls st0) := by
  intro T hT X
  rcases hr T hT X with ⟨v, st₀, t, T', L, h0, X', hL, e1, e2, ⟨⟨r, u, hv, hp, hb⟩, hF⟩, st⟩ | ⟨q, st₀, t, T', L, E, ce, h0, X', hL, e1, e2, ⟨u, hp, hb, hF⟩, hce, hcv, hcl, st⟩
  · cases hv
    obtain ⟨k1, k2, k3⟩ := vx_keep h0 e1 hS hA hf hL hF
    obtain ⟨t2, a1, b1⟩ := kk r u t T'.heap (locs ++ L) e1.symm (by rw [← e2]; exact X'.warmed.alike) hp hb k1 k2 k3 T' rfl X'
    exact ⟨t2, st t2 a1, b1⟩
  · obtain ⟨k1, k2, k3⟩ := vx_keep h0 e1 hS hAX hf hL hF
    obtain ⟨t2, a1, b1⟩ := kx E ce q u t T'.heap (locs ++ L) e1.symm (by rw [← e2]; exact X'.warmed.alike) hp hb k1 k2 k3 (by rw [e1]; exact hce) hcv hcl T' rfl X'
    exact ⟨t2, st.trans a1, b1⟩
theorem vx_calll {S SX : Type} {post : Int64 → S → Prop} {px : SX → Prop} {B : S → State → Prop} {BX : String → SX → State → Prop} {AX : Nat → Prop} (hr : vx_Run p l e R s m args below meth c H locs cells slots mc ms (F0 m pc ls st0) rest (va_Ql post B A1 a) (vx_X px BX AX) free) (hS : va_S A0 H0 H locs) (hA : ∀ q, q < H.size → A1 q → A0 q) (hf : ∀ q, free q → A0 q) (hAX : ∀ q, q < H.size → AX q → A0 q)
    (kx : ∀ (E : String) (ce : Cell) (q9 : Addr) (u : SX) (t : State) (H1 : Heap) (locs1 : List Loc), t.heap = H1 → s.vm.Alike t.vm → px u → BX E u t → H.size ≤ H1.size → (∀ q : Nat, q < H.size → ¬ AX q → H1[q]? = H[q]?) → va_S A0 H0 H1 locs1 → H1[q9]? = some ce → ce.vm = .none → s.vm.findClass E = some ce.cls → vx_W p l e R s m args below meth c H1 locs1 (cells + mc) (slots + ms) Q (F0 m pc ls rest) q9)
    (kk : ∀ (r : Int64) (u : S) (t : State) (H1 : Heap) (locs1 : List Loc), t.heap = H1 → s.vm.Alike t.vm → post r u → B u t → H.size ≤ H1.size → (∀ q : Nat, q < H.size → ¬ A1 q → H1[q]? = H[q]?) → va_S A0 H0 H1 locs1 → W p l e R s m args below meth c H1 locs1 (cells + mc) (slots + ms) Q (F0 m (pc + 3) ls (.long r :: rest))) : W p l e R s m args below meth c H locs cells slots Q (F0 m pc ls st0) := by
  intro T hT X
  rcases hr T hT X with ⟨v, st₀, t, T', L, h0, X', hL, e1, e2, ⟨⟨r, u, hv, hp, hb⟩, hF⟩, st⟩ | ⟨q, st₀, t, T', L, E, ce, h0, X', hL, e1, e2, ⟨u, hp, hb, hF⟩, hce, hcv, hcl, st⟩
  · cases hv
    obtain ⟨k1, k2, k3⟩ := vx_keep h0 e1 hS hA hf hL hF
    obtain ⟨t2, a1, b1⟩ := kk r u t T'.heap (locs ++ L) e1.symm (by rw [← e2]; exact X'.warmed.alike) hp hb k1 k2 k3 T' rfl X'
    exact ⟨t2, st t2 a1, b1⟩
  · obtain ⟨k1, k2, k3⟩ := vx_keep h0 e1 hS hAX hf hL hF
    obtain ⟨t2, a1, b1⟩ := kx E ce q u t T'.heap (locs ++ L) e1.symm (by rw [← e2]; exact X'.warmed.alike) hp hb k1 k2 k3 (by rw [e1]; exact hce) hcv hcl T' rfl X'
    exact ⟨t2, st.trans a1, b1⟩
theorem vx_callf {S SX : Type} {post : UInt32 → S → Prop} {px : SX → Prop} {B : S → State → Prop} {BX : String → SX → State → Prop} {AX : Nat → Prop} (hr : vx_Run p l e R s m args below meth c H locs cells slots mc ms (F0 m pc ls st0) rest (va_Qf post B A1 a) (vx_X px BX AX) free) (hS : va_S A0 H0 H locs) (hA : ∀ q, q < H.size → A1 q → A0 q) (hf : ∀ q, free q → A0 q) (hAX : ∀ q, q < H.size → AX q → A0 q)
    (kx : ∀ (E : String) (ce : Cell) (q9 : Addr) (u : SX) (t : State) (H1 : Heap) (locs1 : List Loc), t.heap = H1 → s.vm.Alike t.vm → px u → BX E u t → H.size ≤ H1.size → (∀ q : Nat, q < H.size → ¬ AX q → H1[q]? = H[q]?) → va_S A0 H0 H1 locs1 → H1[q9]? = some ce → ce.vm = .none → s.vm.findClass E = some ce.cls → vx_W p l e R s m args below meth c H1 locs1 (cells + mc) (slots + ms) Q (F0 m pc ls rest) q9)
    (kk : ∀ (r : UInt32) (u : S) (t : State) (H1 : Heap) (locs1 : List Loc), t.heap = H1 → s.vm.Alike t.vm → post r u → B u t → H.size ≤ H1.size → (∀ q : Nat, q < H.size → ¬ A1 q → H1[q]? = H[q]?) → va_S A0 H0 H1 locs1 → W p l e R s m args below meth c H1 locs1 (cells + mc) (slots + ms) Q (F0 m (pc + 3) ls (.float r :: rest))) : W p l e R s m args below meth c H locs cells slots Q (F0 m pc ls st0) := by
  intro T hT X
  rcases hr T hT X with ⟨v, st₀, t, T', L, h0, X', hL, e1, e2, ⟨⟨r, u, hv, hp, hb⟩, hF⟩, st⟩ | ⟨q, st₀, t, T', L, E, ce, h0, X', hL, e1, e2, ⟨u, hp, hb, hF⟩, hce, hcv, hcl, st⟩
  · cases hv
    obtain ⟨k1, k2, k3⟩ := vx_keep h0 e1 hS hA hf hL hF
    obtain ⟨t2, a1, b1⟩ := kk r u t T'.heap (locs ++ L) e1.symm (by rw [← e2]; exact X'.warmed.alike) hp hb k1 k2 k3 T' rfl X'
    exact ⟨t2, st t2 a1, b1⟩
  · obtain ⟨k1, k2, k3⟩ := vx_keep h0 e1 hS hAX hf hL hF
    obtain ⟨t2, a1, b1⟩ := kx E ce q u t T'.heap (locs ++ L) e1.symm (by rw [← e2]; exact X'.warmed.alike) hp hb k1 k2 k3 (by rw [e1]; exact hce) hcv hcl T' rfl X'
    exact ⟨t2, st.trans a1, b1⟩
theorem vx_calld {S SX : Type} {post : UInt64 → S → Prop} {px : SX → Prop} {B : S → State → Prop} {BX : String → SX → State → Prop} {AX : Nat → Prop} (hr : vx_Run p l e R s m args below meth c H locs cells slots mc ms (F0 m pc ls st0) rest (va_Qd post B A1 a) (vx_X px BX AX) free) (hS : va_S A0 H0 H locs) (hA : ∀ q, q < H.size → A1 q → A0 q) (hf : ∀ q, free q → A0 q) (hAX : ∀ q, q < H.size → AX q → A0 q)
    (kx : ∀ (E : String) (ce : Cell) (q9 : Addr) (u : SX) (t : State) (H1 : Heap) (locs1 : List Loc), t.heap = H1 → s.vm.Alike t.vm → px u → BX E u t → H.size ≤ H1.size → (∀ q : Nat, q < H.size → ¬ AX q → H1[q]? = H[q]?) → va_S A0 H0 H1 locs1 → H1[q9]? = some ce → ce.vm = .none → s.vm.findClass E = some ce.cls → vx_W p l e R s m args below meth c H1 locs1 (cells + mc) (slots + ms) Q (F0 m pc ls rest) q9)
    (kk : ∀ (r : UInt64) (u : S) (t : State) (H1 : Heap) (locs1 : List Loc), t.heap = H1 → s.vm.Alike t.vm → post r u → B u t → H.size ≤ H1.size → (∀ q : Nat, q < H.size → ¬ A1 q → H1[q]? = H[q]?) → va_S A0 H0 H1 locs1 → W p l e R s m args below meth c H1 locs1 (cells + mc) (slots + ms) Q (F0 m (pc + 3) ls (.double r :: rest))) : W p l e R s m args below meth c H locs cells slots Q (F0 m pc ls st0) := by
  intro T hT X
  rcases hr T hT X with ⟨v, st₀, t, T', L, h0, X', hL, e1, e2, ⟨⟨r, u, hv, hp, hb⟩, hF⟩, st⟩ | ⟨q, st₀, t, T', L, E, ce, h0, X', hL, e1, e2, ⟨u, hp, hb, hF⟩, hce, hcv, hcl, st⟩
  · cases hv
    obtain ⟨k1, k2, k3⟩ := vx_keep h0 e1 hS hA hf hL hF
    obtain ⟨t2, a1, b1⟩ := kk r u t T'.heap (locs ++ L) e1.symm (by rw [← e2]; exact X'.warmed.alike) hp hb k1 k2 k3 T' rfl X'
    exact ⟨t2, st t2 a1, b1⟩
  · obtain ⟨k1, k2, k3⟩ := vx_keep h0 e1 hS hAX hf hL hF
    obtain ⟨t2, a1, b1⟩ := kx E ce q u t T'.heap (locs ++ L) e1.symm (by rw [← e2]; exact X'.warmed.alike) hp hb k1 k2 k3 (by rw [e1]; exact hce) hcv hcl T' rfl X'
    exact ⟨t2, st.trans a1, b1⟩
theorem vx_callv {S SX : Type} {post : S → Prop} {px : SX → Prop} {B : S → State → Prop} {BX : String → SX → State → Prop} {AX : Nat → Prop} (hr : vx_Run p l e R s m args below meth c H locs cells slots mc ms (F0 m pc ls st0) rest (va_Qv post B A1 a) (vx_X px BX AX) free) (hS : va_S A0 H0 H locs) (hA : ∀ q, q < H.size → A1 q → A0 q) (hf : ∀ q, free q → A0 q) (hAX : ∀ q, q < H.size → AX q → A0 q)
    (kx : ∀ (E : String) (ce : Cell) (q9 : Addr) (u : SX) (t : State) (H1 : Heap) (locs1 : List Loc), t.heap = H1 → s.vm.Alike t.vm → px u → BX E u t → H.size ≤ H1.size → (∀ q : Nat, q < H.size → ¬ AX q → H1[q]? = H[q]?) → va_S A0 H0 H1 locs1 → H1[q9]? = some ce → ce.vm = .none → s.vm.findClass E = some ce.cls → vx_W p l e R s m args below meth c H1 locs1 (cells + mc) (slots + ms) Q (F0 m pc ls rest) q9)
    (kk : ∀ (u : S) (t : State) (H1 : Heap) (locs1 : List Loc), t.heap = H1 → s.vm.Alike t.vm → post u → B u t → H.size ≤ H1.size → (∀ q : Nat, q < H.size → ¬ A1 q → H1[q]? = H[q]?) → va_S A0 H0 H1 locs1 → W p l e R s m args below meth c H1 locs1 (cells + mc) (slots + ms) Q (F0 m (pc + 3) ls (rest))) : W p l e R s m args below meth c H locs cells slots Q (F0 m pc ls st0) := by
  intro T hT X
  rcases hr T hT X with ⟨v, st₀, t, T', L, h0, X', hL, e1, e2, ⟨⟨u, hv, hp, hb⟩, hF⟩, st⟩ | ⟨q, st₀, t, T', L, E, ce, h0, X', hL, e1, e2, ⟨u, hp, hb, hF⟩, hce, hcv, hcl, st⟩
  · cases hv
    obtain ⟨k1, k2, k3⟩ := vx_keep h0 e1 hS hA hf hL hF
    obtain ⟨t2, a1, b1⟩ := kk u t T'.heap (locs ++ L) e1.symm (by rw [← e2]; exact X'.warmed.alike) hp hb k1 k2 k3 T' rfl X'
    exact ⟨t2, st t2 a1, b1⟩
  · obtain ⟨k1, k2, k3⟩ := vx_keep h0 e1 hS hAX hf hL hF
    obtain ⟨t2, a1, b1⟩ := kx E ce q u t T'.heap (locs ++ L) e1.symm (by rw [← e2]; exact X'.warmed.alike) hp hb k1 k2 k3 (by rw [e1]; exact hce) hcv hcl T' rfl X'
    exact ⟨t2, st.trans a1, b1⟩
/-- caught by the row x of this method's table; the rows ahead don't take it -/
theorem vx_catch {own name : String} {E : String} {ce : Cell} {q : Addr} (hown : s.vm.findClass own = some m.cls) (pre : List ExceptionTableEntry) (x : ExceptionTableEntry) (suf : List ExceptionTableEntry) (hsplit : c.exceptionTable.toList = pre ++ x :: suf)
    (hpass : ∀ z ∈ pre, covers z pc = false ∨ (z.catchType ≠ 0 ∧ ∃ nm : String, (Cond.classLink own z.catchType nm).before args s = true ∧ va_Nc E nm s)) (hx : covers x pc = true) (h0 : x.catchType ≠ 0)
    (hlink : (Cond.classLink own x.catchType name).before args s = true) (hcast : (Cond.castable E name).before args s = true) (hcell : H[q]? = some ce) (hv : ce.vm = .none) (hcl : s.vm.findClass E = some ce.cls)
    (kk : W p l e R s m args below meth c H locs cells slots Q (F0 m x.handlerPc ls [.ref q])) : vx_W p l e R s m args below meth c H locs cells slots Q (F0 m pc ls rest) q := by
  intro T hT X
  have hpl : e.platform.magicAccessors = ({} : Platform).magicAccessors := by rw [X.admits.platform]
  obtain ⟨c3, c4, hc3, hc4, hasg⟩ := Cond.castable_spec hcast
  cases Option.some.inj (hc3.symm.trans hcl)
  obtain ⟨c5, hc5, hcl5⟩ := Cond.classLink_spec hown hlink e.platform hpl
  cases Option.some.inj (hc4.symm.trans hc5)
  obtain ⟨vm', X', st⟩ := X.thenCaughtThrough q (g := F0 m pc ls rest) rfl (Steps.refl _) (by rw [hT]; exact hcell) (by rw [hv]; rfl) (by obtain ⟨k9, h9, -⟩ := Vm.findClass_spec hcl; exact ⟨k9, h9⟩) pre x suf hsplit
    (fun z hz => by
      rcases hpass z hz with h | ⟨hz0, nm, hl1, hn1⟩
      · exact Or.inl h
      · obtain ⟨c6, hc6, hcl6⟩ := Cond.classLink_spec hown hl1 e.platform hpl
        obtain ⟨a8, b8, h1, h2, h3⟩ := hn1
        cases Option.some.inj (h1.symm.trans hcl)
        cases Option.some.inj (h2.symm.trans hc6)
        exact Or.inr ⟨hz0, _, hcl6, h3⟩) hx (Or.inr ⟨h0, c4, hcl5, hasg⟩)
  obtain ⟨t, a1, b1⟩ := kk (T.setVm vm') hT X'
  exact ⟨t, st.trans a1, b1⟩
end Rows
section Ends
variable {p : Program} {l : Launch} {e : Env} {R : Room} {s : State} {m : MethodId} {args : Array Value} {below : List Frame} {meth : Method} {c : Code} {H : Heap} {locs : List Loc} {cells slots : Nat} {Q : State → Prop}
variable {mc ms : Nat} {free : Addr → Prop} {A0 A1 : Nat → Prop} {H0 : Heap} {a : Array Value} {ls : Array Slot} {st0 rest : List Value}
variable {Qc : Array Value → State → Outcome → State → Prop} {XC : String → State → State → Prop}
/-- what a body that may throw owes at its end -/
def vx_MQ (below : List Frame) (Qc : Array Value → State → Outcome → State → Prop) (XC : String → State → State → Prop) (a : Array Value) (s : State) (mc ms : Nat) (free : Addr → Prop) : State → Prop := fun t =>
  ∃ o, t.status = .running ∧ Ended t below o ∧ vx_Q Qc XC mc ms free a s o t
theorem vx_ret {g : JFrame} {mc ms : Nat} (k : W p l e R s m args below meth c H locs cells slots (MQ below Qc args s mc ms free) g) : W p l e R s m args below meth c H locs cells slots (vx_MQ below Qc XC args s mc ms free) g := by
  intro T hT X
  obtain ⟨t, a1, o, b1, b2, b3, b4⟩ := k T hT X
  exact ⟨t, a1, o, b1, b2, Or.inl ⟨b3, b4⟩⟩
/-- not caught here: it goes on to the caller -/
theorem vx_widen {g : JFrame} {q : Addr} {k n : Nat} (h1 : cells ≤ k) (h2 : slots ≤ n) (kk : vx_W p l e R s m args below meth c H locs k n Q g q) : vx_W p l e R s m args below meth c H locs cells slots Q g q := fun T hT X => kk T hT (stand_widen X h1 h2)
theorem vx_out {pc : Nat} {E : String} {ce : Cell} {q : Addr} {mc ms : Nat} (hout : ∀ x ∈ c.exceptionTable.toList, covers x pc = false) (hlocks : meth.locks = false) (hcell : H[q]? = some ce) (hv : ce.vm = .none) (hcl : s.vm.findClass E = some ce.cls)
    (hx : ∀ t : State, t.heap = H → s.vm.Alike t.vm → XC E s t) (hf : ∀ z ∈ locs, free z.base) (hc : cells ≤ mc) (hs : slots ≤ ms) :
    vx_W p l e R s m args below meth c H locs cells slots (vx_MQ below Qc XC args s mc ms free) (F0 m pc ls rest) q := by
  intro T hT X
  obtain ⟨st1, hrun, hend, hW, hsm⟩ := X.leaveThrown q (g := F0 m pc ls rest) rfl rfl rfl hout hlocks
  have hcell9 : (T.setFrames (.throwing q :: below)).heap[q]? = some ce := by
    show T.heap[q]? = some ce
    rw [hT]; exact hcell
  exact ⟨_, st1, .threw q, hrun, hend, Or.inr ⟨q, rfl, E, ce, locs, hx _ hT hW.alike, hcell9, hv, hcl, hW, hsm.mono hc hs, hf⟩⟩
theorem vx_frame {U : State} {k n : Nat} (h : s.sameButNew ({ U with vm := s.vm } : State) locs k n) : s.heap.size ≤ U.heap.size ∧ ∀ q : Nat, q < s.heap.size → (∀ z ∈ locs, z.base ≠ q) → U.heap[q]? = s.heap[q]? := by
  obtain ⟨-, h2, -, -, -, h6⟩ := h
  refine ⟨h2, fun q hq hz => ?_⟩
  obtain ⟨c9, e1, e2, e3, e4⟩ := h6 q _ (Array.getElem?_eq_getElem hq)
  have hs : c9.slots = (s.heap[q]).slots := Array.ext_getElem? fun i => e4 i fun hm => hz _ hm rfl
  have h9 : c9 = s.heap[q] := by
    rw [hs] at e2
    exact e2
  have e5 : U.heap[q]? = some c9 := e1
  rw [e5, h9, Array.getElem?_eq_getElem hq]
/-- the words of a throw but the four that speak of the heap -/
def vx_no (w : Cond) : Bool := decide (w ≠ .isRef (.static Bundle.tN "UNASSIGNED_STACK" Bundle.steD)) && decide (w ≠ .isRef (.static Bundle.tN "SUPPRESSED_SENTINEL" Bundle.listD)) && decide (w ≠ .laysStatic Bundle.tN "UNASSIGNED_STACK" Bundle.steD) && decide (w ≠ .laysStatic Bundle.tN "SUPPRESSED_SENTINEL" Bundle.listD)
def vx_at0 (own : String) (ic : Nat) (X : String) (names : List String) : List Cond := (Bundle.ownAtoms0 own ic X names).filter vx_no
def vx_atS (own : String) (ic : Nat) (X : String) (names : List String) : List Cond := (Bundle.ownAtoms own ic X names).filter vx_no
/-- a word that the tables alone decide, or a good one -/
def vx_ot (w : Cond) : Bool := w.onTables || goodWord w
theorem vx_ot_at {args a' : Array Value} {s U : State} {w : Cond} (hW : s.WarmedH U.vm) (hvm : s.vm = U.vm) (hg : vx_ot w = true) (h : w.before args s = true) : w.before a' U = true := by
  simp only [vx_ot, Bool.or_eq_true] at hg
  rcases hg with hg | hg
  · exact va_tabs hg hvm h
  · exact word_at hW (good_of_word hg) h
/-- a list's words: the good ones out of the method's own list, the others by premises of their own -/
theorem vx_hat {args : Array Value} {s : State} {L B : List Cond} (h1 : ∀ w ∈ L.filter goodWord, w.before args s = true) (h2 : ∀ w ∈ L.filter (fun w => !goodWord w), w ∈ B) (h3 : ∀ w ∈ B, w.before args s = true) : ∀ w ∈ L, w.before args s = true := by
  intro w hw
  by_cases g : goodWord w = true
  · exact h1 w (List.mem_filter.mpr ⟨hw, g⟩)
  · refine h3 w (h2 w (List.mem_filter.mpr ⟨hw, ?_⟩))
    show (!goodWord w) = true
    cases hgw : goodWord w
    · rfl
    · exact absurd hgw g
theorem vx_c {args : Array Value} {s : State} {w : Cond} {B : List Cond} (h : w.before args s = true) (t : ∀ w ∈ B, w.before args s = true) : ∀ w' ∈ w :: B, w'.before args s = true := fun w' h' => (List.mem_cons.mp h').elim (fun e => by rw [e]; exact h) (t w')
theorem vx_n {args : Array Value} {s : State} : ∀ w ∈ ([] : List Cond), w.before args s = true := fun _ h => nomatch h
theorem vx_own {args : Array Value} {s : State} {L : List Cond} (h1 : ∀ w ∈ L.filter vx_no, w.before args s = true)
    (hU : (Cond.isRef (.static Bundle.tN "UNASSIGNED_STACK" Bundle.steD)).before args s = true) (hN : (Cond.isRef (.static Bundle.tN "SUPPRESSED_SENTINEL" Bundle.listD)).before args s = true)
    (lU : (Cond.laysStatic Bundle.tN "UNASSIGNED_STACK" Bundle.steD).before args s = true) (lN : (Cond.laysStatic Bundle.tN "SUPPRESSED_SENTINEL" Bundle.listD).before args s = true) : ∀ w ∈ L, w.before args s = true := by
  intro w hw
  by_cases e1 : w = .isRef (.static Bundle.tN "UNASSIGNED_STACK" Bundle.steD)
  · rw [e1]; exact hU
  · by_cases e2 : w = .isRef (.static Bundle.tN "SUPPRESSED_SENTINEL" Bundle.listD)
    · rw [e2]; exact hN
    · by_cases e3 : w = .laysStatic Bundle.tN "UNASSIGNED_STACK" Bundle.steD
      · rw [e3]; exact lU
      · by_cases e4 : w = .laysStatic Bundle.tN "SUPPRESSED_SENTINEL" Bundle.listD
        · rw [e4]; exact lN
        · exact h1 w (List.mem_filter.mpr ⟨hw, by unfold vx_no; rw [decide_eq_true e1, decide_eq_true e2, decide_eq_true e3, decide_eq_true e4]; rfl⟩)
/-- where a static field lies, its class's statics cell in H -/
def vx_L (C n d : String) (A : Nat → Prop) (U : State) (H : Heap) : Prop := ∃ (c : ClassId) (k : Class) (i : Nat) (f : Field) (a : Nat) (cell : Cell), U.vm.findClass C = some c ∧ U.fieldFound? C n d = some (c, k, i, f) ∧ f.isStatic = true ∧ k.statics = some a ∧ H[a]? = some cell ∧ cell.vm.isStatics = true ∧ cell.cls = c ∧ f.slot < cell.slots.size ∧ k.staticTypes[f.slot]? = some f.type ∧ ¬ A a
theorem vx_L.moved {C n d : String} {A : Nat → Prop} {u U : State} {H : Heap} (hvm : u.vm.Alike U.vm) (h : vx_L C n d A u H) : vx_L C n d A U H := by
  obtain ⟨c, k, i, f, a, cell, h1, h2, h3, h4, h5, h6, h7, h8, h9, h10⟩ := h
  obtain ⟨k', hi', he⟩ := State.fieldFound?_setVm hvm h2
  exact ⟨c, k', i, f, a, cell, by rw [hvm.findClass]; exact h1, hi', h3, by rw [he]; exact h4, h5, h6, h7, h8, by rw [he]; exact h9, h10⟩
theorem vx_L.kept {C n d : String} {A : Nat → Prop} {U : State} {H H1 : Heap} (h : vx_L C n d A U H) (hq : ∀ a : Nat, a < H.size → ¬ A a → H1[a]? = H[a]?) : vx_L C n d A U H1 := by
  obtain ⟨c, k, i, f, a, cell, h1, h2, h3, h4, h5, h6, h7, h8, h9, h10⟩ := h
  exact ⟨c, k, i, f, a, cell, h1, h2, h3, h4, by rw [hq a (Array.getElem?_eq_some_iff.mp h5).1 h10]; exact h5, h6, h7, h8, h9, h10⟩
theorem vx_L.narrow {C n d : String} {A B : Nat → Prop} {U : State} {H : Heap} (h : vx_L C n d A U H) (hAB : ∀ q, B q → A q) : vx_L C n d B U H := by
  obtain ⟨c, k, i, f, a, cell, h1, h2, h3, h4, h5, h6, h7, h8, h9, h10⟩ := h
  exact ⟨c, k, i, f, a, cell, h1, h2, h3, h4, h5, h6, h7, h8, h9, fun z => h10 (hAB _ z)⟩
theorem vx_L.word {C n d : String} {A : Nat → Prop} {s : State} {args : Array Value} (h : vx_L C n d A s s.heap) : (Cond.laysStatic C n d).before args s = true := by
  obtain ⟨c, k, i, f, a, cell, h1, h2, h3, h4, h5, h6, h7, h8, h9, -⟩ := h
  show (Cond.laysStatic C n d).holds args s none s [] = true
  exact Cond.laysStatic_of h1 h2 h3 h4 h5 h6 h7 h8 h9
/-- .. and what it holds: null or some reference -/
def vx_Zq (C n d : String) (A : Nat → Prop) (U : State) (H : Heap) : Prop := va_Zq C n d A U H ∧ vx_L C n d A U H
theorem vx_Zq.moved {C n d : String} {A : Nat → Prop} {u U : State} {H : Heap} (hvm : u.vm.Alike U.vm) (h : vx_Zq C n d A u H) : vx_Zq C n d A U H := ⟨va_Zq.moved hvm h.1, vx_L.moved hvm h.2⟩
theorem vx_Zq.kept {C n d : String} {A : Nat → Prop} {U : State} {H H1 : Heap} (h : vx_Zq C n d A U H) (hq : ∀ a : Nat, a < H.size → ¬ A a → H1[a]? = H[a]?) : vx_Zq C n d A U H1 := ⟨va_Zq.kept h.1 hq, vx_L.kept h.2 hq⟩
theorem vx_Zq.narrow {C n d : String} {A B : Nat → Prop} {U : State} {H : Heap} (h : vx_Zq C n d A U H) (hAB : ∀ q, B q → A q) : vx_Zq C n d B U H := ⟨va_Zq.narrow h.1 hAB, vx_L.narrow h.2 hAB⟩
theorem vx_Zqof {args : Array Value} {s : State} {C n d : String} {A : Nat → Prop} (hl : (Cond.laysStatic C n d).before args s = true) (hini : (Cond.initialized C).before args s = true) (h : (Cond.isRef (.static C n d)).before args s = true) (hA : ∀ a : Nat, a < s.heap.size → ¬ A a) : vx_Zq C n d A s s.heap := by
  refine ⟨va_Zqof hl hini h hA, ?_⟩
  obtain ⟨c, k, i, f, a, cell, h1, h2, h3, h4, h5, h6, h7, h8, h9⟩ := Cond.laysStatic_spec hl
  exact ⟨c, k, i, f, a, cell, h1, h2, h3, h4, h5, h6, h7, h8, h9, hA a (Array.getElem?_eq_some_iff.mp h5).1⟩
theorem vx_isRef {C n d : String} {v : Value} {A : Nat → Prop} {s : State} {args : Array Value} (h : va_Z C n d v A s s.heap) (hv : v.isRef = true) : (Cond.isRef (.static C n d)).before args s = true := by
  obtain ⟨cf, kf, fi, f, a, cell, h1, h2, h3, h4, h5, h6, h7, -⟩ := h
  have he : (Term.static C n d).eval args s none [] s = some v := by
    simp [Term.eval, State.fieldNamed?, h1, h2, h4, h5, h6, h7]
  simp only [Cond.before, Cond.holds, Cond.value, he]
  cases v <;> simp_all [Value.isRef]
theorem vx_isRefq {C n d : String} {A : Nat → Prop} {s : State} {args : Array Value} (h : va_Zq C n d A s s.heap) : (Cond.isRef (.static C n d)).before args s = true := by
  rcases h with h | ⟨t, h⟩
  · exact vx_isRef h rfl
  · exact vx_isRef h rfl
/-- the same frame, seen from here: as if the method were called anew in this heap -/
theorem vx_rebase {T : State} (X : Stand p l e R s m args below meth c T locs cells slots) {R' : Room} (hf : R'.frames ≤ R.frames) (hl : R'.locals ≤ R.locals) (hc : cells + R'.cells ≤ R.cells) (hs : slots + R'.slots ≤ R.slots) :
    Stand p l e R' ((T.setVm s.vm).setFrames (.invoking m args :: below)) m args below meth c T [] 0 0 := by
  have htop : (T.setVm s.vm).topJava?.isSome := X.here.top
  have hF : ((T.setVm s.vm).setFrames (.invoking m args :: below)).frames = .invoking m args :: below := State.frames_setFrames _ (State.cur_lt_of_top htop)
  obtain ⟨g₀, hg0⟩ := Option.isSome_iff_exists.mp htop
  obtain ⟨r, hr⟩ := State.topJava?_eq_some.mp hg0
  have hl9 : e.platform.stackLimits (T.setVm s.vm).me = e.platform.stackLimits s.me := X.limits
  have hb9 : (T.setVm s.vm).me.stackBytes = s.me.stackBytes := X.bytes
  refine ⟨X.admits, X.cas, X.clock, hF, ?_, X.hears, X.method, X.code, X.here, X.tail, X.warmed, ?_, ?_, ?_⟩
  · have h := X.room
    have hU : ((T.setVm s.vm).setFrames (.invoking m args :: below)).localsInUse = s.localsInUse := by
      rw [State.localsInUse_invoking hF (meth := meth) (c := c) X.method X.code, State.localsInUse_invoking X.frames X.method X.code]
    simp only [State.hasRoom, Bool.and_eq_true, decide_eq_true_eq] at h ⊢
    obtain ⟨⟨⟨⟨h1, h2, h3, h4, h5, h6⟩, h7⟩, h8⟩, h9⟩ := h
    rw [X.frames, List.length_cons] at h2 h3
    have q1 := X.heapSize
    have q2 := X.used
    simp only [hF, hU, List.length_cons, State.stackLimits_setFrames, State.stackBytes_setFrames, hl9, hb9]
    refine ⟨⟨⟨⟨by omega, by omega, by omega, by omega, by omega, h6⟩, ?_⟩, ?_⟩, X.book⟩
    · show T.heap.size + R'.cells ≤ e.platform.maxCells
      omega
    · show T.slotsUsed + R'.slots ≤ e.platform.maxSlots
      omega
  · rw [State.stackLimits_setFrames]; rfl
  · rw [State.stackBytes_setFrames]; rfl
  · refine ⟨?_, Nat.le_refl _, Nat.le_refl _, ?_, ?_, fun a c9 h9 => ⟨c9, h9, rfl, rfl, fun _ _ => rfl⟩⟩
    · obtain ⟨t, ht, -⟩ := State.frames_cons hr
      show T.setVm s.vm = { ((T.setVm s.vm).setFrames (.invoking m args :: below)).setFrames (T.setVm s.vm).frames with heap := T.heap, slotsUsed := T.slotsUsed }
      rw [State.setFrames_setFrames, State.setFrames_self ht]
      rfl
    · show T.slotsUsed = T.slotsUsed + ((T.heap.toList.drop T.heap.size).map (·.slots.size)).sum
      rw [List.drop_eq_nil_of_le (Nat.le_of_eq Array.length_toList)]
      rfl
    · show ((T.heap.toList.drop T.heap.size).map (·.slots.size)).sum ≤ 0
      rw [List.drop_eq_nil_of_le (Nat.le_of_eq Array.length_toList)]
      exact Nat.le_refl _
/-- 'throw new E()': new; dup; invokespecial; athrow -/
theorem vx_throw0 {cc : ByteArray} {pc : Nat} (hexec : p.tables.exec = Jvm.exec) (hb : c.code = cc) (hl : l.stackTraces = false) {own cls : String} {names : List String} {ik ic mc ms : Nat} {A : Nat → Prop}
    (hown : s.vm.findClass own = some m.cls) (hcls : Bundle.fit cls = true) (hnames : ∀ n ∈ names, Bundle.fit n = true)
    (hk : (Cond.classLink own ik cls).before args s = true) (hini : (Cond.initialized cls).before args s = true) (hat : ∀ w ∈ vx_at0 own ic cls names, w.before args s = true)
    (hgood : ∀ w ∈ Cond.classLink own ik cls :: Cond.initialized cls :: vx_at0 own ic cls names, vx_ot w = true)
    (hU : vx_Zq Bundle.tN "UNASSIGNED_STACK" Bundle.steD A s s.heap) (hN : vx_Zq Bundle.tN "SUPPRESSED_SENTINEL" Bundle.listD A s s.heap) (hS : va_S A s.heap H locs) (hsize : ls.size = c.maxLocals)
    (d0 : decode cc pc = .ok (.new ik, 3)) (d3 : decode cc (pc + 3) = .ok (.dup, 1)) (d4 : decode cc (pc + 4) = .ok (.invokespecial ic, 3)) (d7 : decode cc (pc + 7) = .ok (.athrow, 1))
    (hout : ∀ x ∈ c.exceptionTable.toList, covers x (pc + 7) = false)
    (hRframes : names.length + 3 < R.frames) (hRlocals : (rest.map fun v => v.category).sum + (13 * (names.length + 1) + 42) ≤ R.locals) (hRcells : cells + 1 ≤ R.cells) (hRslots : slots + 6 ≤ R.slots) (hlocks : meth.locks = false)
    (hx : ∀ t : State, s.vm.Alike t.vm → H.size ≤ t.heap.size → (∀ q : Nat, q < H.size → t.heap[q]? = H[q]?) → XC cls s t)
    (hf : ∀ z ∈ locs, free z.base) (hc : cells + 1 ≤ mc) (hs : slots + 6 ≤ ms) :
    W p l e R s m args below meth c H locs cells slots (vx_MQ below Qc XC args s mc ms free) (F0 m pc ls rest) := by
  intro T hT X
  have htr : e.platform.stackTraces = false := (show e.platform.stackTraces = l.stackTraces by rw [X.admits.platform]).trans hl
  have Y := vx_rebase X (R' := { frames := R.frames, locals := R.locals, cells := 1, slots := 6 }) (Nat.le_refl _) (Nat.le_refl _) hRcells hRslots
  obtain ⟨s', hA⟩ : ∃ z, z = (T.setVm s.vm).setFrames (.invoking m args :: below) := ⟨_, rfl⟩
  rw [← hA] at Y
  have hvm : s'.vm = s.vm := by rw [hA]; rfl
  have hhp : s'.heap = H := by rw [hA]; exact hT
  have hW0 : s.WarmedH s'.vm := by rw [hvm]; exact State.WarmedH.refl s
  have hat' : ∀ w ∈ vx_at0 own ic cls names, w.before args s' = true := fun w hw => vx_ot_at hW0 hvm.symm (hgood w (List.mem_cons_of_mem _ (List.mem_cons_of_mem _ hw))) (hat w hw)
  have hk' : (Cond.classLink own ik cls).before args s' = true := vx_ot_at hW0 hvm.symm (hgood _ List.mem_cons_self) hk
  have hini' : (Cond.initialized cls).before args s' = true := vx_ot_at hW0 hvm.symm (hgood _ (List.mem_cons_of_mem _ List.mem_cons_self)) hini
  have hU' : vx_Zq Bundle.tN "UNASSIGNED_STACK" Bundle.steD A s' s'.heap := by rw [hhp]; exact vx_Zq.moved hW0.alike (hU.kept hS.2.1)
  have hN' : vx_Zq Bundle.tN "SUPPRESSED_SENTINEL" Bundle.listD A s' s'.heap := by rw [hhp]; exact vx_Zq.moved hW0.alike (hN.kept hS.2.1)
  have h : ∀ w ∈ Bundle.ownAtoms0 own ic cls names, w.before args s' = true := vx_own hat' (vx_isRefq hU'.1) (vx_isRefq hN'.1) hU'.2.word hN'.2.word
  have hown' : s'.vm.findClass own = some m.cls := by rw [hvm]; exact hown
  have hins : (Cond.instantiable cls 6).before args s' = true := h _ (by simp [Bundle.ownAtoms0])
  obtain ⟨vm₁, cX, kX, hfX, hkX, -, -, X₁, st1⟩ := Y.newCold hexec (own := own) (C := cls) (index := ik) (n := 6) hown' hk' hins hini'
    (g := F0 m pc ls rest) rfl (by rw [hb]; exact d0) (Nat.le_refl _) (Nat.le_refl _)
  generalize hT1 : (T.setVm vm₁).pushCell { cls := cX, slots := kX.instanceTypes.map defaultValue, vm := .none } = T1 at X₁ st1
  have hcat : (Value.ref T.heap.size).category = 1 := rfl
  have hcellA : T1.heap[T.heap.size]? = some (freshCell cX kX) := by rw [← hT1]; exact State.heap_pushCell_size _ _
  have d3' : decode c.code (pc + 3) = .ok (.dup, 1) := by rw [hb]; exact d3
  obtain ⟨U, hsteps, hrun, hend, hW, hsame, ce, hce, hO⟩ := X₁.ctorThrow0 hexec htr (own := own) (cls := cls) (names := names) (ic := ic) hown' hcls hnames h (fun x hx => nomatch hx) hfX hkX hcellA (by rw [hhp, hT]; exact Nat.le_refl _)
    (g := { method := m, pc := pc + 4, locals := ls, stack := .ref T.heap.size :: .ref T.heap.size :: rest, locked := none }) rfl hsize rfl rfl (rest := rest) rfl
    (by rw [hb]; exact d4) (by rw [hb]; exact d7) hout hRframes (by simp only [List.map_cons, List.sum_cons, hcat]; omega) hlocks
  obtain ⟨f1, f2⟩ := vx_frame hsame
  rw [hhp] at f1 f2
  have hWs : s.WarmedH U.vm := State.WarmedH.trans hW0 hW
  have hcl : s.vm.findClass cls = some ce.cls := by
    have h9 := hO.cls
    rw [hvm] at h9
    exact h9
  have hall : s.sameButNew ({ U with vm := s.vm } : State) locs mc ms := by
    subst hA
    obtain ⟨e1, e2⟩ := hsame
    rw [State.setFrames_setFrames] at e1
    have h2 : (T.setVm s.vm).sameButNew ({ U with vm := s.vm } : State) [] (0 + 1) (0 + 6) := ⟨e1, e2⟩
    have h3 := X.same.trans h2
    rw [List.append_nil] at h3
    exact h3.mono hc hs
  refine ⟨U, ?_, .threw T.heap.size, hrun, hend, Or.inr ⟨T.heap.size, rfl, cls, ce, locs, hx U hWs.alike f1 (fun q hq => f2 q hq (fun z hz => nomatch hz)), hce, hO.vm, hcl, hWs, hall, hf⟩⟩
  refine st1 _ ?_
  show Steps p.tables e below (T1.setTop { method := m, pc := pc + 3, locals := ls, stack := .ref T.heap.size :: rest, locked := none }) _
  jvm_step X₁.here [X₁.here.top, hexec, d3', Value.category]
  exact hsteps
/-- 'throw new E("text")': new; dup; ldc; invokespecial; athrow -/
theorem vx_throwS {cc : ByteArray} {pc : Nat} (hexec : p.tables.exec = Jvm.exec) (hb : c.code = cc) (hl : l.stackTraces = false) {own cls text : String} {names : List String} {ik is ic mc ms sa : Nat} {A : Nat → Prop}
    (hown : s.vm.findClass own = some m.cls) (hcls : Bundle.fit cls = true) (hnames : ∀ n ∈ names, Bundle.fit n = true)
    (hk : (Cond.classLink own ik cls).before args s = true) (hini : (Cond.initialized cls).before args s = true) (hstr : vk_R own is text sa s) (hat : ∀ w ∈ vx_atS own ic cls names, w.before args s = true)
    (hgood : ∀ w ∈ Cond.classLink own ik cls :: Cond.initialized cls :: vx_atS own ic cls names, vx_ot w = true)
    (hU : vx_Zq Bundle.tN "UNASSIGNED_STACK" Bundle.steD A s s.heap) (hN : vx_Zq Bundle.tN "SUPPRESSED_SENTINEL" Bundle.listD A s s.heap) (hS : va_S A s.heap H locs) (hsize : ls.size = c.maxLocals)
    (d0 : decode cc pc = .ok (.new ik, 3)) (d3 : decode cc (pc + 3) = .ok (.dup, 1)) (d4 : decode cc (pc + 4) = .ok (.ldc is, 2)) (d6 : decode cc (pc + 6) = .ok (.invokespecial ic, 3)) (d9 : decode cc (pc + 9) = .ok (.athrow, 1))
    (hout : ∀ x ∈ c.exceptionTable.toList, covers x (pc + 9) = false)
    (hRframes : names.length + 3 < R.frames) (hRlocals : (rest.map fun v => v.category).sum + (13 * (names.length + 1) + 43) ≤ R.locals) (hRcells : cells + 1 ≤ R.cells) (hRslots : slots + 6 ≤ R.slots) (hlocks : meth.locks = false)
    (hx : ∀ t : State, s.vm.Alike t.vm → H.size ≤ t.heap.size → (∀ q : Nat, q < H.size → t.heap[q]? = H[q]?) → XC cls s t)
    (hf : ∀ z ∈ locs, free z.base) (hc : cells + 1 ≤ mc) (hs : slots + 6 ≤ ms) :
    W p l e R s m args below meth c H locs cells slots (vx_MQ below Qc XC args s mc ms free) (F0 m pc ls rest) := by
  intro T hT X
  have htr : e.platform.stackTraces = false := (show e.platform.stackTraces = l.stackTraces by rw [X.admits.platform]).trans hl
  have Y := vx_rebase X (R' := { frames := R.frames, locals := R.locals, cells := 1, slots := 6 }) (Nat.le_refl _) (Nat.le_refl _) hRcells hRslots
  obtain ⟨s', hA⟩ : ∃ z, z = (T.setVm s.vm).setFrames (.invoking m args :: below) := ⟨_, rfl⟩
  rw [← hA] at Y
  have hvm : s'.vm = s.vm := by rw [hA]; rfl
  have hhp : s'.heap = H := by rw [hA]; exact hT
  have hW0 : s.WarmedH s'.vm := by rw [hvm]; exact State.WarmedH.refl s
  have hat' : ∀ w ∈ vx_atS own ic cls names, w.before args s' = true := fun w hw => vx_ot_at hW0 hvm.symm (hgood w (List.mem_cons_of_mem _ (List.mem_cons_of_mem _ hw))) (hat w hw)
  have hk' : (Cond.classLink own ik cls).before args s' = true := vx_ot_at hW0 hvm.symm (hgood _ List.mem_cons_self) hk
  have hini' : (Cond.initialized cls).before args s' = true := vx_ot_at hW0 hvm.symm (hgood _ (List.mem_cons_of_mem _ List.mem_cons_self)) hini
  have hU' : vx_Zq Bundle.tN "UNASSIGNED_STACK" Bundle.steD A s' s'.heap := by rw [hhp]; exact vx_Zq.moved hW0.alike (hU.kept hS.2.1)
  have hN' : vx_Zq Bundle.tN "SUPPRESSED_SENTINEL" Bundle.listD A s' s'.heap := by rw [hhp]; exact vx_Zq.moved hW0.alike (hN.kept hS.2.1)
  have h : ∀ w ∈ Bundle.ownAtoms own ic cls names, w.before args s' = true := vx_own hat' (vx_isRefq hU'.1) (vx_isRefq hN'.1) hU'.2.word hN'.2.word
  have hown' : s'.vm.findClass own = some m.cls := by rw [hvm]; exact hown
  have hins : (Cond.instantiable cls 6).before args s' = true := h _ (by simp [Bundle.ownAtoms])
  obtain ⟨vm₁, cX, kX, hfX, hkX, -, -, X₁, st1⟩ := Y.newCold hexec (own := own) (C := cls) (index := ik) (n := 6) hown' hk' hins hini'
    (g := F0 m pc ls rest) rfl (by rw [hb]; exact d0) (Nat.le_refl _) (Nat.le_refl _)
  generalize hT1 : (T.setVm vm₁).pushCell { cls := cX, slots := kX.instanceTypes.map defaultValue, vm := .none } = T1 at X₁ st1
  have hcat : (Value.ref T.heap.size).category = 1 := rfl
  have hcellA : T1.heap[T.heap.size]? = some (freshCell cX kX) := by rw [← hT1]; exact State.heap_pushCell_size _ _
  have d3' : decode c.code (pc + 3) = .ok (.dup, 1) := by rw [hb]; exact d3
  have d4' : decode c.code (pc + 4) = .ok (.ldc is, 2) := by rw [hb]; exact d4
  have hstr' : vk_R own is text sa s' := vk_R.warm hW0 hstr
  obtain ⟨U, hsteps, hrun, hend, hW, hsame, ce, hce, hO⟩ := X₁.ctorThrowS hexec htr (own := own) (cls := cls) (names := names) (ic := ic) hown' hcls hnames h (fun x hx => nomatch hx) hfX hkX hcellA (by rw [hhp, hT]; exact Nat.le_refl _) (msg := .ref sa) rfl
    (g := { method := m, pc := pc + 6, locals := ls, stack := .ref sa :: .ref T.heap.size :: .ref T.heap.size :: rest, locked := none }) rfl hsize rfl rfl (rest := rest) rfl
    (by rw [hb]; exact d6) (by rw [hb]; exact d9) hout hRframes (by simp only [List.map_cons, List.sum_cons, hcat]; omega) hlocks
  obtain ⟨f1, f2⟩ := vx_frame hsame
  rw [hhp] at f1 f2
  have hWs : s.WarmedH U.vm := State.WarmedH.trans hW0 hW
  have hcl : s.vm.findClass cls = some ce.cls := by
    have h9 := hO.cls
    rw [hvm] at h9
    exact h9
  have hall : s.sameButNew ({ U with vm := s.vm } : State) locs mc ms := by
    subst hA
    obtain ⟨e1, e2⟩ := hsame
    rw [State.setFrames_setFrames] at e1
    have h2 : (T.setVm s.vm).sameButNew ({ U with vm := s.vm } : State) [] (0 + 1) (0 + 6) := ⟨e1, e2⟩
    have h3 := X.same.trans h2
    rw [List.append_nil] at h3
    exact h3.mono hc hs
  refine ⟨U, ?_, .threw T.heap.size, hrun, hend, Or.inr ⟨T.heap.size, rfl, cls, ce, locs, hx U hWs.alike f1 (fun q hq => f2 q hq (fun z hz => nomatch hz)), hce, hO.vm, hcl, hWs, hall, hf⟩⟩
  refine st1 _ ?_
  show Steps p.tables e below (T1.setTop { method := m, pc := pc + 3, locals := ls, stack := .ref T.heap.size :: rest, locked := none }) _
  jvm_step X₁.here [X₁.here.top, hexec, d3', Value.category]
  exact X₁.ldcString hexec (own := own) (text := text) (index := is) (a := sa) hown' hstr'.1 hstr'.2
    (g := { method := m, pc := pc + 4, locals := ls, stack := .ref T.heap.size :: .ref T.heap.size :: rest, locked := none }) rfl d4' _ hsteps
/-- 'throw new E("text")', the text by a wide index -/
theorem vx_throwSW {cc : ByteArray} {pc : Nat} (hexec : p.tables.exec = Jvm.exec) (hb : c.code = cc) (hl : l.stackTraces = false) {own cls text : String} {names : List String} {ik is ic mc ms sa : Nat} {A : Nat → Prop}
    (hown : s.vm.findClass own = some m.cls) (hcls : Bundle.fit cls = true) (hnames : ∀ n ∈ names, Bundle.fit n = true)
    (hk : (Cond.classLink own ik cls).before args s = true) (hini : (Cond.initialized cls).before args s = true) (hstr : vk_R own is text sa s) (hat : ∀ w ∈ vx_atS own ic cls names, w.before args s = true)
    (hgood : ∀ w ∈ Cond.classLink own ik cls :: Cond.initialized cls :: vx_atS own ic cls names, vx_ot w = true)
    (hU : vx_Zq Bundle.tN "UNASSIGNED_STACK" Bundle.steD A s s.heap) (hN : vx_Zq Bundle.tN "SUPPRESSED_SENTINEL" Bundle.listD A s s.heap) (hS : va_S A s.heap H locs) (hsize : ls.size = c.maxLocals)
    (d0 : decode cc pc = .ok (.new ik, 3)) (d3 : decode cc (pc + 3) = .ok (.dup, 1)) (d4 : decode cc (pc + 4) = .ok (.ldc_w is, 3)) (d7 : decode cc (pc + 7) = .ok (.invokespecial ic, 3)) (d10 : decode cc (pc + 10) = .ok (.athrow, 1))
    (hout : ∀ x ∈ c.exceptionTable.toList, covers x (pc + 10) = false)
    (hRframes : names.length + 3 < R.frames) (hRlocals : (rest.map fun v => v.category).sum + (13 * (names.length + 1) + 43) ≤ R.locals) (hRcells : cells + 1 ≤ R.cells) (hRslots : slots + 6 ≤ R.slots) (hlocks : meth.locks = false)
    (hx : ∀ t : State, s.vm.Alike t.vm → H.size ≤ t.heap.size → (∀ q : Nat, q < H.size → t.heap[q]? = H[q]?) → XC cls s t)
    (hf : ∀ z ∈ locs, free z.base) (hc : cells + 1 ≤ mc) (hs : slots + 6 ≤ ms) :
    W p l e R s m args below meth c H locs cells slots (vx_MQ below Qc XC args s mc ms free) (F0 m pc ls rest) := by
  intro T hT X
  have htr : e.platform.stackTraces = false := (show e.platform.stackTraces = l.stackTraces by rw [X.admits.platform]).trans hl
  have Y := vx_rebase X (R' := { frames := R.frames, locals := R.locals, cells := 1, slots := 6 }) (Nat.le_refl _) (Nat.le_refl _) hRcells hRslots
  obtain ⟨s', hA⟩ : ∃ z, z = (T.setVm s.vm).setFrames (.invoking m args :: below) := ⟨_, rfl⟩
  rw [← hA] at Y
  have hvm : s'.vm = s.vm := by rw [hA]; rfl
  have hhp : s'.heap = H := by rw [hA]; exact hT
  have hW0 : s.WarmedH s'.vm := by rw [hvm]; exact State.WarmedH.refl s
  have hat' : ∀ w ∈ vx_atS own ic cls names, w.before args s' = true := fun w hw => vx_ot_at hW0 hvm.symm (hgood w (List.mem_cons_of_mem _ (List.mem_cons_of_mem _ hw))) (hat w hw)
  have hk' : (Cond.classLink own ik cls).before args s' = true := vx_ot_at hW0 hvm.symm (hgood _ List.mem_cons_self) hk
  have hini' : (Cond.initialized cls).before args s' = true := vx_ot_at hW0 hvm.symm (hgood _ (List.mem_cons_of_mem _ List.mem_cons_self)) hini
  have hU' : vx_Zq Bundle.tN "UNASSIGNED_STACK" Bundle.steD A s' s'.heap := by rw [hhp]; exact vx_Zq.moved hW0.alike (hU.kept hS.2.1)
  have hN' : vx_Zq Bundle.tN "SUPPRESSED_SENTINEL" Bundle.listD A s' s'.heap := by rw [hhp]; exact vx_Zq.moved hW0.alike (hN.kept hS.2.1)
  have h : ∀ w ∈ Bundle.ownAtoms own ic cls names, w.before args s' = true := vx_own hat' (vx_isRefq hU'.1) (vx_isRefq hN'.1) hU'.2.word hN'.2.word
  have hown' : s'.vm.findClass own = some m.cls := by rw [hvm]; exact hown
  have hins : (Cond.instantiable cls 6).before args s' = true := h _ (by simp [Bundle.ownAtoms])
  obtain ⟨vm₁, cX, kX, hfX, hkX, -, -, X₁, st1⟩ := Y.newCold hexec (own := own) (C := cls) (index := ik) (n := 6) hown' hk' hins hini'
    (g := F0 m pc ls rest) rfl (by rw [hb]; exact d0) (Nat.le_refl _) (Nat.le_refl _)
  generalize hT1 : (T.setVm vm₁).pushCell { cls := cX, slots := kX.instanceTypes.map defaultValue, vm := .none } = T1 at X₁ st1
  have hcat : (Value.ref T.heap.size).category = 1 := rfl
  have hcellA : T1.heap[T.heap.size]? = some (freshCell cX kX) := by rw [← hT1]; exact State.heap_pushCell_size _ _
  have d3' : decode c.code (pc + 3) = .ok (.dup, 1) := by rw [hb]; exact d3
  have d4' : decode c.code (pc + 4) = .ok (.ldc_w is, 3) := by rw [hb]; exact d4
  have hstr' : vk_R own is text sa s' := vk_R.warm hW0 hstr
  obtain ⟨U, hsteps, hrun, hend, hW, hsame, ce, hce, hO⟩ := X₁.ctorThrowS hexec htr (own := own) (cls := cls) (names := names) (ic := ic) hown' hcls hnames h (fun x hx => nomatch hx) hfX hkX hcellA (by rw [hhp, hT]; exact Nat.le_refl _) (msg := .ref sa) rfl
    (g := { method := m, pc := pc + 7, locals := ls, stack := .ref sa :: .ref T.heap.size :: .ref T.heap.size :: rest, locked := none }) rfl hsize rfl rfl (rest := rest) rfl
    (by rw [hb]; exact d7) (by rw [hb]; exact d10) hout hRframes (by simp only [List.map_cons, List.sum_cons, hcat]; omega) hlocks
  obtain ⟨f1, f2⟩ := vx_frame hsame
  rw [hhp] at f1 f2
  have hWs : s.WarmedH U.vm := State.WarmedH.trans hW0 hW
  have hcl : s.vm.findClass cls = some ce.cls := by
    have h9 := hO.cls
    rw [hvm] at h9
    exact h9
  have hall : s.sameButNew ({ U with vm := s.vm } : State) locs mc ms := by
    subst hA
    obtain ⟨e1, e2⟩ := hsame
    rw [State.setFrames_setFrames] at e1
    have h2 : (T.setVm s.vm).sameButNew ({ U with vm := s.vm } : State) [] (0 + 1) (0 + 6) := ⟨e1, e2⟩
    have h3 := X.same.trans h2
    rw [List.append_nil] at h3
    exact h3.mono hc hs
  refine ⟨U, ?_, .threw T.heap.size, hrun, hend, Or.inr ⟨T.heap.size, rfl, cls, ce, locs, hx U hWs.alike f1 (fun q hq => f2 q hq (fun z hz => nomatch hz)), hce, hO.vm, hcl, hWs, hall, hf⟩⟩
  refine st1 _ ?_
  show Steps p.tables e below (T1.setTop { method := m, pc := pc + 3, locals := ls, stack := .ref T.heap.size :: rest, locked := none }) _
  jvm_step X₁.here [X₁.here.top, hexec, d3', Value.category]
  exact X₁.ldcStringW hexec (own := own) (text := text) (index := is) (a := sa) hown' hstr'.1 hstr'.2
    (g := { method := m, pc := pc + 4, locals := ls, stack := .ref T.heap.size :: .ref T.heap.size :: rest, locked := none }) rfl d4' _ hsteps
end Ends
section Bodies
variable {l : Launch}
theorem vx_ofW {y : MethodName} {ws ws' : List Cond} {rm : Room} {Pc : Array Value → State → Prop} {Qc : Array Value → State → Outcome → State → Prop} {XC : String → State → State → Prop} {mc ms : Nat} {free : Addr → Prop} {cc : ByteArray} {maxL : Nat} {ret : Option FieldType}
    (hy : plainName y.cls = true) (hw : ws = Cond.code y cc maxL ret :: ws')
    (body : ∀ p e s m args below meth c s₁, BodyLoose p l y (headSpec ws rm) cc maxL ret e s m args below meth c s₁ → c.maxLocals = maxL → (∀ x ∈ c.exceptionTable.toList, False) → Pc args s →
      W p l e (headSpec ws rm).room s m args below meth c s.heap [] 0 0 (vx_MQ below Qc XC args s mc ms free) (entryFrame m args maxL)) : vx_Met l y ws rm Pc Qc XC mc ms free := by
  refine MetFree.of_bodyS (code := cc) (maxLocals := maxL) (ret := ret) hy ?_ ?_
  · intro args s m h hn
    obtain ⟨meth, c, h1, h2, h3, h4, h5, h6, -, -⟩ := Cond.code_spec hn (atoms_spec (ws := ws) h _ (by rw [hw]; exact List.mem_cons_self))
    exact ⟨meth, c, h1, h2, h3, h4, h5, h6⟩
  · intro p e s m args below meth c s₁ B hml hP _
    have hh0 : s₁.heap = s.heap := by rw [B.state]; rfl
    have ht : ∀ x ∈ c.exceptionTable.toList, False := by
      obtain ⟨meth9, c9, h1, h2, -, -, -, -, h7, -⟩ := Cond.code_spec B.named (atoms_spec (ws := ws) B.pre _ (by rw [hw]; exact List.mem_cons_self))
      cases Option.some.inj (h1.symm.trans B.method)
      cases Option.some.inj (h2.symm.trans (Stand.of_body B).code)
      intro x hx
      rw [Array.isEmpty_iff.mp h7] at hx
      cases hx
    obtain ⟨t, a1, o, b1, b2, b3⟩ := body p e s m args below meth c s₁ B hml ht hP s₁ hh0 (Stand.of_body B)
    exact ⟨t, o, a1, b1, b2, b3⟩
/-- the table of a body with handlers -/
theorem vx_table {p : Program} {x y : MethodName} {S : Spec} {cc bytes : ByteArray} {maxL maxL' : Nat} {ret ret' : Option FieldType} {e : Env} {s s₁ : State} {m : MethodId} {args : Array Value} {below : List Frame} {meth : Method} {c : Code} {hh : List (Nat × Nat × Nat × Nat)}
    (B : BodyLoose p l y S cc maxL ret e s m args below meth c s₁) (h : (Cond.codeWith y bytes maxL' ret' hh).before args s = true) : c.exceptionTable.toList = tableOf hh := by
  obtain ⟨m9, meth9, c9, hn9, h1, h2, -, -, h6, -⟩ := Cond.codeWith_spec h
  cases Option.some.inj (hn9.symm.trans B.named)
  cases Option.some.inj (h1.symm.trans B.method)
  cases Option.some.inj (h2.symm.trans (Stand.of_body B).code)
  rw [← h6, table_eq]
end Bodies
end VXA
/-! ===== END ===== -/
/-! ===== BEGIN a static call of a method with an exception table ===== -/
section VXS
variable {p : Program} {l : Launch} {e : Env} {R : Room} {s : State} {m : MethodId} {args : Array Value} {below : List Frame} {meth : Method} {c : Code} {T : State} {H : Heap} {locs : List Loc} {cells slots : Nat}
abbrev vx_CSW (R : Room) (s : State) (args : Array Value) (own : String) (index : Nat) (y : MethodName) (bytes : ByteArray) (maxL : Nat) (ret : Option FieldType) (hh : List (Nat × Nat × Nat × Nat)) (ws : List Cond) (rm : Room) (mc ms n : Nat) : Prop :=
  (rm.cells = mc ∧ rm.slots = ms ∧ rm.frames + 1 ≤ R.frames ∧ 8 + (maxL + 11) + rm.locals ≤ R.locals ∧ (∀ w ∈ ws, ∀ (a' : Array Value) (U : State), s.WarmedH U.vm → w.before a' U = true) ∧ Cond.codeWith y bytes maxL ret hh ∈ ws) ∧
  (Cond.codeWith y bytes maxL ret hh).before args s = true ∧ (Cond.initialized y.cls).before args s = true ∧ (y.cls ≠ "java/lang/invoke/MethodHandle" ∧ y.cls ≠ "java/lang/invoke/VarHandle") ∧
  (∀ sig, parseMethodDescriptor y.desc = some sig → n = sig.parameters.length) ∧ (Cond.methodLink own index y).before args s = true ∧ (Cond.static y).before args s = true
theorem vx_cwSW {own : String} {index maxL mc ms : Nat} {y : MethodName} {bytes : ByteArray} {ret : Option FieldType} {hh : List (Nat × Nat × Nat × Nat)} {Ts ws ws' : List Cond} {rm : Room} (n : Nat) (ht : ∀ w ∈ Ts, w.before args s = true) (hT : GoodIn Ts (va_wsS own index y ws)) (hw : ws = Cond.codeWith y bytes maxL ret hh :: ws') (hrc : rm.cells = mc) (hrs : rm.slots = ms)
    (hd : y.cls ≠ "java/lang/invoke/MethodHandle" ∧ y.cls ≠ "java/lang/invoke/VarHandle" ∧ (parseMethodDescriptor y.desc).map (fun d => d.parameters.length) = some n) (hR : rm.frames + 1 ≤ R.frames ∧ 8 + (maxL + 11) + rm.locals ≤ R.locals) :
    vx_CSW R s args own index y bytes maxL ret hh ws rm mc ms n := by
  have ok : ∀ w ∈ va_wsS own index y ws, w.before args s = true := fun w h => ht w (hT w h).1
  have hG : GoodIn Ts ws := fun w h => hT w (by unfold va_wsS; exact List.mem_append_right _ h)
  have hc : Cond.codeWith y bytes maxL ret hh ∈ ws := by rw [hw]; exact List.mem_cons_self
  refine ⟨⟨hrc, hrs, hR.1, hR.2, pay_in ht hG, hc⟩, ht _ (hG _ hc).1, ok _ (by simp [va_wsS]), ⟨hd.1, hd.2.1⟩, fun sig h => ?_, ok _ (by simp [va_wsS]), ok _ (by simp [va_wsS])⟩
  have h2 := hd.2.2
  rw [h] at h2
  exact (Option.some.inj h2).symm
theorem vx_callSW (X : Stand p l e R s m args below meth c T locs cells slots) (hexec : p.tables.exec = Jvm.exec) {own : String} {index : Nat} {y : MethodName} {bytes : ByteArray} {maxL : Nat} {ret : Option FieldType} {hh : List (Nat × Nat × Nat × Nat)}
    (hown : s.vm.findClass own = some m.cls) (hlink : (Cond.methodLink own index y).before args s = true) (hstat : (Cond.static y).before args s = true) (hinit : (Cond.initialized y.cls).before args s = true)
    (hcode : (Cond.codeWith y bytes maxL ret hh).before args s = true) (hy : y.cls ≠ "java/lang/invoke/MethodHandle" ∧ y.cls ≠ "java/lang/invoke/VarHandle")
    {W9 : Nat} {Pre : Pt → Array Value → Prop} {Post : Pt → Array Value → Option Value → Pt → Prop} (hK : Back l R p e below s args y 3 W9 Pre Post)
    {g : JFrame} (hg : g.method = m) (hsize : g.locals.size = c.maxLocals) {argsL rest : List Value} (hlen : ∀ sig, parseMethodDescriptor y.desc = some sig → argsL.length = sig.parameters.length)
    (hstack : g.stack = argsL.reverse ++ rest) (hW : 2 * g.monitorRoom + (rest.map fun v => v.category).sum ≤ W9) (hdg : decode c.code g.pc = .ok (.invokestatic index, 3))
    (hpre : ∀ vm₁, s.WarmedH vm₁ → Pre ⟨T.setVm vm₁, locs, cells, slots⟩ argsL.toArray) :
    ∃ (v : Option Value) (vm₁ : Vm) (B : Pt), s.WarmedH vm₁ ∧ Stand p l e R s m args below meth c B.U B.locs B.cells B.slots ∧ Post ⟨T.setVm vm₁, locs, cells, slots⟩ argsL.toArray v B ∧
      ∀ target, Steps p.tables e below (B.U.setTop { g with pc := g.pc + 3, stack := v.toList ++ rest }) target → Steps p.tables e below (T.setTop g) target := by
  obtain ⟨mk, methM, cM, hnamed, hmethM, -, -, -, -, -, -, hsigM⟩ := Cond.codeWith_spec hcode
  have hstatic : methM.isStatic = true := Cond.static_spec hnamed hmethM hstat
  obtain ⟨kP, hkP, -⟩ := className_of_methodNamed hnamed
  have hinitP : kP.init = .initialized := Cond.initialized_spec (findClass_of_methodNamed hnamed) hkP hinit
  obtain ⟨vm₁, X₁, hstep₁⟩ := X.invokestatic hexec hown hlink hnamed hmethM hstatic hkP hinitP hy (g := g) hg (argsL := argsL) (rest := rest) (hlen _ hsigM) hstack hdg
  obtain ⟨v, B, X', hpost, hsteps⟩ := hK m meth c ⟨T.setVm vm₁, locs, cells, slots⟩ { g with stack := rest } (.invokestatic index) mk argsL.toArray X₁ hg hsize hdg hW (X₁.named hnamed) (hpre vm₁ X₁.warmed)
  exact ⟨v, vm₁, B, X₁.warmed, X', hpost, fun target h => hstep₁ _ fun acts => by rw [doInvoke_state]; exact hsteps.trans h⟩
theorem vx_runSW {y : MethodName} {bytes cc : ByteArray} {maxL nL mc ms n index : Nat} {ret : Option FieldType} {hh : List (Nat × Nat × Nat × Nat)} {ws : List Cond} {rm : Room} {Pc : Array Value → State → Prop} {Qc : Array Value → State → Outcome → State → Prop} {free : Addr → Prop} {Ts : List Cond} {own : String} {As rest : List Value} {g : JFrame}
    (S : CallFix p m c cc nL s args Ts own) (hM : Met l y ws rm Pc Qc mc ms free) (cw : vx_CSW R s args own index y bytes maxL ret hh ws rm mc ms n) (hp : PreS s H Pc As)
    (hg : g.method = m) (hn : As.length = n) (hsize : g.locals.size = nL) (hstack : g.stack = As.reverse ++ rest) (hW : 2 * g.monitorRoom + (rest.map fun v => v.category).sum ≤ 8) (hdg : decode cc g.pc = .ok (.invokestatic index, 3)) (hf : cells + mc ≤ R.cells ∧ slots + ms ≤ R.slots) :
    va_Run p l e R s m args below meth c H locs cells slots mc ms g rest (Qc As.toArray) (free) := by
  obtain ⟨⟨hrc, hrs, hfr, hlo, hws, hcw⟩, hcode, hini, hy, hlen, hl, hstt⟩ := cw
  have hK : Back l R p e below s args y 3 8 (PreOf R mc ms Pc) (PostOf Qc mc ms free) := va_backW (hh := hh) (bytes := bytes) (maxL := maxL) (ret := ret) hM hp.1 hrc hrs hfr hlo hws hcw (fun a' U hW => word_at hW (Or.inl (by first | rfl | simp [Cond.onTables, Cond.keeps, Cond.steady])) hini)
  obtain ⟨hx, hb, hml, ho, -⟩ := S
  intro T hT X
  obtain ⟨v, vm₁, ⟨U', l2, c2, s2⟩, hW₁, X', ⟨g', mk, t, L, e1, e2, hq, h1, hL, h2, h3⟩, st⟩ := vx_callSW X hx (hh := hh) (bytes := bytes) (maxL := maxL) (ret := ret) ho hl hstt hini hcode hy hK hg (hsize.trans hml.symm) (argsL := As) (rest := rest) (fun sig h => hn.trans (hlen sig h)) hstack hW (by rw [hb]; exact hdg)
    (fun vm₁ hW₁ => ⟨hf.1, hf.2, hp.2 (T.setVm vm₁) hT hW₁⟩)
  dsimp only [Pt.U, Pt.locs, Pt.cells, Pt.slots] at X' e1 e2 h1 h2 h3 st
  subst h1; subst h2; subst h3
  exact ⟨v, (T.setVm vm₁).calling g' mk As.toArray, t, U', L, hT, X', hL, e1, e2, hq, st⟩
/-- not caught here, past rows that name other classes: it goes on to the caller -/
theorem vx_outP {p : Program} {l : Launch} {e : Env} {R : Room} {s : State} {m : MethodId} {args : Array Value} {below : List Frame} {meth : Method} {c : Code} {H : Heap} {locs : List Loc} {cells slots : Nat} {free : Addr → Prop} {ls : Array Slot} {rest : List Value} {Qc : Array Value → State → Outcome → State → Prop} {XC : String → State → State → Prop}
    {pc : Nat} {own E : String} {ce : Cell} {q : Addr} {mc ms : Nat} (hown : s.vm.findClass own = some m.cls) (hlocks : meth.locks = false)
    (hpass : ∀ z ∈ c.exceptionTable.toList, covers z pc = false ∨ (z.catchType ≠ 0 ∧ ∃ nm : String, (Cond.classLink own z.catchType nm).before args s = true ∧ va_Nc E nm s)) (hcell : H[q]? = some ce) (hv : ce.vm = .none) (hcl : s.vm.findClass E = some ce.cls)
    (hx : ∀ t : State, t.heap = H → s.vm.Alike t.vm → XC E s t) (hf : ∀ z ∈ locs, free z.base) (hc : cells ≤ mc) (hs : slots ≤ ms) :
    vx_W p l e R s m args below meth c H locs cells slots (vx_MQ below Qc XC args s mc ms free) (F0 m pc ls rest) q := by
  intro T hT X
  have hpl : e.platform.magicAccessors = ({} : Platform).magicAccessors := by rw [X.admits.platform]
  obtain ⟨vm', hW', X', st⟩ := X.outThrough hlocks q (g := F0 m pc ls rest) rfl rfl rfl (cell := ce) (by rw [hT]; exact hcell) (by rw [hv]; rfl)
    (by obtain ⟨k9, h9, -⟩ := Vm.findClass_spec hcl; exact ⟨k9, h9⟩) (fun z hz => by
      rcases hpass z hz with h | ⟨hz0, nm, hl1, hn1⟩
      · exact Or.inl h
      · obtain ⟨c6, hc6, hcl6⟩ := Cond.classLink_spec hown hl1 e.platform hpl
        obtain ⟨a8, b8, h1, h2, h3⟩ := hn1
        cases Option.some.inj (h1.symm.trans hcl)
        cases Option.some.inj (h2.symm.trans hc6)
        exact Or.inr ⟨hz0, _, hcl6, h3⟩)
  obtain ⟨g₀, hfr⟩ := X'.frames_eq
  have hcell9 : ((T.setVm vm').setFrames (.throwing q :: below)).heap[q]? = some ce := by
    show T.heap[q]? = some ce
    rw [hT]; exact hcell
  have hend : Ended ((T.setVm vm').setFrames (.throwing q :: below)) below (.threw q) := State.frames_setFrames _ (State.cur_lt_of_frames hfr)
  refine ⟨(T.setVm vm').setFrames (.throwing q :: below), ?_, .threw q, X'.here.running, hend, Or.inr ⟨q, rfl, E, ce, locs, hx _ hT (X'.ends _).1.alike, hcell9, hv, hcl, (X'.ends _).1, (X'.ends _).2.mono hc hs, hf⟩⟩
  rw [X.pushThrowing_eq]
  exact st
/-- a thing of a world lies in the heap -/
theorem vx_lt {D : va_G} {cl : List vw_C} {ws : va_W} {H1 : Heap} (h : va_P D cl ws H1) {k : Nat} {q : Nat × va_E} (hk : ws[k]? = some q) : q.1 < H1.size := (h k q hk).lt
end VXS
/-! ===== END ===== -/
/-! ===== BEGIN methods with a table of their own: called by a name, returning or throwing ===== -/
section VXH
/-! vx_backW, vx_callVX, vx_callSX, vx_callVW, vx_runVW, vx_runVX, vx_runSX, vx_ofWH follow the same proofs as their sisters above (Free/Laws.lean, Shelf42/LK1.lean); vx_outP calls Shelf42/NT130.lean (outThrough). -/
section
variable {l : Launch} {R : Room} {p : Program} {e : Env} {below : List Frame} {s : State} {sargs : Array Value} {y : MethodName} {len W9 : Nat}
theorem vx_backW {ws : List Cond} {rm : Room} {Pc : Array Value → State → Prop} {Qc : Array Value → State → Outcome → State → Prop} {XC : String → State → State → Prop} {mc ms : Nat} {free : Addr → Prop} {bytes : ByteArray} {maxL : Nat} {ret : Option FieldType} {hh : List (Nat × Nat × Nat × Nat)}
    (hM : vx_Met l y ws rm Pc Qc XC mc ms free) (hblind : FrameBlind Pc) (hrc : rm.cells = mc) (hrs : rm.slots = ms)
    (hframes : rm.frames + 1 ≤ R.frames) (hlocals : W9 + (maxL + 11) + rm.locals ≤ R.locals)
    (hws : ∀ w ∈ ws, ∀ a' U, s.WarmedH U.vm → w.before a' U = true) (hcode : Cond.codeWith y bytes maxL ret hh ∈ ws) (hinit : ∀ a' U, s.WarmedH U.vm → (Cond.initialized y.cls).before a' U = true) :
    vx_Back l R p e below s sargs y len W9 (PreOf R mc ms Pc) (PostOf Qc mc ms free) (vx_Post XC mc ms free) := by
  intro m meth c A g ig mk a X hg hsize hdg hW hn hp
  have h1 : (headSpec ws rm).pre.before a A.U = true := atoms_intro fun w hw => hws w hw _ _ X.warmed
  have h2 : (Cond.codeWith y bytes maxL ret hh).before a A.U = true := hws _ hcode _ _ X.warmed
  have h3 : (Cond.initialized y.cls).before a A.U = true := hinit _ _ X.warmed
  have h4 : A.cells + (headSpec ws rm).room.cells ≤ R.cells := by rw [show (headSpec ws rm).room.cells = mc from hrc]; exact hp.1
  have h5 : A.slots + (headSpec ws rm).room.slots ≤ R.slots := by rw [show (headSpec ws rm).room.slots = ms from hrs]; exact hp.2.1
  have hPc : Pc a (A.U.calling g mk a) := hblind _ _ _ _ hp.2.2
  obtain ⟨U, Ls, c0, s0⟩ := A
  dsimp only [Pt.U, Pt.locs, Pt.cells, Pt.slots] at h1 h2 h3 h4 h5 X hn hPc ⊢
  obtain ⟨m9, methY, cY, hn9, hmY, hcY, -, hlY, -⟩ := Cond.codeWith_spec h2
  cases Option.some.inj (hn9.symm.trans hn)
  obtain ⟨kY, hkY, -⟩ := className_of_methodNamed hn
  have hinitY : kY.init = .initialized := Cond.initialized_spec (findClass_of_methodNamed hn) hkY h3
  have h : At U g.method c below := by rw [hg]; exact X.here
  have hlocals9 : W9 + (maxL + 11) + (headSpec ws rm).room.locals ≤ R.locals := hlocals
  have happ : (headSpec ws rm).appliesLoose y e.platform (U.calling g mk a) = true :=
    Spec.appliesLoose_calling (g := g) h hdg hn hkY hinitY
      (X.room_calling (g := g) (R' := (headSpec ws rm).room) hsize hmY hcY hframes (by rw [hlY]; omega) h4 h5) h1
  obtain ⟨mid, hmid⟩ := h.above
  have hfr : (U.setTop g).frames = (.java g :: mid) ++ below := by rw [State.frames_setTop' g h.top, hmid]; rfl
  obtain ⟨o, s₂, hsteps, -, hend, hq⟩ := Steps.callFree hM p X.admits X.cas X.clock (acts := []) hfr happ hPc trivial
  have hq' : vx_Q Qc XC mc ms free a (U.calling g mk a) o s₂ := hq
  rw [State.frames_setTop' g h.top] at hend
  obtain ⟨g₀, hg0⟩ := Option.isSome_iff_exists.mp h.top
  obtain ⟨r, hr⟩ := State.topJava?_eq_some.mp hg0
  have hr' : (({ U with heap := s₂.heap, slotsUsed := s₂.slotsUsed } : State).setVm s₂.vm).frames = .java g₀ :: r := hr
  rcases hq' with ⟨hqc, L, hfe, hL⟩ | ⟨q, rfl, E, ce, L, hx, hce, hcv, hcl, hW₂, hsm, hL⟩
  · obtain ⟨⟨v, rfl⟩, hW₂, e2, q2, q3, q4, q5, q6⟩ := id hfe
    have e3 : s₂ = ({ (U.calling g mk a).setFrames s₂.frames with heap := s₂.heap, slotsUsed := s₂.slotsUsed } : State).setVm s₂.vm := by
      have : s₂ = ({ s₂ with vm := (U.calling g mk a).vm } : State).setVm s₂.vm := rfl
      rw [e2] at this
      exact this
    obtain ⟨c₂, i₂, len₂, hc₂, hd₂, hf₂⟩ := hend
    have hW' : U.WarmedH s₂.vm := hW₂
    have hcc : c₂ = c := by
      have h1 : s₂.code? g.method = U.code? g.method := by
        rw [State.code?_eq, State.code?_eq, hW'.alike.method?]
      exact Option.some.inj (hc₂.symm.trans (h1.trans h.code))
    subst hcc
    have hlen : len₂ = len := by rw [hdg] at hd₂; cases hd₂; rfl
    subst hlen
    have hs₂ : s₂ = (({ U with heap := s₂.heap, slotsUsed := s₂.slotsUsed } : State).setVm s₂.vm).setTop { g with pc := g.pc + len₂, stack := v.toList ++ g.stack } := by
      refine e3.trans ?_
      rw [hf₂, State.calling_eq h.top, State.setFrames_setFrames, State.setTop_of_frames _ hr', hr]
      rfl
    have hsame : U.sameButNew ({ U with heap := s₂.heap, slotsUsed := s₂.slotsUsed } : State) L mc ms := by
      refine ⟨?_, q2, q3, q4, q5, q6⟩
      obtain ⟨t, ht, -⟩ := State.frames_cons hr
      show ({ U with heap := s₂.heap, slotsUsed := s₂.slotsUsed } : State) = { U.setFrames U.frames with heap := s₂.heap, slotsUsed := s₂.slotsUsed }
      rw [State.setFrames_self ht]
    subst hg
    refine Or.inl ⟨v, ⟨(({ U with heap := s₂.heap, slotsUsed := s₂.slotsUsed } : State).setVm s₂.vm), Ls ++ L, c0 + mc, s0 + ms⟩,
      ⟨X.admits, X.cas, X.clock, X.frames, X.room, X.hears, X.method, X.code, (X.here.setHeapUsed s₂.heap s₂.slotsUsed).setVm hW'.alike, X.tail, State.WarmedH.trans X.warmed hW', X.limits, X.bytes, X.same.trans (hsame.setVm s.vm)⟩,
      ⟨g, mk, s₂, L, rfl, rfl, hqc, rfl, hL, rfl, rfl⟩, ?_⟩
    show Steps p.tables e below _ ((({ U with heap := s₂.heap, slotsUsed := s₂.slotsUsed } : State).setVm s₂.vm).setTop { g with pc := g.pc + len₂, stack := v.toList ++ g.stack })
    rw [← hs₂]
    exact hsteps
  · obtain ⟨e2, q2, q3, q4, q5, q6⟩ := id hsm
    have e3 : s₂ = ({ (U.calling g mk a).setFrames s₂.frames with heap := s₂.heap, slotsUsed := s₂.slotsUsed } : State).setVm s₂.vm := by
      have : s₂ = ({ s₂ with vm := (U.calling g mk a).vm } : State).setVm s₂.vm := rfl
      rw [e2] at this
      exact this
    have hf₂ : s₂.frames = .throwing q :: .java g :: U.frames.tail := hend
    have hW' : U.WarmedH s₂.vm := hW₂
    have hs₂ : s₂ = ((({ U with heap := s₂.heap, slotsUsed := s₂.slotsUsed } : State).setVm s₂.vm).setTop g).pushFrame (.throwing q) := by
      refine e3.trans ?_
      rw [hf₂, State.calling_eq h.top, State.setFrames_setFrames, State.pushFrame, State.frames_setTop _ hr', State.setTop_of_frames _ hr', State.setFrames_setFrames, hr]
      rfl
    have hsame : U.sameButNew ({ U with heap := s₂.heap, slotsUsed := s₂.slotsUsed } : State) L mc ms := by
      refine ⟨?_, q2, q3, q4, q5, q6⟩
      obtain ⟨t, ht, -⟩ := State.frames_cons hr
      show ({ U with heap := s₂.heap, slotsUsed := s₂.slotsUsed } : State) = { U.setFrames U.frames with heap := s₂.heap, slotsUsed := s₂.slotsUsed }
      rw [State.setFrames_self ht]
    subst hg
    refine Or.inr ⟨q, ⟨(({ U with heap := s₂.heap, slotsUsed := s₂.slotsUsed } : State).setVm s₂.vm), Ls ++ L, c0 + mc, s0 + ms⟩,
      ⟨X.admits, X.cas, X.clock, X.frames, X.room, X.hears, X.method, X.code, (X.here.setHeapUsed s₂.heap s₂.slotsUsed).setVm hW'.alike, X.tail, State.WarmedH.trans X.warmed hW', X.limits, X.bytes, X.same.trans (hsame.setVm s.vm)⟩,
      ⟨g, mk, s₂, L, E, ce, rfl, rfl, hx, hce, hcv, hcl, rfl, hL, rfl, rfl⟩, ?_⟩
    show Steps p.tables e below _ (((({ U with heap := s₂.heap, slotsUsed := s₂.slotsUsed } : State).setVm s₂.vm).setTop g).pushFrame (.throwing q))
    rw [← hs₂]
    exact hsteps
end
variable {p : Program} {l : Launch} {e : Env} {R : Room} {s : State} {m : MethodId} {args : Array Value} {below : List Frame} {meth : Method} {c : Code} {T : State} {H : Heap} {locs : List Loc} {cells slots : Nat}
theorem vx_callVX (X : Stand p l e R s m args below meth c T locs cells slots) (hexec : p.tables.exec = Jvm.exec) {own C : String} {index : Nat} {y : MethodName} {bytes : ByteArray} {maxL : Nat} {ret : Option FieldType} {hh : List (Nat × Nat × Nat × Nat)}
    (hown : s.vm.findClass own = some m.cls) (hlink : (Cond.methodLink own index y).before args s = true) (hinst : (Cond.instanceMethod y).before args s = true) (hsel : (Cond.selects C y y).before args s = true)
    (hcode : (Cond.codeWith y bytes maxL ret hh).before args s = true) (hy : y.cls ≠ "java/lang/invoke/MethodHandle" ∧ y.cls ≠ "java/lang/invoke/VarHandle")
    {W9 : Nat} {Pre : Pt → Array Value → Prop} {Post : Pt → Array Value → Option Value → Pt → Prop} {PostX : Pt → Array Value → Addr → Pt → Prop} (hK : vx_Back l R p e below s args y 3 W9 Pre Post PostX)
    {b : Addr} {cellB : Cell} (hcell : T.heap[b]? = some cellB) (hobj : cellB.vm.isStatics = false) (hcls : s.vm.findClass C = some cellB.cls)
    {g : JFrame} (hg : g.method = m) (hsize : g.locals.size = c.maxLocals) {argsL rest : List Value} (hlen : ∀ sig, parseMethodDescriptor y.desc = some sig → argsL.length = sig.parameters.length)
    (hstack : g.stack = argsL.reverse ++ .ref b :: rest) (hW : 2 * g.monitorRoom + (rest.map fun v => v.category).sum ≤ W9) (hdg : decode c.code g.pc = .ok (.invokevirtual index, 3))
    (hpre : ∀ vm₁, s.WarmedH vm₁ → Pre ⟨T.setVm vm₁, locs, cells, slots⟩ (Value.ref b :: argsL).toArray) :
    (∃ (v : Option Value) (vm₁ : Vm) (B : Pt), s.WarmedH vm₁ ∧ Stand p l e R s m args below meth c B.U B.locs B.cells B.slots ∧ Post ⟨T.setVm vm₁, locs, cells, slots⟩ (Value.ref b :: argsL).toArray v B ∧
      ∀ target, Steps p.tables e below (B.U.setTop { g with pc := g.pc + 3, stack := v.toList ++ rest }) target → Steps p.tables e below (T.setTop g) target) ∨
    (∃ (q : Addr) (vm₁ : Vm) (B : Pt), s.WarmedH vm₁ ∧ Stand p l e R s m args below meth c B.U B.locs B.cells B.slots ∧ PostX ⟨T.setVm vm₁, locs, cells, slots⟩ (Value.ref b :: argsL).toArray q B ∧
      Steps p.tables e below (T.setTop g) ((B.U.setTop { g with stack := rest }).pushFrame (.throwing q))) := by
  obtain ⟨mk, methM, hnamed, hmethM, hstM, habM⟩ := Cond.instanceMethod_spec hinst
  obtain ⟨m8, methM', cM, hn8, hmethM', -, -, -, -, -, -, hsigM⟩ := Cond.codeWith_spec hcode
  cases Option.some.inj (hn8.symm.trans hnamed)
  cases hmethM.symm.trans hmethM'
  obtain ⟨c2, r2, m2, q1, q2, q3, q4, kP, hkP, hkPi⟩ := Cond.selects_spec hsel
  cases hcls.symm.trans q1
  cases (State.methodFound?_of_named hnamed hy).symm.trans q2
  cases hnamed.symm.trans q3
  have hselP : selectMethod e.platform s.vm cellB.cls mk = .method mk := by rw [Launch.admits_selectMethod X.admits]; exact q4
  obtain ⟨vm₁, X₁, hstep₁⟩ := X.invokevirtual hexec hown hlink hnamed hmethM hstM hkP hkPi hy (a := b) (cell := cellB) hcell
    (fun z h => by rw [h] at hobj; cases hobj) hselP hmethM habM hkP hkPi (g := g) hg (argsL := argsL) (rest := rest) (hlen _ hsigM) hstack hdg
  rcases hK m meth c ⟨T.setVm vm₁, locs, cells, slots⟩ { g with stack := rest } (.invokevirtual index) mk (Value.ref b :: argsL).toArray X₁ hg hsize hdg hW (X₁.named hnamed) (hpre vm₁ X₁.warmed) with ⟨v, B, X', hpost, hsteps⟩ | ⟨q, B, X', hpost, hsteps⟩
  · exact Or.inl ⟨v, vm₁, B, X₁.warmed, X', hpost, fun target h => hstep₁ _ fun acts => by rw [doInvoke_state]; exact hsteps.trans h⟩
  · exact Or.inr ⟨q, vm₁, B, X₁.warmed, X', hpost, hstep₁ _ fun acts => by rw [doInvoke_state]; exact hsteps⟩
theorem vx_callSX (X : Stand p l e R s m args below meth c T locs cells slots) (hexec : p.tables.exec = Jvm.exec) {own : String} {index : Nat} {y : MethodName} {bytes : ByteArray} {maxL : Nat} {ret : Option FieldType} {hh : List (Nat × Nat × Nat × Nat)}
    (hown : s.vm.findClass own = some m.cls) (hlink : (Cond.methodLink own index y).before args s = true) (hstat : (Cond.static y).before args s = true) (hinit : (Cond.initialized y.cls).before args s = true)
    (hcode : (Cond.codeWith y bytes maxL ret hh).before args s = true) (hy : y.cls ≠ "java/lang/invoke/MethodHandle" ∧ y.cls ≠ "java/lang/invoke/VarHandle")
    {W9 : Nat} {Pre : Pt → Array Value → Prop} {Post : Pt → Array Value → Option Value → Pt → Prop} {PostX : Pt → Array Value → Addr → Pt → Prop} (hK : vx_Back l R p e below s args y 3 W9 Pre Post PostX)
    {g : JFrame} (hg : g.method = m) (hsize : g.locals.size = c.maxLocals) {argsL rest : List Value} (hlen : ∀ sig, parseMethodDescriptor y.desc = some sig → argsL.length = sig.parameters.length)
    (hstack : g.stack = argsL.reverse ++ rest) (hW : 2 * g.monitorRoom + (rest.map fun v => v.category).sum ≤ W9) (hdg : decode c.code g.pc = .ok (.invokestatic index, 3))
    (hpre : ∀ vm₁, s.WarmedH vm₁ → Pre ⟨T.setVm vm₁, locs, cells, slots⟩ argsL.toArray) :
    (∃ (v : Option Value) (vm₁ : Vm) (B : Pt), s.WarmedH vm₁ ∧ Stand p l e R s m args below meth c B.U B.locs B.cells B.slots ∧ Post ⟨T.setVm vm₁, locs, cells, slots⟩ argsL.toArray v B ∧
      ∀ target, Steps p.tables e below (B.U.setTop { g with pc := g.pc + 3, stack := v.toList ++ rest }) target → Steps p.tables e below (T.setTop g) target) ∨
    (∃ (q : Addr) (vm₁ : Vm) (B : Pt), s.WarmedH vm₁ ∧ Stand p l e R s m args below meth c B.U B.locs B.cells B.slots ∧ PostX ⟨T.setVm vm₁, locs, cells, slots⟩ argsL.toArray q B ∧
      Steps p.tables e below (T.setTop g) ((B.U.setTop { g with stack := rest }).pushFrame (.throwing q))) := by
  obtain ⟨mk, methM, cM, hnamed, hmethM, -, -, -, -, -, -, hsigM⟩ := Cond.codeWith_spec hcode
  have hstatic : methM.isStatic = true := Cond.static_spec hnamed hmethM hstat
  obtain ⟨kP, hkP, -⟩ := className_of_methodNamed hnamed
  have hinitP : kP.init = .initialized := Cond.initialized_spec (findClass_of_methodNamed hnamed) hkP hinit
  obtain ⟨vm₁, X₁, hstep₁⟩ := X.invokestatic hexec hown hlink hnamed hmethM hstatic hkP hinitP hy (g := g) hg (argsL := argsL) (rest := rest) (hlen _ hsigM) hstack hdg
  rcases hK m meth c ⟨T.setVm vm₁, locs, cells, slots⟩ { g with stack := rest } (.invokestatic index) mk argsL.toArray X₁ hg hsize hdg hW (X₁.named hnamed) (hpre vm₁ X₁.warmed) with ⟨v, B, X', hpost, hsteps⟩ | ⟨q, B, X', hpost, hsteps⟩
  · exact Or.inl ⟨v, vm₁, B, X₁.warmed, X', hpost, fun target h => hstep₁ _ fun acts => by rw [doInvoke_state]; exact hsteps.trans h⟩
  · exact Or.inr ⟨q, vm₁, B, X₁.warmed, X', hpost, hstep₁ _ fun acts => by rw [doInvoke_state]; exact hsteps⟩
theorem vx_callVW (X : Stand p l e R s m args below meth c T locs cells slots) (hexec : p.tables.exec = Jvm.exec) {own C : String} {index : Nat} {y : MethodName} {bytes : ByteArray} {maxL : Nat} {ret : Option FieldType} {hh : List (Nat × Nat × Nat × Nat)}
    (hown : s.vm.findClass own = some m.cls) (hlink : (Cond.methodLink own index y).before args s = true) (hinst : (Cond.instanceMethod y).before args s = true) (hsel : (Cond.selects C y y).before args s = true)
    (hcode : (Cond.codeWith y bytes maxL ret hh).before args s = true) (hy : y.cls ≠ "java/lang/invoke/MethodHandle" ∧ y.cls ≠ "java/lang/invoke/VarHandle")
    {W9 : Nat} {Pre : Pt → Array Value → Prop} {Post : Pt → Array Value → Option Value → Pt → Prop} (hK : Back l R p e below s args y 3 W9 Pre Post)
    {b : Addr} {cellB : Cell} (hcell : T.heap[b]? = some cellB) (hobj : cellB.vm.isStatics = false) (hcls : s.vm.findClass C = some cellB.cls)
    {g : JFrame} (hg : g.method = m) (hsize : g.locals.size = c.maxLocals) {argsL rest : List Value} (hlen : ∀ sig, parseMethodDescriptor y.desc = some sig → argsL.length = sig.parameters.length)
    (hstack : g.stack = argsL.reverse ++ .ref b :: rest) (hW : 2 * g.monitorRoom + (rest.map fun v => v.category).sum ≤ W9) (hdg : decode c.code g.pc = .ok (.invokevirtual index, 3))
    (hpre : ∀ vm₁, s.WarmedH vm₁ → Pre ⟨T.setVm vm₁, locs, cells, slots⟩ (Value.ref b :: argsL).toArray) :
    ∃ (v : Option Value) (vm₁ : Vm) (B : Pt), s.WarmedH vm₁ ∧ Stand p l e R s m args below meth c B.U B.locs B.cells B.slots ∧ Post ⟨T.setVm vm₁, locs, cells, slots⟩ (Value.ref b :: argsL).toArray v B ∧
      ∀ target, Steps p.tables e below (B.U.setTop { g with pc := g.pc + 3, stack := v.toList ++ rest }) target → Steps p.tables e below (T.setTop g) target := by
  obtain ⟨mk, methM, hnamed, hmethM, hstM, habM⟩ := Cond.instanceMethod_spec hinst
  obtain ⟨m8, methM', cM, hn8, hmethM', -, -, -, -, -, -, hsigM⟩ := Cond.codeWith_spec hcode
  cases Option.some.inj (hn8.symm.trans hnamed)
  cases hmethM.symm.trans hmethM'
  obtain ⟨c2, r2, m2, q1, q2, q3, q4, kP, hkP, hkPi⟩ := Cond.selects_spec hsel
  cases hcls.symm.trans q1
  cases (State.methodFound?_of_named hnamed hy).symm.trans q2
  cases hnamed.symm.trans q3
  have hselP : selectMethod e.platform s.vm cellB.cls mk = .method mk := by rw [Launch.admits_selectMethod X.admits]; exact q4
  obtain ⟨vm₁, X₁, hstep₁⟩ := X.invokevirtual hexec hown hlink hnamed hmethM hstM hkP hkPi hy (a := b) (cell := cellB) hcell
    (fun z h => by rw [h] at hobj; cases hobj) hselP hmethM habM hkP hkPi (g := g) hg (argsL := argsL) (rest := rest) (hlen _ hsigM) hstack hdg
  obtain ⟨v, B, X', hpost, hsteps⟩ := hK m meth c ⟨T.setVm vm₁, locs, cells, slots⟩ { g with stack := rest } (.invokevirtual index) mk (Value.ref b :: argsL).toArray X₁ hg hsize hdg hW (X₁.named hnamed) (hpre vm₁ X₁.warmed)
  exact ⟨v, vm₁, B, X₁.warmed, X', hpost, fun target h => hstep₁ _ fun acts => by rw [doInvoke_state]; exact hsteps.trans h⟩
abbrev vx_CVW (R : Room) (s : State) (args : Array Value) (own C : String) (index : Nat) (y : MethodName) (bytes : ByteArray) (maxL : Nat) (ret : Option FieldType) (hh : List (Nat × Nat × Nat × Nat)) (ws : List Cond) (rm : Room) (mc ms n : Nat) : Prop :=
  (rm.cells = mc ∧ rm.slots = ms ∧ rm.frames + 1 ≤ R.frames ∧ 8 + (maxL + 11) + rm.locals ≤ R.locals ∧ (∀ w ∈ ws, ∀ (a' : Array Value) (U : State), s.WarmedH U.vm → w.before a' U = true) ∧ Cond.codeWith y bytes maxL ret hh ∈ ws) ∧
  (Cond.codeWith y bytes maxL ret hh).before args s = true ∧ (Cond.initialized y.cls).before args s = true ∧ (y.cls ≠ "java/lang/invoke/MethodHandle" ∧ y.cls ≠ "java/lang/invoke/VarHandle") ∧
  (∀ sig, parseMethodDescriptor y.desc = some sig → n = sig.parameters.length) ∧ (Cond.methodLink own index y).before args s = true ∧ (Cond.instanceMethod y).before args s = true ∧ (Cond.selects C y y).before args s = true
theorem vx_cwVW {own C : String} {index maxL mc ms : Nat} {y : MethodName} {bytes : ByteArray} {ret : Option FieldType} {hh : List (Nat × Nat × Nat × Nat)} {Ts ws ws' : List Cond} {rm : Room} (n : Nat) (ht : ∀ w ∈ Ts, w.before args s = true) (hT : GoodIn Ts (wsV own index C y ws)) (hw : ws = Cond.codeWith y bytes maxL ret hh :: ws') (hrc : rm.cells = mc) (hrs : rm.slots = ms)
    (hd : y.cls = C ∧ y.cls ≠ "java/lang/invoke/MethodHandle" ∧ y.cls ≠ "java/lang/invoke/VarHandle" ∧ (parseMethodDescriptor y.desc).map (fun d => d.parameters.length) = some n) (hR : rm.frames + 1 ≤ R.frames ∧ 8 + (maxL + 11) + rm.locals ≤ R.locals) :
    vx_CVW R s args own C index y bytes maxL ret hh ws rm mc ms n := by
  obtain ⟨hC, hd⟩ := hd
  subst hC
  have ok : ∀ w ∈ wsV own index y.cls y ws, w.before args s = true := fun w h => ht w (hT w h).1
  have hG : GoodIn Ts ws := fun w h => hT w (by unfold wsV; exact List.mem_append_right _ h)
  have hc : Cond.codeWith y bytes maxL ret hh ∈ ws := by rw [hw]; exact List.mem_cons_self
  refine ⟨⟨hrc, hrs, hR.1, hR.2, pay_in ht hG, hc⟩, ht _ (hG _ hc).1, ok _ (by simp [wsV]), ⟨hd.1, hd.2.1⟩, fun sig h => ?_, ok _ (by simp [wsV]), ok _ (by simp [wsV]), ok _ (by simp [wsV])⟩
  have h2 := hd.2.2
  rw [h] at h2
  exact (Option.some.inj h2).symm
theorem vx_runVW {y : MethodName} {bytes cc : ByteArray} {maxL nL mc ms n index : Nat} {ret : Option FieldType} {hh : List (Nat × Nat × Nat × Nat)} {ws : List Cond} {rm : Room} {Pc : Array Value → State → Prop} {Qc : Array Value → State → Outcome → State → Prop} {free : Addr → Prop} {Ts : List Cond} {own C : String} {b : Addr} {As rest : List Value} {g : JFrame}
    (S : CallFix p m c cc nL s args Ts own) (hM : Met l y ws rm Pc Qc mc ms free) (cw : vx_CVW R s args own C index y bytes maxL ret hh ws rm mc ms n) (hp : PreV s H C b Pc As)
    (hg : g.method = m) (hn : As.length = n) (hsize : g.locals.size = nL) (hstack : g.stack = As.reverse ++ .ref b :: rest) (hW : 2 * g.monitorRoom + (rest.map fun v => v.category).sum ≤ 8) (hdg : decode cc g.pc = .ok (.invokevirtual index, 3)) (hf : cells + mc ≤ R.cells ∧ slots + ms ≤ R.slots) :
    va_Run p l e R s m args below meth c H locs cells slots mc ms g rest (Qc (Value.ref b :: As).toArray) free := by
  obtain ⟨⟨hrc, hrs, hfr, hlo, hws, hcw⟩, hcode, hini, hy, hlen, hl, hin, hse⟩ := cw
  have hK : Back l R p e below s args y 3 8 (PreOf R mc ms Pc) (PostOf Qc mc ms free) := va_backW (hh := hh) (bytes := bytes) (maxL := maxL) (ret := ret) hM hp.1 hrc hrs hfr hlo hws hcw (fun a' U hW => word_at hW (Or.inl (by first | rfl | simp [Cond.onTables, Cond.keeps, Cond.steady])) hini)
  obtain ⟨hx, hb, hml, ho, -⟩ := S
  obtain ⟨-, ⟨cellB, hcB, hoB, hclB⟩, hPc⟩ := hp
  intro T hT X
  obtain ⟨v, vm₁, ⟨U', l2, c2, s2⟩, hW₁, X', ⟨g', mk, t, L, e1, e2, hq, h1, hL, h2, h3⟩, st⟩ := vx_callVW X hx (C := C) (hh := hh) (bytes := bytes) (maxL := maxL) (ret := ret) ho hl hin hse hcode hy hK (by rw [hT]; exact hcB) hoB hclB hg (hsize.trans hml.symm) (argsL := As) (rest := rest) (fun sig h => hn.trans (hlen sig h)) hstack hW (by rw [hb]; exact hdg)
    (fun vm₁ hW₁ => ⟨hf.1, hf.2, hPc (T.setVm vm₁) hT hW₁⟩)
  dsimp only [Pt.U, Pt.locs, Pt.cells, Pt.slots] at X' e1 e2 h1 h2 h3 st
  subst h1; subst h2; subst h3
  exact ⟨v, (T.setVm vm₁).calling g' mk (Value.ref b :: As).toArray, t, U', L, hT, X', hL, e1, e2, hq, st⟩
section
variable {y : MethodName} {bytes cc : ByteArray} {maxL nL mc ms n index : Nat} {ret : Option FieldType} {ws : List Cond} {rm : Room} {Pc : Array Value → State → Prop} {Qc : Array Value → State → Outcome → State → Prop} {XC : String → State → State → Prop} {free : Addr → Prop} {Ts : List Cond} {own C : String} {b : Addr} {As rest : List Value} {g : JFrame}
theorem vx_runVX {hh : List (Nat × Nat × Nat × Nat)} (S : CallFix p m c cc nL s args Ts own) (hM : vx_Met l y ws rm Pc Qc XC mc ms free) (cw : vx_CVW R s args own C index y bytes maxL ret hh ws rm mc ms n) (hp : PreV s H C b Pc As)
    (hg : g.method = m) (hn : As.length = n) (hsize : g.locals.size = nL) (hstack : g.stack = As.reverse ++ .ref b :: rest) (hW : 2 * g.monitorRoom + (rest.map fun v => v.category).sum ≤ 8) (hdg : decode cc g.pc = .ok (.invokevirtual index, 3)) (hf : cells + mc ≤ R.cells ∧ slots + ms ≤ R.slots) :
    vx_Run p l e R s m args below meth c H locs cells slots mc ms g rest (Qc (Value.ref b :: As).toArray) XC free := by
  obtain ⟨⟨hrc, hrs, hfr, hlo, hws, hcw⟩, hcode, hini, hy, hlen, hl, hin, hse⟩ := cw
  have hK : vx_Back l R p e below s args y 3 8 (PreOf R mc ms Pc) (PostOf Qc mc ms free) (vx_Post XC mc ms free) := vx_backW (hh := hh) (bytes := bytes) (maxL := maxL) (ret := ret) hM hp.1 hrc hrs hfr hlo hws hcw (fun a' U hW => word_at hW (Or.inl (by first | rfl | simp [Cond.onTables, Cond.keeps, Cond.steady])) hini)
  obtain ⟨hx, hb, hml, ho, -⟩ := S
  obtain ⟨-, ⟨cellB, hcB, hoB, hclB⟩, hPc⟩ := hp
  intro T hT X
  rcases vx_callVX X hx (C := C) (hh := hh) (bytes := bytes) (maxL := maxL) (ret := ret) ho hl hin hse hcode hy hK (by rw [hT]; exact hcB) hoB hclB hg (hsize.trans hml.symm) (argsL := As) (rest := rest) (fun sig h => hn.trans (hlen sig h)) hstack hW (by rw [hb]; exact hdg)
    (fun vm₁ hW₁ => ⟨hf.1, hf.2, hPc (T.setVm vm₁) hT hW₁⟩) with ⟨v, vm₁, ⟨U', l2, c2, s2⟩, hW₁, X', ⟨g', mk, t, L, e1, e2, hq, h1, hL, h2, h3⟩, st⟩ | ⟨q, vm₁, ⟨U', l2, c2, s2⟩, hW₁, X', ⟨g', mk, t, L, E, ce, e1, e2, hq, hce, hcv, hcl, h1, hL, h2, h3⟩, st⟩
  · dsimp only [Pt.U, Pt.locs, Pt.cells, Pt.slots] at X' e1 e2 h1 h2 h3 st
    subst h1; subst h2; subst h3
    exact Or.inl ⟨v, (T.setVm vm₁).calling g' mk (Value.ref b :: As).toArray, t, U', L, hT, X', hL, e1, e2, hq, st⟩
  · dsimp only [Pt.U, Pt.locs, Pt.cells, Pt.slots] at X' e1 e2 h1 h2 h3 st hcl
    subst h1; subst h2; subst h3
    exact Or.inr ⟨q, (T.setVm vm₁).calling g' mk (Value.ref b :: As).toArray, t, U', L, E, ce, hT, X', hL, e1, e2, hq, hce, hcv, vx_cls hW₁ hcl, st⟩
theorem vx_runSX {hh : List (Nat × Nat × Nat × Nat)} (S : CallFix p m c cc nL s args Ts own) (hM : vx_Met l y ws rm Pc Qc XC mc ms free) (cw : vx_CSW R s args own index y bytes maxL ret hh ws rm mc ms n) (hp : PreS s H Pc As)
    (hg : g.method = m) (hn : As.length = n) (hsize : g.locals.size = nL) (hstack : g.stack = As.reverse ++ rest) (hW : 2 * g.monitorRoom + (rest.map fun v => v.category).sum ≤ 8) (hdg : decode cc g.pc = .ok (.invokestatic index, 3)) (hf : cells + mc ≤ R.cells ∧ slots + ms ≤ R.slots) :
    vx_Run p l e R s m args below meth c H locs cells slots mc ms g rest (Qc As.toArray) XC free := by
  obtain ⟨⟨hrc, hrs, hfr, hlo, hws, hcw⟩, hcode, hini, hy, hlen, hl, hstt⟩ := cw
  have hK : vx_Back l R p e below s args y 3 8 (PreOf R mc ms Pc) (PostOf Qc mc ms free) (vx_Post XC mc ms free) := vx_backW (hh := hh) (bytes := bytes) (maxL := maxL) (ret := ret) hM hp.1 hrc hrs hfr hlo hws hcw (fun a' U hW => word_at hW (Or.inl (by first | rfl | simp [Cond.onTables, Cond.keeps, Cond.steady])) hini)
  obtain ⟨hx, hb, hml, ho, -⟩ := S
  intro T hT X
  rcases vx_callSX X hx (hh := hh) (bytes := bytes) (maxL := maxL) (ret := ret) ho hl hstt hini hcode hy hK hg (hsize.trans hml.symm) (argsL := As) (rest := rest) (fun sig h => hn.trans (hlen sig h)) hstack hW (by rw [hb]; exact hdg)
    (fun vm₁ hW₁ => ⟨hf.1, hf.2, hp.2 (T.setVm vm₁) hT hW₁⟩) with ⟨v, vm₁, ⟨U', l2, c2, s2⟩, hW₁, X', ⟨g', mk, t, L, e1, e2, hq, h1, hL, h2, h3⟩, st⟩ | ⟨q, vm₁, ⟨U', l2, c2, s2⟩, hW₁, X', ⟨g', mk, t, L, E, ce, e1, e2, hq, hce, hcv, hcl, h1, hL, h2, h3⟩, st⟩
  · dsimp only [Pt.U, Pt.locs, Pt.cells, Pt.slots] at X' e1 e2 h1 h2 h3 st
    subst h1; subst h2; subst h3
    exact Or.inl ⟨v, (T.setVm vm₁).calling g' mk As.toArray, t, U', L, hT, X', hL, e1, e2, hq, st⟩
  · dsimp only [Pt.U, Pt.locs, Pt.cells, Pt.slots] at X' e1 e2 h1 h2 h3 st hcl
    subst h1; subst h2; subst h3
    exact Or.inr ⟨q, (T.setVm vm₁).calling g' mk As.toArray, t, U', L, E, ce, hT, X', hL, e1, e2, hq, hce, hcv, vx_cls hW₁ hcl, st⟩
end
end VXH
theorem vx_ofWH {l : Launch} {y : MethodName} {ws ws' : List Cond} {rm : Room} {Pc : Array Value → State → Prop} {Qc : Array Value → State → Outcome → State → Prop} {XC : String → State → State → Prop} {mc ms : Nat} {free : Addr → Prop} {cc : ByteArray} {maxL : Nat} {ret : Option FieldType} {hh : List (Nat × Nat × Nat × Nat)}
    (hy : plainName y.cls = true) (hw : ws = Cond.codeWith y cc maxL ret hh :: ws')
    (body : ∀ p e s m args below meth c s₁, BodyLoose p l y (headSpec ws rm) cc maxL ret e s m args below meth c s₁ → c.maxLocals = maxL → Pc args s →
      W p l e (headSpec ws rm).room s m args below meth c s.heap [] 0 0 (vx_MQ below Qc XC args s mc ms free) (entryFrame m args maxL)) : vx_Met l y ws rm Pc Qc XC mc ms free := by
  refine MetFree.of_bodyS (code := cc) (maxLocals := maxL) (ret := ret) hy ?_ ?_
  · intro args s m h hn
    obtain ⟨m9, meth, c, hn9, h1, h2, h3, h4, -, h5, h6, -⟩ := Cond.codeWith_spec (atoms_spec (ws := ws) h _ (by rw [hw]; exact List.mem_cons_self))
    cases hn.symm.trans hn9
    exact ⟨meth, c, h1, h2, h3, h4, h5, h6⟩
  · intro p e s m args below meth c s₁ B hml hP _
    have hh0 : s₁.heap = s.heap := by rw [B.state]; rfl
    obtain ⟨t, a1, o, b1, b2, b3⟩ := body p e s m args below meth c s₁ B hml hP s₁ hh0 (Stand.of_body B)
    exact ⟨t, o, a1, b1, b2, b3⟩
/-! ===== END ===== -/
end
section
/-! ===== lN n to 2^64: shifts, and, or, masks, one bit ===== -/
theorem wb_tb (n : Nat) : (lN n).toBitVec = BitVec.ofNat 64 n := rfl
theorem wb_inj {a b : Int64} (h : a.toBitVec = b.toBitVec) : a = b := Int64.toBitVec_inj.mp h
theorem wb_tn {n : Nat} (h : n < 2 ^ 64) : (lN n).toBitVec.toNat = n := by rw [wb_tb, BitVec.toNat_ofNat, Nat.mod_eq_of_lt h]
theorem wb_of (x : Int64) : ∃ n, n < 2 ^ 64 ∧ x = lN n := ⟨x.toBitVec.toNat, x.toBitVec.isLt, wb_inj (by rw [wb_tb]; simp)⟩
theorem wb_of32 (x : Int32) : ∃ n, n < 2 ^ 32 ∧ x = nI n := ⟨x.toBitVec.toNat, x.toBitVec.isLt, Int32.toBitVec_inj.mp (by show _ = BitVec.ofNat 32 _; simp)⟩
theorem wb_c : ∀ k, k < 64 → ((nI k).toInt64 &&& 63) = lN k := by decide +kernel
theorem wb_cu : ∀ k, k < 64 → ((nI k).toInt64.toUInt64 &&& Int64.toUInt64 63) = UInt64.ofNat k := by decide +kernel
theorem wb_sm : ∀ k, k < 64 → (BitVec.ofNat 64 k).smod 64 = BitVec.ofNat 64 k := by decide +kernel
theorem wb_pw {a b : Nat} (h : a ≤ b) : 2 ^ b = 2 ^ a * 2 ^ (b - a) := by rw [← Nat.pow_add]; congr 1; omega
theorem wb_lt2 {a b : Nat} (h : a < b) : 2 ^ a < 2 ^ b := Nat.pow_lt_pow_right (by decide) h
theorem wb_mod (n : Nat) : lN n = lN (n % 2 ^ 64) := wb_inj (by rw [wb_tb, wb_tb]; apply BitVec.eq_of_toNat_eq; rw [BitVec.toNat_ofNat, BitVec.toNat_ofNat, Nat.mod_mod])
theorem wb_shr {n k : Nat} (hn : n < 2 ^ 64) (hk : k < 64) : ((lN n).toUInt64 >>> ((nI k).toInt64.toUInt64 &&& Int64.toUInt64 63)).toInt64 = lN (n / 2 ^ k) := by
  rw [wb_cu k hk]
  apply wb_inj
  apply BitVec.eq_of_toNat_eq
  show ((lN n).toUInt64 >>> UInt64.ofNat k).toNat = (BitVec.ofNat 64 _).toNat
  have h1 : (UInt64.ofNat k).toNat = k := by
    show (BitVec.ofNat 64 k).toNat = k
    rw [BitVec.toNat_ofNat, Nat.mod_eq_of_lt (by omega)]
  have h2 : (lN n).toUInt64.toNat = n := wb_tn hn
  rw [UInt64.toNat_shiftRight, h1, h2, Nat.mod_eq_of_lt hk, Nat.shiftRight_eq_div_pow, BitVec.toNat_ofNat, Nat.mod_eq_of_lt (Nat.lt_of_le_of_lt (Nat.div_le_self _ _) hn)]
theorem wb_shl (n : Nat) {k : Nat} (hk : k < 64) : lN n <<< ((nI k).toInt64 &&& 63) = lN (n * 2 ^ k) := by
  rw [wb_c k hk]
  apply wb_inj
  rw [Int64.toBitVec_shiftLeft, wb_tb, wb_tb, wb_tb, wb_sm k hk]
  apply BitVec.eq_of_toNat_eq
  rw [BitVec.shiftLeft_eq', BitVec.toNat_shiftLeft, BitVec.toNat_ofNat, BitVec.toNat_ofNat, BitVec.toNat_ofNat, Nat.mod_eq_of_lt (show k < 2 ^ 64 by omega), Nat.shiftLeft_eq, Nat.mul_mod, Nat.mod_mod, ← Nat.mul_mod]
theorem wb_and {a b : Nat} (ha : a < 2 ^ 64) (hb : b < 2 ^ 64) : lN a &&& lN b = lN (a &&& b) := by
  apply wb_inj
  rw [Int64.toBitVec_and, wb_tb, wb_tb, wb_tb]
  apply BitVec.eq_of_toNat_eq
  rw [BitVec.toNat_and, BitVec.toNat_ofNat, BitVec.toNat_ofNat, BitVec.toNat_ofNat, Nat.mod_eq_of_lt ha, Nat.mod_eq_of_lt hb, Nat.mod_eq_of_lt (Nat.and_lt_two_pow _ hb)]
theorem wb_or {a b : Nat} (ha : a < 2 ^ 64) (hb : b < 2 ^ 64) : lN a ||| lN b = lN (a ||| b) := by
  apply wb_inj
  rw [Int64.toBitVec_or, wb_tb, wb_tb, wb_tb]
  apply BitVec.eq_of_toNat_eq
  rw [BitVec.toNat_or, BitVec.toNat_ofNat, BitVec.toNat_ofNat, BitVec.toNat_ofNat, Nat.mod_eq_of_lt ha, Nat.mod_eq_of_lt hb, Nat.mod_eq_of_lt (Nat.or_lt_two_pow ha hb)]
theorem wb_mask {n k : Nat} (hn : n < 2 ^ 64) (hk : k < 64) : lN n &&& lN (2 ^ k - 1) = lN (n % 2 ^ k) := by
  rw [wb_and hn (by have := wb_lt2 hk; omega), Nat.and_two_pow_sub_one_eq_mod]
theorem wb_a1 {n : Nat} (hn : n < 2 ^ 64) : lN n &&& 1 = lN (n % 2) := wb_mask (k := 1) hn (by decide)
theorem wb_bit {n k : Nat} (hn : n < 2 ^ 64) (hk : k < 64) : ((lN n).toUInt64 >>> ((nI k).toInt64.toUInt64 &&& Int64.toUInt64 63)).toInt64 &&& 1 = lN (n / 2 ^ k % 2) := by
  rw [wb_shr hn hk, wb_a1 (Nat.lt_of_le_of_lt (Nat.div_le_self _ _) hn)]
theorem wb_xor {q k : Nat} (hk : k < 63) (h : 2 ^ k ≤ q) (h2 : q < 2 ^ (k + 1)) : lN q ^^^ lN (2 ^ k) = lN (q - 2 ^ k) := by
  obtain ⟨r, rfl⟩ : ∃ r, q = 2 ^ k + r := ⟨q - 2 ^ k, by omega⟩
  have hr : r < 2 ^ k := by rw [Nat.pow_succ] at h2; omega
  have hx : (2 ^ k + r) ^^^ 2 ^ k = r := by
    apply Nat.eq_of_testBit_eq
    intro i
    rw [Nat.testBit_xor, Nat.testBit_two_pow]
    rcases Nat.lt_trichotomy i k with h | h | h
    · rw [Nat.testBit_two_pow_add_gt h]
      simp [show ¬ k = i by omega]
    · subst h
      rw [Nat.testBit_two_pow_add_eq]
      simp
    · have a1 : 2 ^ (k + 1) ≤ 2 ^ i := Nat.pow_le_pow_right (by decide) h
      rw [Nat.testBit_lt_two_pow (show 2 ^ k + r < 2 ^ i by omega), Nat.testBit_lt_two_pow (show r < 2 ^ i by omega)]
      simp [show ¬ k = i by omega]
  have b1 := wb_lt2 (show k + 1 < 64 by omega)
  have b2 := wb_lt2 (show k < 64 by omega)
  apply wb_inj
  rw [Int64.toBitVec_xor, wb_tb, wb_tb, wb_tb]
  apply BitVec.eq_of_toNat_eq
  rw [BitVec.toNat_xor, BitVec.toNat_ofNat, BitVec.toNat_ofNat, BitVec.toNat_ofNat, Nat.mod_eq_of_lt (by omega : 2 ^ k + r < 2 ^ 64), Nat.mod_eq_of_lt b2, hx, Nat.add_sub_cancel_left, Nat.mod_eq_of_lt (by omega)]
/-! ===== lN: masks, 'or' of parts that don't overlap is a sum ===== -/
theorem u_tn {n : Nat} (h : n < 2 ^ 64) : (UInt64.ofNat n).toNat = n := Nat.mod_eq_of_lt h
theorem g_and {a b c : Nat} (ha : a < 2 ^ 64) (hb : b < 2 ^ 64) (hc : a &&& b = c) : lN a &&& lN b = lN c := by
  subst hc
  have h : UInt64.ofNat a &&& UInt64.ofNat b = UInt64.ofNat (a &&& b) := UInt64.toNat_inj.mp (by rw [UInt64.toNat_and, u_tn ha, u_tn hb, u_tn (Nat.and_lt_two_pow a hb)])
  have h2 := congrArg UInt64.toInt64 h
  exact h2
theorem g_and1 {a : Nat} (ha : a < 2 ^ 64) : lN a &&& 1 = lN (a % 2) := g_and (b := 1) ha (by decide) (Nat.and_two_pow_sub_one_eq_mod a 1)
theorem g_mask {a s p : Nat} (hp : 2 ^ s = p) (hs : s < 64) (ha : a < 2 ^ 64) : lN a &&& lN (p - 1) = lN (a % p) := by
  subst hp
  have := Nat.pow_lt_pow_right (show 1 < 2 by decide) hs
  exact g_and ha (by omega) (Nat.and_two_pow_sub_one_eq_mod a s)
theorem g_or {k p a b : Nat} (hp : 2 ^ k = p) (ha : a < p) (h : b * p + a < 2 ^ 64) : lN (b * p) ||| lN a = lN (b * p + a) := by
  subst hp
  have h1 : b * 2 ^ k ||| a = b * 2 ^ k + a := by rw [← Nat.shiftLeft_eq, Nat.shiftLeft_add_eq_or_of_lt ha]
  have h3 : UInt64.ofNat (b * 2 ^ k) ||| UInt64.ofNat a = UInt64.ofNat (b * 2 ^ k + a) := UInt64.toNat_inj.mp (by rw [UInt64.toNat_or, u_tn (by omega), u_tn (by omega), u_tn h, h1])
  have h2 := congrArg UInt64.toInt64 h3
  exact h2
theorem g_or' {k p a b : Nat} (hp : 2 ^ k = p) (ha : a < p) (h : a + b * p < 2 ^ 64) : lN a ||| lN (b * p) = lN (a + b * p) := by
  rw [Int64.or_comm, g_or hp ha (by omega), Nat.add_comm]
theorem g_ushr {a k p : Nat} {y : UInt64} (hy : y = UInt64.ofNat k) (hk : k < 64) (hp : 2 ^ k = p) (ha : a < 2 ^ 64) : ((lN a).toUInt64 >>> y).toInt64 = lN (a / p) := by
  subst hy hp
  have h : UInt64.ofNat a >>> UInt64.ofNat k = UInt64.ofNat (a / 2 ^ k) := UInt64.toNat_inj.mp (by rw [UInt64.toNat_shiftRight, u_tn ha, u_tn (by omega), u_tn (Nat.lt_of_le_of_lt (Nat.div_le_self _ _) ha), Nat.mod_eq_of_lt hk, Nat.shiftRight_eq_div_pow])
  have h2 := congrArg UInt64.toInt64 h
  exact h2
theorem g_shl {a k p : Nat} {y : Int64} (hy : y.toBitVec.smod 64 = BitVec.ofNat 64 k) (hk : k < 64) (hp : 2 ^ k = p) (ha : a < 2 ^ 64) : lN a <<< y = lN (a * p) := by
  subst hp
  apply Int64.toBitVec_inj.mp
  rw [Int64.toBitVec_shiftLeft, hy]
  apply BitVec.eq_of_toNat_eq
  have hb : (lN a).toBitVec.toNat = a := Nat.mod_eq_of_lt ha
  have hk' : (BitVec.ofNat 64 k).toNat = k := Nat.mod_eq_of_lt (by omega)
  have h : ((lN a).toBitVec <<< BitVec.ofNat 64 k).toNat = (a * 2 ^ k) % 2 ^ 64 := by simp only [BitVec.shiftLeft_eq', BitVec.toNat_shiftLeft, hb, hk', Nat.shiftLeft_eq]
  exact h
/-! ===== lN to 2^62 under >> and >>> ===== -/
theorem pf_lI {a : Nat} (h : a < 2 ^ 63) : (lN a).toInt = (a : Int) := lg_ofNat_toInt h
theorem pf_shr {a d : Nat} {D : Int64} (hD : (D.toBitVec.smod 64).toNat = d) (h : a < 2 ^ 62) : lN a >>> D = lN (a / 2 ^ d) := by
  have hd : a / 2 ^ d ≤ a := Nat.div_le_self _ _
  apply Int64.toInt_inj.mp
  have e : (lN a >>> D).toInt = (lN a).toInt >>> d := by
    rw [← hD]
    exact BitVec.toInt_sshiftRight ..
  rw [e, Int.shiftRight_eq_div_pow, pf_lI (by omega), pf_lI (by omega)]
  rfl
theorem pf_ushr {a d : Nat} {D : UInt64} (hD : D.toNat % 64 = d) (h : a < 2 ^ 62) : ((lN a).toUInt64 >>> D).toInt64 = lN (a / 2 ^ d) := by
  have hd : a / 2 ^ d ≤ a := Nat.div_le_self _ _
  have e : (lN a).toUInt64 >>> D = UInt64.ofNat (a / 2 ^ d) := UInt64.toNat_inj.mp (by
    rw [UInt64.toNat_shiftRight, hD, Nat.shiftRight_eq_div_pow, UInt64.toNat_ofNat']
    show (UInt64.ofNat a).toNat / 2 ^ d = _
    rw [UInt64.toNat_ofNat', Nat.mod_eq_of_lt (by omega), Nat.mod_eq_of_lt (by omega)])
  rw [e]
  rfl
theorem pf_andw (x : Int64) : ∃ m, m < 2 ^ 32 ∧ x &&& 4294967295 = lN m := ⟨x.toBitVec.toNat % 2 ^ 32, Nat.mod_lt _ (by decide), Int64.toBitVec_inj.mp (BitVec.eq_of_toNat_eq (by
  show (x.toBitVec &&& 4294967295#64).toNat = (BitVec.ofNat 64 (x.toBitVec.toNat % 2 ^ 32)).toNat
  rw [BitVec.toNat_and, show (4294967295#64).toNat = 2 ^ 32 - 1 from by decide, Nat.and_two_pow_sub_one_eq_mod, BitVec.toNat_ofNat]
  omega))⟩
/-! the ints and longs of integers: iZ z, lZ z; all arithmetic on them is the integers' own, ranges are asked for where they matter -/
def iZ (z : Int) : Int32 := Int32.ofInt z
def lZ (z : Int) : Int64 := Int64.ofInt z
abbrev zi (z : Int) : Prop := -2147483648 ≤ z ∧ z < 2147483648
abbrev zl (z : Int) : Prop := -9223372036854775808 ≤ z ∧ z < 9223372036854775808
theorem iZ_add (a b : Int) : iZ a + iZ b = iZ (a + b) := (Int32.ofInt_add a b).symm
theorem iZ_sub (a b : Int) : iZ a - iZ b = iZ (a - b) := (Int32.ofInt_sub a b).symm
theorem iZ_mul (a b : Int) : iZ a * iZ b = iZ (a * b) := (Int32.ofInt_mul a b).symm
theorem iZ_neg (a : Int) : - iZ a = iZ (-a) := (Int32.ofInt_neg a).symm
theorem iZ_nI (n : Nat) : nI n = iZ n := Int32.ofInt_eq_ofNat.symm
theorem iZ_of (x : Int32) : x = iZ x.toInt := (Int32.ofInt_toInt x).symm
theorem iZ_toInt {z : Int} (h : zi z) : (iZ z).toInt = z := Int32.toInt_ofInt_of_le (by have := h.1; omega) (by have := h.2; omega)
theorem zi_toInt (x : Int32) : zi x.toInt := ⟨by have := x.le_toInt; omega, by have := x.toInt_lt; omega⟩
theorem iZ_le {a b : Int} (ha : zi a) (hb : zi b) : iZ a ≤ iZ b ↔ a ≤ b := by rw [Int32.le_iff_toInt_le, iZ_toInt ha, iZ_toInt hb]
theorem iZ_lt {a b : Int} (ha : zi a) (hb : zi b) : iZ a < iZ b ↔ a < b := by rw [Int32.lt_iff_toInt_lt, iZ_toInt ha, iZ_toInt hb]
theorem iZ_eq {a b : Int} (ha : zi a) (hb : zi b) : iZ a = iZ b ↔ a = b := by rw [← Int32.toInt_inj, iZ_toInt ha, iZ_toInt hb]
theorem iZ_0 : (0 : Int32) = iZ 0 := rfl
theorem iZ_clamp {z : Int} (h : zi z) : (iZ z).toNatClampNeg = z.toNat := by
  show (iZ z).toInt.toNat = _
  rw [iZ_toInt h]
theorem iZ_in {z : Int} {n : Nat} (h : zi z) (h0 : 0 ≤ z) (h1 : z < n) : vp_in (iZ z) n := vp_in_iff.mpr (by rw [iZ_toInt h]; exact ⟨h0, h1⟩)
theorem lZ_add (a b : Int) : lZ a + lZ b = lZ (a + b) := (Int64.ofInt_add a b).symm
theorem lZ_sub (a b : Int) : lZ a - lZ b = lZ (a - b) := (Int64.ofInt_sub a b).symm
theorem lZ_mul (a b : Int) : lZ a * lZ b = lZ (a * b) := (Int64.ofInt_mul a b).symm
theorem lZ_neg (a : Int) : - lZ a = lZ (-a) := (Int64.ofInt_neg a).symm
theorem lZ_lN (n : Nat) : lN n = lZ n := Int64.ofInt_eq_ofNat.symm
theorem lZ_of (x : Int64) : x = lZ x.toInt := (Int64.ofInt_toInt x).symm
theorem lZ_toInt {z : Int} (h : zl z) : (lZ z).toInt = z := Int64.toInt_ofInt_of_le (by have := h.1; omega) (by have := h.2; omega)
theorem zl_toInt (x : Int64) : zl x.toInt := ⟨by have := x.le_toInt; omega, by have := x.toInt_lt; omega⟩
theorem lZ_le {a b : Int} (ha : zl a) (hb : zl b) : lZ a ≤ lZ b ↔ a ≤ b := by rw [Int64.le_iff_toInt_le, lZ_toInt ha, lZ_toInt hb]
theorem lZ_lt {a b : Int} (ha : zl a) (hb : zl b) : lZ a < lZ b ↔ a < b := by rw [Int64.lt_iff_toInt_lt, lZ_toInt ha, lZ_toInt hb]
theorem lZ_eq {a b : Int} (ha : zl a) (hb : zl b) : lZ a = lZ b ↔ a = b := by rw [← Int64.toInt_inj, lZ_toInt ha, lZ_toInt hb]
theorem lZ_0 : (0 : Int64) = lZ 0 := rfl
theorem iZ_l {z : Int} (h : zi z) : (iZ z).toInt64 = lZ z := by
  apply Int64.toInt_inj.mp
  rw [Int32.toInt_toInt64, iZ_toInt h, lZ_toInt ⟨by have := h.1; omega, by have := h.2; omega⟩]
theorem lZ_i (z : Int) : (lZ z).toInt32 = iZ z := Int64.toInt32_ofInt
theorem lZ_mod (z : Int) : lZ z = lN (z % 18446744073709551616).toNat := by
  apply Int64.toInt_inj.mp
  rw [lZ_lN, lZ, lZ, Int64.toInt_ofInt, Int64.toInt_ofInt]
  have h : ((z % 18446744073709551616).toNat : Int) = z % 18446744073709551616 := Int.toNat_of_nonneg (Int.emod_nonneg _ (by decide))
  rw [h]
  exact (Int.emod_bmod z Int64.size).symm
theorem lZ_at {x : Int64} {z : Int} (h : x.toInt = z) : x = lZ z := by rw [← h]; exact lZ_of x
theorem iZ_at {x : Int32} {z : Int} (h : x.toInt = z) : x = iZ z := by rw [← h]; exact iZ_of x
theorem lZ_u (z : Int) : (z % 18446744073709551616).toNat < 2 ^ 64 ∧ ((z % 18446744073709551616).toNat : Int) = z % 18446744073709551616 := by
  have h1 := Int.emod_lt_of_pos z (show (0 : Int) < 18446744073709551616 by decide)
  have h2 := Int.emod_nonneg z (show (18446744073709551616 : Int) ≠ 0 by decide)
  exact ⟨by omega, Int.toNat_of_nonneg h2⟩
theorem lZ_nat {z : Int} (h : 0 ≤ z) : lZ z = lN z.toNat := by rw [lZ_lN, Int.toNat_of_nonneg h]
/-- the mask of k bits takes the rest by 2 to the k -/
theorem lZ_mask (z : Int) {k : Nat} {P : Int} (hk : k < 64) (hP : ((2 ^ k : Nat) : Int) = P) {x : Int64} (hx : x = lN (2 ^ k - 1)) : lZ z &&& x = lZ (z % P) := by
  rw [hx, lZ_mod z, wb_mask (lZ_u z).1 hk, lZ_lN]
  congr 1
  rw [Int.natCast_emod, (lZ_u z).2, hP]
  refine Int.emod_emod_of_dvd z ?_
  rw [← hP]
  exact Int.natCast_dvd_natCast.mpr (Nat.pow_dvd_pow 2 (show k ≤ 64 by omega))
theorem lZ_shr {z : Int} (hz : zl z) {k : Nat} {P : Int} (hk : k < 64) (hP : ((2 ^ k : Nat) : Int) = P) : lZ z >>> ((iZ k).toInt64 &&& 63) = lZ (z / P) := by
  rw [← iZ_nI, wb_c k hk]
  refine lZ_at ?_
  show ((lZ z).toBitVec.sshiftRight ((lN k).toBitVec.smod 64).toNat).toInt = _
  rw [wb_tb, wb_sm k hk, BitVec.toNat_ofNat, Nat.mod_eq_of_lt (by omega), BitVec.toInt_sshiftRight, Int.shiftRight_eq_div_pow]
  show (lZ z).toInt / _ = _
  rw [lZ_toInt hz, ← hP]
theorem lZ_ushr (z : Int) {k : Nat} {P : Int} (hk : k < 64) (hP : ((2 ^ k : Nat) : Int) = P) : ((lZ z).toUInt64 >>> ((iZ k).toInt64.toUInt64 &&& Int64.toUInt64 63)).toInt64 = lZ (z % 18446744073709551616 / P) := by
  rw [← iZ_nI, lZ_mod z, wb_shr (lZ_u z).1 hk, lZ_lN, Int.natCast_ediv, (lZ_u z).2, hP]
theorem lZ_ushr0 {z : Int} (hz : zl z) (h0 : 0 ≤ z) {k : Nat} {P : Int} (hk : k < 64) (hP : ((2 ^ k : Nat) : Int) = P) : ((lZ z).toUInt64 >>> ((iZ k).toInt64.toUInt64 &&& Int64.toUInt64 63)).toInt64 = lZ (z / P) := by
  rw [lZ_ushr z hk hP, Int.emod_eq_of_lt h0 (by omega)]
theorem lZ_shl (z : Int) {k : Nat} {P : Int} (hk : k < 64) (hP : ((2 ^ k : Nat) : Int) = P) : lZ z <<< ((iZ k).toInt64 &&& 63) = lZ (z * P) := by
  rw [← iZ_nI, lZ_mod z, wb_shl _ hk, lZ_lN, Int.natCast_mul, hP, ← lZ_mul, ← lZ_mul, ← lZ_lN, ← lZ_mod]
theorem lZ_or {a b : Int} {k : Nat} {P : Int} (hP : ((2 ^ k : Nat) : Int) = P) (ha : 0 ≤ a) (ha2 : a < P) (hb : 0 ≤ b) (h : b * P + a < 18446744073709551616) : lZ (b * P) ||| lZ a = lZ (b * P + a) := by
  obtain ⟨a, rfl⟩ := Int.eq_ofNat_of_zero_le ha
  obtain ⟨b, rfl⟩ := Int.eq_ofNat_of_zero_le hb
  subst hP
  have e1 : ((b : Int) * ((2 ^ k : Nat) : Int)) = ((b * 2 ^ k : Nat) : Int) := (Int.natCast_mul _ _).symm
  rw [e1] at h ⊢
  have e2 : (((b * 2 ^ k : Nat) : Int) + (a : Int)) = ((b * 2 ^ k + a : Nat) : Int) := (Int.natCast_add _ _).symm
  rw [e2] at h ⊢
  rw [← lZ_lN, ← lZ_lN, ← lZ_lN]
  exact g_or rfl (by omega) (by omega)
theorem lZ_div {a b : Int} (ha : zl a) (hb : zl b) (h : 0 ≤ a) (hb0 : 0 < b) : lZ a / lZ b = lZ (a / b) := by
  obtain ⟨a, rfl⟩ := Int.eq_ofNat_of_zero_le h
  obtain ⟨b, rfl⟩ := Int.eq_ofNat_of_zero_le (Int.le_of_lt hb0)
  rw [← lZ_lN, ← lZ_lN, pk_lDiv (by omega) (by omega) (by omega), lZ_lN, Int.natCast_ediv]
theorem iZ_div {a b : Int} (ha : zi a) (hb : zi b) (h : 0 ≤ a) (hb0 : 0 < b) : iZ a / iZ b = iZ (a / b) := by
  obtain ⟨a, rfl⟩ := Int.eq_ofNat_of_zero_le h
  obtain ⟨b, rfl⟩ := Int.eq_ofNat_of_zero_le (Int.le_of_lt hb0)
  rw [← iZ_nI, ← iZ_nI, pk_div (by omega) (by omega) (by omega), iZ_nI, Int.natCast_ediv]
theorem iZ_rem {a b : Int} (ha : zi a) (hb : zi b) (h : 0 ≤ a) (hb0 : 0 < b) : iZ a - iZ a / iZ b * iZ b = iZ (a % b) := by
  obtain ⟨a, rfl⟩ := Int.eq_ofNat_of_zero_le h
  obtain ⟨b, rfl⟩ := Int.eq_ofNat_of_zero_le (Int.le_of_lt hb0)
  rw [← iZ_nI, ← iZ_nI, pk_rem (by omega) (by omega) (by omega), iZ_nI, Int.natCast_emod]
theorem lZ_rem {a b : Int} (ha : zl a) (hb : zl b) (h : 0 ≤ a) (hb0 : 0 < b) : lZ a - lZ a / lZ b * lZ b = lZ (a % b) := by
  obtain ⟨a, rfl⟩ := Int.eq_ofNat_of_zero_le h
  obtain ⟨b, rfl⟩ := Int.eq_ofNat_of_zero_le (Int.le_of_lt hb0)
  rw [← lZ_lN, ← lZ_lN, pk_lRem (by omega) (by omega) (by omega), lZ_lN, Int.natCast_emod]
end
section
section ZR
variable {p : Program} {l : Launch} {e : Env} {R : Room} {s : State} {m : MethodId} {args : Array Value} {below : List Frame} {meth : Method} {c : Code} {H : Heap} {locs : List Loc} {cells slots : Nat} {Q : State → Prop} {cc : ByteArray} {pc : Nat} {ls : Array Slot} {rest : List Value}
theorem zc_i {x y : Int32} (h : x = y) (k : W p l e R s m args below meth c H locs cells slots Q (F0 m pc ls (.int y :: rest))) : W p l e R s m args below meth c H locs cells slots Q (F0 m pc ls (.int x :: rest)) := h ▸ k
theorem zc_l {x y : Int64} (h : x = y) (k : W p l e R s m args below meth c H locs cells slots Q (F0 m pc ls (.long y :: rest))) : W p l e R s m args below meth c H locs cells slots Q (F0 m pc ls (.long x :: rest)) := h ▸ k
theorem zr_iadd (hx : p.tables.exec = Jvm.exec) (hb : c.code = cc) {x y : Int} (hd : decode cc pc = .ok (.iadd, 1)) (k : W p l e R s m args below meth c H locs cells slots Q (F0 m (pc + 1) ls (.int (iZ (x + y)) :: rest))) : W p l e R s m args below meth c H locs cells slots Q (F0 m pc ls (.int (iZ y) :: .int (iZ x) :: rest)) := lv_iadd hx hb hd (by rw [iZ_add]; exact k)
theorem zr_ladd (hx : p.tables.exec = Jvm.exec) (hb : c.code = cc) {x y : Int} (hd : decode cc pc = .ok (.ladd, 1)) (k : W p l e R s m args below meth c H locs cells slots Q (F0 m (pc + 1) ls (.long (lZ (x + y)) :: rest))) : W p l e R s m args below meth c H locs cells slots Q (F0 m pc ls (.long (lZ y) :: .long (lZ x) :: rest)) := lv_ladd hx hb hd (by rw [lZ_add]; exact k)
theorem zr_isub (hx : p.tables.exec = Jvm.exec) (hb : c.code = cc) {x y : Int} (hd : decode cc pc = .ok (.isub, 1)) (k : W p l e R s m args below meth c H locs cells slots Q (F0 m (pc + 1) ls (.int (iZ (x - y)) :: rest))) : W p l e R s m args below meth c H locs cells slots Q (F0 m pc ls (.int (iZ y) :: .int (iZ x) :: rest)) := lv_isub hx hb hd (by rw [iZ_sub]; exact k)
theorem zr_lsub (hx : p.tables.exec = Jvm.exec) (hb : c.code = cc) {x y : Int} (hd : decode cc pc = .ok (.lsub, 1)) (k : W p l e R s m args below meth c H locs cells slots Q (F0 m (pc + 1) ls (.long (lZ (x - y)) :: rest))) : W p l e R s m args below meth c H locs cells slots Q (F0 m pc ls (.long (lZ y) :: .long (lZ x) :: rest)) := lv_lsub hx hb hd (by rw [lZ_sub]; exact k)
theorem zr_imul (hx : p.tables.exec = Jvm.exec) (hb : c.code = cc) {x y : Int} (hd : decode cc pc = .ok (.imul, 1)) (k : W p l e R s m args below meth c H locs cells slots Q (F0 m (pc + 1) ls (.int (iZ (x * y)) :: rest))) : W p l e R s m args below meth c H locs cells slots Q (F0 m pc ls (.int (iZ y) :: .int (iZ x) :: rest)) := lv_imul hx hb hd (by rw [iZ_mul]; exact k)
theorem zr_lmul (hx : p.tables.exec = Jvm.exec) (hb : c.code = cc) {x y : Int} (hd : decode cc pc = .ok (.lmul, 1)) (k : W p l e R s m args below meth c H locs cells slots Q (F0 m (pc + 1) ls (.long (lZ (x * y)) :: rest))) : W p l e R s m args below meth c H locs cells slots Q (F0 m pc ls (.long (lZ y) :: .long (lZ x) :: rest)) := lv_lmul hx hb hd (by rw [lZ_mul]; exact k)
theorem zr_ineg (hx : p.tables.exec = Jvm.exec) (hb : c.code = cc) {x : Int} (hd : decode cc pc = .ok (.ineg, 1)) (k : W p l e R s m args below meth c H locs cells slots Q (F0 m (pc + 1) ls (.int (iZ (-x)) :: rest))) : W p l e R s m args below meth c H locs cells slots Q (F0 m pc ls (.int (iZ x) :: rest)) := lv_ineg hx hb hd (by rw [iZ_neg]; exact k)
theorem zr_lneg (hx : p.tables.exec = Jvm.exec) (hb : c.code = cc) {x : Int} (hd : decode cc pc = .ok (.lneg, 1)) (k : W p l e R s m args below meth c H locs cells slots Q (F0 m (pc + 1) ls (.long (lZ (-x)) :: rest))) : W p l e R s m args below meth c H locs cells slots Q (F0 m pc ls (.long (lZ x) :: rest)) := lv_lneg hx hb hd (by rw [lZ_neg]; exact k)
theorem zr_idiv (hx : p.tables.exec = Jvm.exec) (hb : c.code = cc) {x y : Int} (h1 : zi x) (h2 : zi y) (h3 : 0 ≤ x) (h4 : 0 < y) (hd : decode cc pc = .ok (.idiv, 1)) (k : W p l e R s m args below meth c H locs cells slots Q (F0 m (pc + 1) ls (.int (iZ (x / y)) :: rest))) : W p l e R s m args below meth c H locs cells slots Q (F0 m pc ls (.int (iZ y) :: .int (iZ x) :: rest)) := lv_idiv hx hb hd (fun e => by rw [iZ_0, iZ_eq h2 ⟨by decide, by decide⟩] at e; omega) (by rw [iZ_div h1 h2 h3 h4]; exact k)
theorem zr_irem (hx : p.tables.exec = Jvm.exec) (hb : c.code = cc) {x y : Int} (h1 : zi x) (h2 : zi y) (h3 : 0 ≤ x) (h4 : 0 < y) (hd : decode cc pc = .ok (.irem, 1)) (k : W p l e R s m args below meth c H locs cells slots Q (F0 m (pc + 1) ls (.int (iZ (x % y)) :: rest))) : W p l e R s m args below meth c H locs cells slots Q (F0 m pc ls (.int (iZ y) :: .int (iZ x) :: rest)) := lv_irem hx hb hd (fun e => by rw [iZ_0, iZ_eq h2 ⟨by decide, by decide⟩] at e; omega) (by rw [iZ_rem h1 h2 h3 h4]; exact k)
theorem zr_ldiv (hx : p.tables.exec = Jvm.exec) (hb : c.code = cc) {x y : Int} (h1 : zl x) (h2 : zl y) (h3 : 0 ≤ x) (h4 : 0 < y) (hd : decode cc pc = .ok (.ldiv, 1)) (k : W p l e R s m args below meth c H locs cells slots Q (F0 m (pc + 1) ls (.long (lZ (x / y)) :: rest))) : W p l e R s m args below meth c H locs cells slots Q (F0 m pc ls (.long (lZ y) :: .long (lZ x) :: rest)) := lv_ldiv hx hb hd (fun e => by rw [lZ_0, lZ_eq h2 ⟨by decide, by decide⟩] at e; omega) (by rw [lZ_div h1 h2 h3 h4]; exact k)
theorem zr_lrem (hx : p.tables.exec = Jvm.exec) (hb : c.code = cc) {x y : Int} (h1 : zl x) (h2 : zl y) (h3 : 0 ≤ x) (h4 : 0 < y) (hd : decode cc pc = .ok (.lrem, 1)) (k : W p l e R s m args below meth c H locs cells slots Q (F0 m (pc + 1) ls (.long (lZ (x % y)) :: rest))) : W p l e R s m args below meth c H locs cells slots Q (F0 m pc ls (.long (lZ y) :: .long (lZ x) :: rest)) := lv_lrem hx hb hd (fun e => by rw [lZ_0, lZ_eq h2 ⟨by decide, by decide⟩] at e; omega) (by rw [lZ_rem h1 h2 h3 h4]; exact k)
theorem zr_i2l (hx : p.tables.exec = Jvm.exec) (hb : c.code = cc) {x : Int} (h : zi x) (hd : decode cc pc = .ok (.i2l, 1)) (k : W p l e R s m args below meth c H locs cells slots Q (F0 m (pc + 1) ls (.long (lZ x) :: rest))) : W p l e R s m args below meth c H locs cells slots Q (F0 m pc ls (.int (iZ x) :: rest)) := lv_i2l hx hb hd (iZ_l h) k
theorem zr_l2i (hx : p.tables.exec = Jvm.exec) (hb : c.code = cc) {x : Int} (hd : decode cc pc = .ok (.l2i, 1)) (k : W p l e R s m args below meth c H locs cells slots Q (F0 m (pc + 1) ls (.int (iZ x) :: rest))) : W p l e R s m args below meth c H locs cells slots Q (F0 m pc ls (.long (lZ x) :: rest)) := lv_l2i hx hb hd (lZ_i x) k
theorem zr_mask (hx : p.tables.exec = Jvm.exec) (hb : c.code = cc) {z P : Int} {n : Nat} {x : Int64} (hn : n < 64) (hP : ((2 ^ n : Nat) : Int) = P) (hm : x = lN (2 ^ n - 1)) (hd : decode cc pc = .ok (.land, 1)) (k : W p l e R s m args below meth c H locs cells slots Q (F0 m (pc + 1) ls (.long (lZ (z % P)) :: rest))) : W p l e R s m args below meth c H locs cells slots Q (F0 m pc ls (.long x :: .long (lZ z) :: rest)) := lv_land hx hb hd (by rw [lZ_mask z hn hP hm]; exact k)
theorem zr_lshr (hx : p.tables.exec = Jvm.exec) (hb : c.code = cc) {z P : Int} {n : Nat} (hz : zl z) (hn : n < 64) (hP : ((2 ^ n : Nat) : Int) = P) (hd : decode cc pc = .ok (.lshr, 1)) (k : W p l e R s m args below meth c H locs cells slots Q (F0 m (pc + 1) ls (.long (lZ (z / P)) :: rest))) : W p l e R s m args below meth c H locs cells slots Q (F0 m pc ls (.int (iZ n) :: .long (lZ z) :: rest)) := lv_lshr hx hb hd (lZ_shr hz hn hP) k
theorem zr_lushr (hx : p.tables.exec = Jvm.exec) (hb : c.code = cc) {z P : Int} {n : Nat} (hz : zl z) (h0 : 0 ≤ z) (hn : n < 64) (hP : ((2 ^ n : Nat) : Int) = P) (hd : decode cc pc = .ok (.lushr, 1)) (k : W p l e R s m args below meth c H locs cells slots Q (F0 m (pc + 1) ls (.long (lZ (z / P)) :: rest))) : W p l e R s m args below meth c H locs cells slots Q (F0 m pc ls (.int (iZ n) :: .long (lZ z) :: rest)) := lv_lushr hx hb hd (lZ_ushr0 hz h0 hn hP) k
theorem zr_lushrU (hx : p.tables.exec = Jvm.exec) (hb : c.code = cc) {z P : Int} {n : Nat} (hn : n < 64) (hP : ((2 ^ n : Nat) : Int) = P) (hd : decode cc pc = .ok (.lushr, 1)) (k : W p l e R s m args below meth c H locs cells slots Q (F0 m (pc + 1) ls (.long (lZ (z % 18446744073709551616 / P)) :: rest))) : W p l e R s m args below meth c H locs cells slots Q (F0 m pc ls (.int (iZ n) :: .long (lZ z) :: rest)) := lv_lushr hx hb hd (lZ_ushr z hn hP) k
theorem zr_lshl (hx : p.tables.exec = Jvm.exec) (hb : c.code = cc) {z P : Int} {n : Nat} (hn : n < 64) (hP : ((2 ^ n : Nat) : Int) = P) (hd : decode cc pc = .ok (.lshl, 1)) (k : W p l e R s m args below meth c H locs cells slots Q (F0 m (pc + 1) ls (.long (lZ (z * P)) :: rest))) : W p l e R s m args below meth c H locs cells slots Q (F0 m pc ls (.int (iZ n) :: .long (lZ z) :: rest)) := lv_lshl hx hb hd (lZ_shl z hn hP) k
theorem zr_lor (hx : p.tables.exec = Jvm.exec) (hb : c.code = cc) {a b P : Int} {n : Nat} (hP : ((2 ^ n : Nat) : Int) = P) (ha : 0 ≤ a) (ha2 : a < P) (hb0 : 0 ≤ b) (h : b * P + a < 18446744073709551616) (hd : decode cc pc = .ok (.lor, 1)) (k : W p l e R s m args below meth c H locs cells slots Q (F0 m (pc + 1) ls (.long (lZ (b * P + a)) :: rest))) : W p l e R s m args below meth c H locs cells slots Q (F0 m pc ls (.long (lZ a) :: .long (lZ (b * P)) :: rest)) := lv_lor hx hb hd (by rw [lZ_or hP ha ha2 hb0 h]; exact k)
theorem zr_icmp_eq (hx : p.tables.exec = Jvm.exec) (hb : c.code = cc) {x y : Int} {off : Int} {tgt : Nat} (h1 : zi x) (h2 : zi y) (hd : decode cc pc = .ok (.if_icmp .eq off, 3)) (ht : (pc : Int) + off = (tgt : Int)) (kt : x = y → W p l e R s m args below meth c H locs cells slots Q (F0 m tgt ls rest)) (kf : ¬ x = y → W p l e R s m args below meth c H locs cells slots Q (F0 m (pc + 3) ls rest)) : W p l e R s m args below meth c H locs cells slots Q (F0 m pc ls (.int (iZ y) :: .int (iZ x) :: rest)) := lv_icmp_eq hx hb hd ht (fun h => kt ((iZ_eq h1 h2).mp h)) (fun h => kf (fun e => h ((iZ_eq h1 h2).mpr e)))
theorem zr_if_eq (hx : p.tables.exec = Jvm.exec) (hb : c.code = cc) {x : Int} {off : Int} {tgt : Nat} (h1 : zi x) (hd : decode cc pc = .ok (.ifCond .eq off, 3)) (ht : (pc : Int) + off = (tgt : Int)) (kt : x = 0 → W p l e R s m args below meth c H locs cells slots Q (F0 m tgt ls rest)) (kf : ¬ x = 0 → W p l e R s m args below meth c H locs cells slots Q (F0 m (pc + 3) ls rest)) : W p l e R s m args below meth c H locs cells slots Q (F0 m pc ls (.int (iZ x) :: rest)) := lv_if_eq hx hb hd ht (fun h => kt ((iZ_eq h1 ⟨by decide, by decide⟩).mp h)) (fun h => kf (fun e => h ((iZ_eq h1 ⟨by decide, by decide⟩).mpr e)))
theorem zr_icmp_ne (hx : p.tables.exec = Jvm.exec) (hb : c.code = cc) {x y : Int} {off : Int} {tgt : Nat} (h1 : zi x) (h2 : zi y) (hd : decode cc pc = .ok (.if_icmp .ne off, 3)) (ht : (pc : Int) + off = (tgt : Int)) (kt : ¬ x = y → W p l e R s m args below meth c H locs cells slots Q (F0 m tgt ls rest)) (kf : x = y → W p l e R s m args below meth c H locs cells slots Q (F0 m (pc + 3) ls rest)) : W p l e R s m args below meth c H locs cells slots Q (F0 m pc ls (.int (iZ y) :: .int (iZ x) :: rest)) := lv_icmp_ne hx hb hd ht (fun h => kt (fun e => h ((iZ_eq h1 h2).mpr e))) (fun h => kf ((iZ_eq h1 h2).mp h))
theorem zr_if_ne (hx : p.tables.exec = Jvm.exec) (hb : c.code = cc) {x : Int} {off : Int} {tgt : Nat} (h1 : zi x) (hd : decode cc pc = .ok (.ifCond .ne off, 3)) (ht : (pc : Int) + off = (tgt : Int)) (kt : ¬ x = 0 → W p l e R s m args below meth c H locs cells slots Q (F0 m tgt ls rest)) (kf : x = 0 → W p l e R s m args below meth c H locs cells slots Q (F0 m (pc + 3) ls rest)) : W p l e R s m args below meth c H locs cells slots Q (F0 m pc ls (.int (iZ x) :: rest)) := lv_if_ne hx hb hd ht (fun h => kt (fun e => h ((iZ_eq h1 ⟨by decide, by decide⟩).mpr e))) (fun h => kf ((iZ_eq h1 ⟨by decide, by decide⟩).mp h))
theorem zr_icmp_lt (hx : p.tables.exec = Jvm.exec) (hb : c.code = cc) {x y : Int} {off : Int} {tgt : Nat} (h1 : zi x) (h2 : zi y) (hd : decode cc pc = .ok (.if_icmp .lt off, 3)) (ht : (pc : Int) + off = (tgt : Int)) (kt : x < y → W p l e R s m args below meth c H locs cells slots Q (F0 m tgt ls rest)) (kf : y ≤ x → W p l e R s m args below meth c H locs cells slots Q (F0 m (pc + 3) ls rest)) : W p l e R s m args below meth c H locs cells slots Q (F0 m pc ls (.int (iZ y) :: .int (iZ x) :: rest)) := lv_icmp_lt hx hb hd ht (fun h => kt ((iZ_lt h1 h2).mp h)) (fun h => kf (by rw [iZ_lt h1 h2] at h; omega))
theorem zr_if_lt (hx : p.tables.exec = Jvm.exec) (hb : c.code = cc) {x : Int} {off : Int} {tgt : Nat} (h1 : zi x) (hd : decode cc pc = .ok (.ifCond .lt off, 3)) (ht : (pc : Int) + off = (tgt : Int)) (kt : x < 0 → W p l e R s m args below meth c H locs cells slots Q (F0 m tgt ls rest)) (kf : 0 ≤ x → W p l e R s m args below meth c H locs cells slots Q (F0 m (pc + 3) ls rest)) : W p l e R s m args below meth c H locs cells slots Q (F0 m pc ls (.int (iZ x) :: rest)) := lv_if_lt hx hb hd ht (fun h => kt ((iZ_lt h1 ⟨by decide, by decide⟩).mp h)) (fun h => kf (by rw [iZ_0, iZ_lt h1 ⟨by decide, by decide⟩] at h; omega))
theorem zr_icmp_ge (hx : p.tables.exec = Jvm.exec) (hb : c.code = cc) {x y : Int} {off : Int} {tgt : Nat} (h1 : zi x) (h2 : zi y) (hd : decode cc pc = .ok (.if_icmp .ge off, 3)) (ht : (pc : Int) + off = (tgt : Int)) (kt : y ≤ x → W p l e R s m args below meth c H locs cells slots Q (F0 m tgt ls rest)) (kf : x < y → W p l e R s m args below meth c H locs cells slots Q (F0 m (pc + 3) ls rest)) : W p l e R s m args below meth c H locs cells slots Q (F0 m pc ls (.int (iZ y) :: .int (iZ x) :: rest)) := lv_icmp_ge hx hb hd ht (fun h => kt ((iZ_le h2 h1).mp h)) (fun h => kf (by rw [iZ_le h2 h1] at h; omega))
theorem zr_if_ge (hx : p.tables.exec = Jvm.exec) (hb : c.code = cc) {x : Int} {off : Int} {tgt : Nat} (h1 : zi x) (hd : decode cc pc = .ok (.ifCond .ge off, 3)) (ht : (pc : Int) + off = (tgt : Int)) (kt : 0 ≤ x → W p l e R s m args below meth c H locs cells slots Q (F0 m tgt ls rest)) (kf : x < 0 → W p l e R s m args below meth c H locs cells slots Q (F0 m (pc + 3) ls rest)) : W p l e R s m args below meth c H locs cells slots Q (F0 m pc ls (.int (iZ x) :: rest)) := lv_if_ge hx hb hd ht (fun h => kt ((iZ_le ⟨by decide, by decide⟩ h1).mp h)) (fun h => kf (by rw [iZ_0, iZ_le ⟨by decide, by decide⟩ h1] at h; omega))
theorem zr_icmp_gt (hx : p.tables.exec = Jvm.exec) (hb : c.code = cc) {x y : Int} {off : Int} {tgt : Nat} (h1 : zi x) (h2 : zi y) (hd : decode cc pc = .ok (.if_icmp .gt off, 3)) (ht : (pc : Int) + off = (tgt : Int)) (kt : y < x → W p l e R s m args below meth c H locs cells slots Q (F0 m tgt ls rest)) (kf : x ≤ y → W p l e R s m args below meth c H locs cells slots Q (F0 m (pc + 3) ls rest)) : W p l e R s m args below meth c H locs cells slots Q (F0 m pc ls (.int (iZ y) :: .int (iZ x) :: rest)) := lv_icmp_gt hx hb hd ht (fun h => kt ((iZ_lt h2 h1).mp h)) (fun h => kf (by rw [iZ_lt h2 h1] at h; omega))
theorem zr_if_gt (hx : p.tables.exec = Jvm.exec) (hb : c.code = cc) {x : Int} {off : Int} {tgt : Nat} (h1 : zi x) (hd : decode cc pc = .ok (.ifCond .gt off, 3)) (ht : (pc : Int) + off = (tgt : Int)) (kt : 0 < x → W p l e R s m args below meth c H locs cells slots Q (F0 m tgt ls rest)) (kf : x ≤ 0 → W p l e R s m args below meth c H locs cells slots Q (F0 m (pc + 3) ls rest)) : W p l e R s m args below meth c H locs cells slots Q (F0 m pc ls (.int (iZ x) :: rest)) := lv_if_gt hx hb hd ht (fun h => kt ((iZ_lt ⟨by decide, by decide⟩ h1).mp h)) (fun h => kf (by rw [iZ_0, iZ_lt ⟨by decide, by decide⟩ h1] at h; omega))
theorem zr_icmp_le (hx : p.tables.exec = Jvm.exec) (hb : c.code = cc) {x y : Int} {off : Int} {tgt : Nat} (h1 : zi x) (h2 : zi y) (hd : decode cc pc = .ok (.if_icmp .le off, 3)) (ht : (pc : Int) + off = (tgt : Int)) (kt : x ≤ y → W p l e R s m args below meth c H locs cells slots Q (F0 m tgt ls rest)) (kf : y < x → W p l e R s m args below meth c H locs cells slots Q (F0 m (pc + 3) ls rest)) : W p l e R s m args below meth c H locs cells slots Q (F0 m pc ls (.int (iZ y) :: .int (iZ x) :: rest)) := lv_icmp_le hx hb hd ht (fun h => kt ((iZ_le h1 h2).mp h)) (fun h => kf (by rw [iZ_le h1 h2] at h; omega))
theorem zr_if_le (hx : p.tables.exec = Jvm.exec) (hb : c.code = cc) {x : Int} {off : Int} {tgt : Nat} (h1 : zi x) (hd : decode cc pc = .ok (.ifCond .le off, 3)) (ht : (pc : Int) + off = (tgt : Int)) (kt : x ≤ 0 → W p l e R s m args below meth c H locs cells slots Q (F0 m tgt ls rest)) (kf : 0 < x → W p l e R s m args below meth c H locs cells slots Q (F0 m (pc + 3) ls rest)) : W p l e R s m args below meth c H locs cells slots Q (F0 m pc ls (.int (iZ x) :: rest)) := lv_if_le hx hb hd ht (fun h => kt ((iZ_le h1 ⟨by decide, by decide⟩).mp h)) (fun h => kf (by rw [iZ_0, iZ_le h1 ⟨by decide, by decide⟩] at h; omega))
theorem zr_lcmp_eq (hx : p.tables.exec = Jvm.exec) (hb : c.code = cc) {x y : Int} {off : Int} {tgt : Nat} (h1 : zl x) (h2 : zl y) (hd0 : decode cc pc = .ok (.lcmp, 1)) (hd : decode cc (pc + 1) = .ok (.ifCond .eq off, 3)) (ht : ((pc + 1 : Nat) : Int) + off = (tgt : Int)) (kt : x = y → W p l e R s m args below meth c H locs cells slots Q (F0 m tgt ls rest)) (kf : ¬ x = y → W p l e R s m args below meth c H locs cells slots Q (F0 m (pc + 1 + 3) ls rest)) : W p l e R s m args below meth c H locs cells slots Q (F0 m pc ls (.long (lZ y) :: .long (lZ x) :: rest)) := W.lcmp hx hb hd0 (lv_if_eq hx hb hd ht (fun h => kt (((lg_cmp_eq _ _).trans (lZ_eq h1 h2)).mp h)) (fun h => kf (fun e => h (((lg_cmp_eq _ _).trans (lZ_eq h1 h2)).mpr e))))
theorem zr_lcmp_ne (hx : p.tables.exec = Jvm.exec) (hb : c.code = cc) {x y : Int} {off : Int} {tgt : Nat} (h1 : zl x) (h2 : zl y) (hd0 : decode cc pc = .ok (.lcmp, 1)) (hd : decode cc (pc + 1) = .ok (.ifCond .ne off, 3)) (ht : ((pc + 1 : Nat) : Int) + off = (tgt : Int)) (kt : ¬ x = y → W p l e R s m args below meth c H locs cells slots Q (F0 m tgt ls rest)) (kf : x = y → W p l e R s m args below meth c H locs cells slots Q (F0 m (pc + 1 + 3) ls rest)) : W p l e R s m args below meth c H locs cells slots Q (F0 m pc ls (.long (lZ y) :: .long (lZ x) :: rest)) := W.lcmp hx hb hd0 (lv_if_ne hx hb hd ht (fun h => kt (fun e => h (((lg_cmp_eq _ _).trans (lZ_eq h1 h2)).mpr e))) (fun h => kf (((lg_cmp_eq _ _).trans (lZ_eq h1 h2)).mp h)))
theorem zr_lcmp_lt (hx : p.tables.exec = Jvm.exec) (hb : c.code = cc) {x y : Int} {off : Int} {tgt : Nat} (h1 : zl x) (h2 : zl y) (hd0 : decode cc pc = .ok (.lcmp, 1)) (hd : decode cc (pc + 1) = .ok (.ifCond .lt off, 3)) (ht : ((pc + 1 : Nat) : Int) + off = (tgt : Int)) (kt : x < y → W p l e R s m args below meth c H locs cells slots Q (F0 m tgt ls rest)) (kf : y ≤ x → W p l e R s m args below meth c H locs cells slots Q (F0 m (pc + 1 + 3) ls rest)) : W p l e R s m args below meth c H locs cells slots Q (F0 m pc ls (.long (lZ y) :: .long (lZ x) :: rest)) := W.lcmp hx hb hd0 (lv_if_lt hx hb hd ht (fun h => kt (((lg_cmp_lt _ _).trans (lZ_lt h1 h2)).mp h)) (fun h => kf (by rw [(lg_cmp_lt _ _).trans (lZ_lt h1 h2)] at h; omega)))
theorem zr_lcmp_ge (hx : p.tables.exec = Jvm.exec) (hb : c.code = cc) {x y : Int} {off : Int} {tgt : Nat} (h1 : zl x) (h2 : zl y) (hd0 : decode cc pc = .ok (.lcmp, 1)) (hd : decode cc (pc + 1) = .ok (.ifCond .ge off, 3)) (ht : ((pc + 1 : Nat) : Int) + off = (tgt : Int)) (kt : y ≤ x → W p l e R s m args below meth c H locs cells slots Q (F0 m tgt ls rest)) (kf : x < y → W p l e R s m args below meth c H locs cells slots Q (F0 m (pc + 1 + 3) ls rest)) : W p l e R s m args below meth c H locs cells slots Q (F0 m pc ls (.long (lZ y) :: .long (lZ x) :: rest)) := W.lcmp hx hb hd0 (lv_if_ge hx hb hd ht (fun h => kt (((lg_cmp_ge _ _).trans (lZ_le h2 h1)).mp h)) (fun h => kf (by rw [(lg_cmp_ge _ _).trans (lZ_le h2 h1)] at h; omega)))
theorem zr_lcmp_gt (hx : p.tables.exec = Jvm.exec) (hb : c.code = cc) {x y : Int} {off : Int} {tgt : Nat} (h1 : zl x) (h2 : zl y) (hd0 : decode cc pc = .ok (.lcmp, 1)) (hd : decode cc (pc + 1) = .ok (.ifCond .gt off, 3)) (ht : ((pc + 1 : Nat) : Int) + off = (tgt : Int)) (kt : y < x → W p l e R s m args below meth c H locs cells slots Q (F0 m tgt ls rest)) (kf : x ≤ y → W p l e R s m args below meth c H locs cells slots Q (F0 m (pc + 1 + 3) ls rest)) : W p l e R s m args below meth c H locs cells slots Q (F0 m pc ls (.long (lZ y) :: .long (lZ x) :: rest)) := W.lcmp hx hb hd0 (lv_if_gt hx hb hd ht (fun h => kt (((lg_cmp_gt _ _).trans (lZ_lt h2 h1)).mp h)) (fun h => kf (by rw [(lg_cmp_gt _ _).trans (lZ_lt h2 h1)] at h; omega)))
theorem zr_lcmp_le (hx : p.tables.exec = Jvm.exec) (hb : c.code = cc) {x y : Int} {off : Int} {tgt : Nat} (h1 : zl x) (h2 : zl y) (hd0 : decode cc pc = .ok (.lcmp, 1)) (hd : decode cc (pc + 1) = .ok (.ifCond .le off, 3)) (ht : ((pc + 1 : Nat) : Int) + off = (tgt : Int)) (kt : x ≤ y → W p l e R s m args below meth c H locs cells slots Q (F0 m tgt ls rest)) (kf : y < x → W p l e R s m args below meth c H locs cells slots Q (F0 m (pc + 1 + 3) ls rest)) : W p l e R s m args below meth c H locs cells slots Q (F0 m pc ls (.long (lZ y) :: .long (lZ x) :: rest)) := W.lcmp hx hb hd0 (lv_if_le hx hb hd ht (fun h => kt (((lg_cmp_le _ _).trans (lZ_le h1 h2)).mp h)) (fun h => kf (by rw [(lg_cmp_le _ _).trans (lZ_le h1 h2)] at h; omega)))
end ZR
/-! a block of cells from B on -/
def zB (B N : Nat) (O : Nat → va_E) : va_W := (List.range N).map fun k => (B + k, O k)
theorem zB_len (B N : Nat) (O : Nat → va_E) : (zB B N O).length = N := by unfold zB; rw [List.length_map, List.length_range]
theorem zB_at {B N k : Nat} {O : Nat → va_E} (h : k < N) : (zB B N O)[k]? = some (B + k, O k) := by
  unfold zB
  rw [List.getElem?_map, List.getElem?_range h]
  rfl
theorem zB_inv {B N k : Nat} {O : Nat → va_E} {q : Nat × va_E} (h : (zB B N O)[k]? = some q) : k < N ∧ q = (B + k, O k) := by
  have hk : k < N := by
    have := (List.getElem?_eq_some_iff.mp h).1
    rwa [zB_len] at this
  rw [zB_at hk] at h
  exact ⟨hk, (Option.some.inj h).symm⟩
theorem zB_set {B N k : Nat} {O : Nat → va_E} {e : va_E} (h : k < N) : (zB B N O).set k (B + k, e) = zB B N (va_up O k e) := by
  refine List.ext_getElem? fun i => ?_
  by_cases hi : i = k
  · subst hi
    rw [List.getElem?_set_self (by rw [zB_len]; exact h), zB_at h, va_up_self]
  · rw [List.getElem?_set_ne (Ne.symm hi)]
    by_cases hN : i < N
    · rw [zB_at hN, zB_at hN, va_up_ne _ _ hi]
    · rw [List.getElem?_eq_none (by rw [zB_len]; omega), List.getElem?_eq_none (by rw [zB_len]; omega)]
theorem zB_push {B N : Nat} {O : Nat → va_E} {e : va_E} : zB B N O ++ [(B + N, e)] = zB B (N + 1) (va_up O N e) := by
  refine List.ext_getElem? fun i => ?_
  by_cases h1 : i < N
  · rw [List.getElem?_append_left (by rw [zB_len]; exact h1), zB_at h1, zB_at (by omega), va_up_ne _ _ (by omega)]
  · by_cases h2 : i = N
    · subst h2
      rw [List.getElem?_append_right (by rw [zB_len]; omega), zB_len, Nat.sub_self, zB_at (by omega), va_up_self]
      rfl
    · rw [List.getElem?_eq_none (by rw [List.length_append, zB_len]; show _ ≤ _; simp; omega), List.getElem?_eq_none (by rw [zB_len]; omega)]
theorem zB_congr {B N : Nat} {O O' : Nat → va_E} (h : ∀ k, k < N → O k = O' k) : zB B N O = zB B N O' := by
  refine List.ext_getElem? fun i => ?_
  by_cases h1 : i < N
  · rw [zB_at h1, zB_at h1, h i h1]
  · rw [List.getElem?_eq_none (by rw [zB_len]; omega), List.getElem?_eq_none (by rw [zB_len]; omega)]
theorem zB_D {A : Nat → Prop} {B N : Nat} {O : Nat → va_E} (hA : ∀ k, k < N → A (B + k)) : va_D A (zB B N O) := by
  refine ⟨fun i j x y hi hj hxy => ?_, fun k q hk => ?_⟩
  · obtain ⟨h1, rfl⟩ := zB_inv hi
    obtain ⟨h2, rfl⟩ := zB_inv hj
    have : B + i = B + j := hxy
    omega
  · obtain ⟨h1, rfl⟩ := zB_inv hk
    exact hA k h1
/-- the cells of a block -/
def zA (B N : Nat) : Nat → Prop := fun q => B ≤ q ∧ q < B + N
theorem zA_in {B N k : Nat} (h : k < N) : zA B N (B + k) := ⟨by omega, by omega⟩
theorem zB_DA (B N : Nat) (O : Nat → va_E) : va_D (zA B N) (zB B N O) := zB_D fun _ h => zA_in h
end
section
/-! numbers in limbs of 28 bits: wP n is the weight of limb n, wv d n the value of the n lowest limbs of d -/
def wP (n : Nat) : Nat := 268435456 ^ n
theorem wP_0 : wP 0 = 1 := rfl
theorem wP_s (n : Nat) : wP (n + 1) = 268435456 * wP n := by show 268435456 ^ (n + 1) = 268435456 * 268435456 ^ n; rw [Nat.pow_succ, Nat.mul_comm]
theorem wP_pos (n : Nat) : 0 < wP n := Nat.pow_pos (by decide)
theorem wP_add (m n : Nat) : wP (m + n) = wP m * wP n := Nat.pow_add _ m n
theorem wP_two (n : Nat) : wP n = 2 ^ (28 * n) := by show (2 ^ 28) ^ n = _; rw [Nat.pow_mul]
theorem wP_mono {m n : Nat} (h : m ≤ n) : wP m ≤ wP n := Nat.pow_le_pow_right (by decide) h
def wv (d : Nat → Nat) : Nat → Nat
  | 0 => 0
  | n + 1 => wv d n + d n * wP n
theorem wv_0 (d : Nat → Nat) : wv d 0 = 0 := rfl
theorem wv_s (d : Nat → Nat) (n : Nat) : wv d (n + 1) = wv d n + d n * wP n := rfl
theorem wv_congr {d e : Nat → Nat} : ∀ {n : Nat}, (∀ i, i < n → d i = e i) → wv d n = wv e n
  | 0, _ => rfl
  | n + 1, h => by rw [wv_s, wv_s, wv_congr (fun i hi => h i (Nat.lt_succ_of_lt hi)), h n (Nat.lt_succ_self n)]
theorem wv_lt {d : Nat → Nat} (h : ∀ i, d i < 268435456) : ∀ n, wv d n < wP n
  | 0 => Nat.one_pos
  | n + 1 => by
    have h1 := wv_lt h n
    have h3 : (d n + 1) * wP n ≤ 268435456 * wP n := Nat.mul_le_mul_right _ (h n)
    rw [Nat.add_mul, Nat.one_mul] at h3
    rw [wv_s, wP_s]
    omega
theorem wv_drop {d : Nat → Nat} {m : Nat} : ∀ {n : Nat}, m ≤ n → (∀ i, m ≤ i → i < n → d i = 0) → wv d n = wv d m
  | 0, h, _ => by rw [show m = 0 by omega]
  | n + 1, h, hz => by
    by_cases e : m = n + 1
    · rw [e]
    · rw [wv_s, hz n (by omega) (by omega), Nat.zero_mul, Nat.add_zero, wv_drop (by omega) (fun i a b => hz i a (by omega))]
theorem wv_ge {d : Nat → Nat} {n : Nat} (h : d n ≠ 0) : wP n ≤ wv d (n + 1) := by
  rw [wv_s]
  have : 1 * wP n ≤ d n * wP n := Nat.mul_le_mul_right _ (by omega)
  omega
theorem wv_mono {d : Nat → Nat} {m n : Nat} (h : m ≤ n) : wv d m ≤ wv d n := by
  induction n with
  | zero => rw [show m = 0 by omega]; exact Nat.le_refl _
  | succ n ih =>
    by_cases e : m = n + 1
    · rw [e]; exact Nat.le_refl _
    · rw [wv_s]
      have := ih (by omega)
      omega
theorem wv_up {d : Nat → Nat} {k x n : Nat} (h : n ≤ k) : wv (va_up d k x) n = wv d n := wv_congr fun i hi => va_up_ne d x (by omega)
theorem wv_up_s {d : Nat → Nat} {k x : Nat} : wv (va_up d k x) (k + 1) = wv d k + x * wP k := by rw [wv_s, wv_up (Nat.le_refl k), va_up_self]
theorem up_lt {d : Nat → Nat} {k x M : Nat} (h : ∀ i, d i < M) (hx : x < M) : ∀ i, va_up d k x i < M := fun i => by
  by_cases e : i = k
  · rw [e, va_up_self]; exact hx
  · rw [va_up_ne d x e]; exact h i
/-- the first place from above at which two numbers differ says which is less -/
theorem wv_lex {d e : Nat → Nat} (hd : ∀ i, d i < 268435456) {i : Nat} (hlt : d i < e i) : ∀ n, i < n → (∀ j, i < j → j < n → d j = e j) → wv d n < wv e n
  | 0, h, _ => absurd h (by omega)
  | n + 1, h, hq => by
    rw [wv_s, wv_s]
    by_cases hi : i = n
    · subst hi
      have h1 := wv_lt hd i
      have h3 : (d i + 1) * wP i ≤ e i * wP i := Nat.mul_le_mul_right _ hlt
      rw [Nat.add_mul, Nat.one_mul] at h3
      omega
    · have h1 := wv_lex hd hlt n (by omega) (fun j a b => hq j a (by omega))
      rw [hq n (by omega) (by omega)]
      omega
/-- the value splits at any limb -/
theorem wv_split (d : Nat → Nat) (m : Nat) : ∀ n, wv d (m + n) = wv d m + wP m * wv (fun i => d (m + i)) n
  | 0 => by rw [wv_0, Nat.mul_zero]; rfl
  | n + 1 => by
    rw [← Nat.add_assoc, wv_s, wv_s, wv_split d m n, wP_add, Nat.mul_add, Nat.mul_left_comm, Nat.add_assoc]
theorem wv_div {d : Nat → Nat} (hd : ∀ i, d i < 268435456) (m n : Nat) : wv d (m + n) / wP m = wv (fun i => d (m + i)) n := by
  rw [wv_split, Nat.add_mul_div_left _ _ (wP_pos m), Nat.div_eq_of_lt (wv_lt hd m), Nat.zero_add]
theorem wv_mod {d : Nat → Nat} (hd : ∀ i, d i < 268435456) (m n : Nat) : wv d (m + n) % wP m = wv d m := by
  rw [wv_split, Nat.add_mul_mod_self_left, Nat.mod_eq_of_lt (wv_lt hd m)]
theorem wv_first (d : Nat → Nat) (n : Nat) : wv d (1 + n) = d 0 + 268435456 * wv (fun i => d (1 + i)) n := by
  rw [wv_split]
  show 0 + d 0 * 1 + _ = _
  rw [Nat.zero_add, Nat.mul_one]
  rfl
theorem wv_digit {d : Nat → Nat} (hd : ∀ i, d i < 268435456) {i n : Nat} (h : i < n) : wv d n / wP i % 268435456 = d i := by
  obtain ⟨k, rfl⟩ : ∃ k, n = i + (1 + k) := ⟨n - i - 1, by omega⟩
  rw [wv_div hd, wv_first]
  have := hd (i + 0)
  rw [Nat.add_mul_mod_self_left, Nat.mod_eq_of_lt this, Nat.add_zero]
/-- a number's limbs are its own -/
theorem wv_inj {d e : Nat → Nat} (hd : ∀ i, d i < 268435456) (he : ∀ i, e i < 268435456) {n : Nat} (h : wv d n = wv e n) {i : Nat} (hi : i < n) : d i = e i := by
  rw [← wv_digit hd hi, ← wv_digit he hi, h]
/-- without zeros above, less limbs is less -/
theorem wv_len {d e : Nat → Nat} (hd : ∀ i, d i < 268435456) {m n : Nat} (hn : n ≠ 0 → e (n - 1) ≠ 0) (h : m < n) : wv d m < wv e n := by
  have h1 := wv_lt hd m
  have h2 := wv_ge (hn (by omega))
  rw [show n - 1 + 1 = n by omega] at h2
  have h3 := wP_mono (show m ≤ n - 1 by omega)
  omega
theorem mul_bd {f : Int} {w : Nat} (h1 : -268435456 ≤ f) (h2 : f ≤ 268435456) (hw : w < 268435456) : -72057593769492480 ≤ f * w ∧ f * w ≤ 72057593769492480 := by
  have hw2 : (w : Int) ≤ 268435455 := by omega
  have hw0 : (0 : Int) ≤ w := by omega
  have a1 : f * (w : Int) ≤ 268435456 * w := Int.mul_le_mul_of_nonneg_right h2 hw0
  have a2 : -268435456 * (w : Int) ≤ f * w := Int.mul_le_mul_of_nonneg_right h1 hw0
  omega
/-- mix, first loop: a limb of a sum -/
theorem mix_step {u u' w : Nat → Nat} {f c z : Int} {p i : Nat} (hI : (wv u' (p + i) : Int) + c * wP (p + i) = wv u (p + i) + f * wP p * wv w i) (hz : z = u (p + i) + f * w i + c) :
    (wv (va_up u' (p + i) (z % 268435456).toNat) (p + (i + 1)) : Int) + z / 268435456 * wP (p + (i + 1)) = wv u (p + (i + 1)) + f * wP p * wv w (i + 1) := by
  have h0 : (0 : Int) ≤ z % 268435456 := Int.emod_nonneg _ (by decide)
  have h1 : z % 268435456 + 268435456 * (z / 268435456) = z := Int.emod_add_mul_ediv z 268435456
  rw [← Nat.add_assoc, wv_up_s, wP_s, wv_s, wv_s, wP_add]
  rw [wP_add] at hI
  generalize hx : z % 268435456 = x at h0 h1 ⊢
  generalize hq : z / 268435456 = q at h1 ⊢
  obtain ⟨x, rfl⟩ := Int.eq_ofNat_of_zero_le h0
  simp only [Int.toNat_natCast, Int.natCast_add, Int.natCast_mul] at hI ⊢
  generalize (wv u' (p + i) : Int) = A at hI ⊢
  generalize (wv u (p + i) : Int) = Bv at hI ⊢
  generalize (wv w i : Int) = C at hI ⊢
  generalize (wP p : Int) = P at hI ⊢
  generalize (wP i : Int) = Pi at hI ⊢
  generalize (u (p + i) : Int) = y at hz ⊢
  grind
theorem mix_bd {u w : Nat → Nat} {f c : Int} {j i : Nat} (hu : u j < 268435456) (hw : w i < 268435456) (h1 : -268435456 ≤ f) (h2 : f ≤ 268435456) (h3 : -268435456 ≤ c) (h4 : c ≤ 268435456) :
    zl (u j + f * w i + c) ∧ -268435456 ≤ (u j + f * w i + c) / 268435456 ∧ (u j + f * w i + c) / 268435456 ≤ 268435456 := by
  have := mul_bd h1 h2 hw
  omega
/-- mix, second loop: the carry goes up -/
theorem carry_step {u u' : Nat → Nat} {c z Y : Int} {k : Nat} (hI : (wv u' k : Int) + c * wP k = wv u k + Y) (hz : z = u k + c) :
    (wv (va_up u' k (z % 268435456).toNat) (k + 1) : Int) + z / 268435456 * wP (k + 1) = wv u (k + 1) + Y := by
  have h0 : (0 : Int) ≤ z % 268435456 := Int.emod_nonneg _ (by decide)
  have h1 : z % 268435456 + 268435456 * (z / 268435456) = z := Int.emod_add_mul_ediv z 268435456
  rw [wv_up_s, wP_s, wv_s]
  generalize hx : z % 268435456 = x at h0 h1 ⊢
  generalize hq : z / 268435456 = q at h1 ⊢
  obtain ⟨x, rfl⟩ := Int.eq_ofNat_of_zero_le h0
  simp only [Int.toNat_natCast, Int.natCast_add, Int.natCast_mul] at hI ⊢
  generalize (wv u' k : Int) = A at hI ⊢
  generalize (wv u k : Int) = Bv at hI ⊢
  generalize (wP k : Int) = P at hI ⊢
  generalize (u k : Int) = y at hz ⊢
  grind
/-- a size in limbs, with no carry, is the sum -/
theorem no_carry {A c Y : Int} {n : Nat} (hI : A + c * wP n = Y) (hA : 0 ≤ A) (hA2 : A < wP n) (h0 : 0 ≤ Y) (h1 : Y < wP n) : c = 0 ∧ A = Y := by
  have hP : (0 : Int) < wP n := by have := wP_pos n; omega
  generalize (wP n : Int) = P at *
  have : c = 0 := by
    rcases Int.lt_trichotomy c 0 with h | h | h
    · have : c * P ≤ -1 * P := Int.mul_le_mul_of_nonneg_right (by omega) (by omega)
      omega
    · exact h
    · have : 1 * P ≤ c * P := Int.mul_le_mul_of_nonneg_right (by omega) (by omega)
      omega
  subst this
  omega
/-- the carry says whether the sum is below 0 -/
theorem neg_carry {A c Y : Int} {n : Nat} (hI : A + c * wP n = Y) (hA : 0 ≤ A) (hA2 : A < wP n) : (c < 0 ↔ Y < 0) := by
  have hP : (0 : Int) < wP n := by have := wP_pos n; omega
  generalize (wP n : Int) = P at *
  constructor
  · intro h
    have : c * P ≤ -1 * P := Int.mul_le_mul_of_nonneg_right (by omega) (by omega)
    omega
  · intro h
    rcases Int.lt_or_le c 0 with h2 | h2
    · exact h2
    · have : 0 * P ≤ c * P := Int.mul_le_mul_of_nonneg_right (by omega) (by omega)
      omega
/-! products, column by column -/
theorem wv_addf (f g : Nat → Nat) : ∀ n, wv (fun k => f k + g k) n = wv f n + wv g n
  | 0 => rfl
  | n + 1 => by rw [wv_s, wv_s, wv_s, wv_addf f g n, Nat.add_mul]; omega
theorem wv_mulf (x : Nat) (f : Nat → Nat) : ∀ n, wv (fun k => x * f k) n = x * wv f n
  | 0 => rfl
  | n + 1 => by rw [wv_s, wv_s, wv_mulf x f n, Nat.mul_add, Nat.mul_assoc]
/-- the part of column k that the m lowest limbs of a make with the nb limbs of b -/
def cv (a b : Nat → Nat) (nb : Nat) : Nat → Nat → Nat
  | 0, _ => 0
  | m + 1, k => cv a b nb m k + if m ≤ k ∧ k - m < nb then a m * b (k - m) else 0
theorem cv_s (a b : Nat → Nat) (nb m k : Nat) : cv a b nb (m + 1) k = cv a b nb m k + if m ≤ k ∧ k - m < nb then a m * b (k - m) else 0 := rfl
theorem cv_shift (x m nb : Nat) (b : Nat → Nat) {K : Nat} (h : m + nb ≤ K) : wv (fun k => if m ≤ k ∧ k - m < nb then x * b (k - m) else 0) K = x * wP m * wv b nb := by
  obtain ⟨r, rfl⟩ : ∃ r, K = m + r := ⟨K - m, by omega⟩
  rw [wv_split, wv_drop (m := 0) (n := m) (Nat.zero_le _) (fun i _ hi => if_neg (by omega)), wv_0, Nat.zero_add]
  have h1 : wv (fun i => if m ≤ m + i ∧ m + i - m < nb then x * b (m + i - m) else 0) r = wv (fun i => if m ≤ m + i ∧ m + i - m < nb then x * b (m + i - m) else 0) nb := wv_drop (by omega) (fun i h1 _ => if_neg (by omega))
  have h2 : wv (fun i => if m ≤ m + i ∧ m + i - m < nb then x * b (m + i - m) else 0) nb = wv (fun i => x * b i) nb := wv_congr fun i hi => by
    show (if m ≤ m + i ∧ m + i - m < nb then x * b (m + i - m) else 0) = x * b i
    rw [if_pos ⟨by omega, by omega⟩, Nat.add_sub_cancel_left]
  rw [h1, h2, wv_mulf, Nat.mul_left_comm, Nat.mul_assoc]
theorem cv_sum (a b : Nat → Nat) (nb : Nat) {K : Nat} : ∀ m, m + nb ≤ K → wv (cv a b nb m) K = wv a m * wv b nb
  | 0, _ => by
    rw [wv_0, Nat.zero_mul]
    exact wv_drop (m := 0) (Nat.zero_le _) (fun _ _ _ => rfl)
  | m + 1, h => by
    have e : wv (cv a b nb (m + 1)) K = wv (fun k => cv a b nb m k + if m ≤ k ∧ k - m < nb then a m * b (k - m) else 0) K := wv_congr fun i _ => rfl
    rw [e, wv_addf, cv_sum a b nb m (by omega), cv_shift (a m) m nb b (by omega), wv_s, Nat.add_mul]
theorem cv_low (a b : Nat → Nat) {nb k : Nat} : ∀ m, m + nb ≤ k + 1 → cv a b nb m k = 0
  | 0, _ => rfl
  | m + 1, h => by rw [cv_s, cv_low a b m (by omega), if_neg (by omega)]
theorem cv_high (a b : Nat → Nat) {nb k m : Nat} (hm : k + 1 ≤ m) : ∀ n, m ≤ n → cv a b nb n k = cv a b nb m k
  | 0, h => by rw [show m = 0 by omega]
  | n + 1, h => by
    by_cases e : m = n + 1
    · rw [e]
    · rw [cv_s, if_neg (by omega), Nat.add_zero, cv_high a b hm n (by omega)]
theorem cv_bd {a b : Nat → Nat} (ha : ∀ i, a i < 268435456) (hb : ∀ i, b i < 268435456) {nb k : Nat} : ∀ m, cv a b nb m k ≤ (m - (k + 1 - nb)) * 72057593501057025
  | 0 => by rw [Nat.zero_sub, Nat.zero_mul]; exact Nat.le_refl 0
  | m + 1 => by
    have ih := cv_bd ha hb (nb := nb) (k := k) m
    rw [cv_s]
    split
    · rename_i h
      have h1 : a m * b (k - m) ≤ 268435455 * 268435455 := Nat.mul_le_mul (by have := ha m; omega) (by have := hb (k - m); omega)
      rw [show m + 1 - (k + 1 - nb) = m - (k + 1 - nb) + 1 by omega, Nat.add_mul]
      omega
    · exact Nat.le_trans (by omega) (Nat.mul_le_mul_right _ (show m - (k + 1 - nb) ≤ m + 1 - (k + 1 - nb) by omega))
/-- a column's carry -/
theorem col_step {d C : Nat → Nat} {c k : Nat} (hI : wv d k + c * wP k = wv C k) : wv (va_up d k ((c + C k) % 268435456)) (k + 1) + (c + C k) / 268435456 * wP (k + 1) = wv C (k + 1) := by
  rw [wv_up_s, wP_s, wv_s]
  have h1 := Nat.mod_add_div (c + C k) 268435456
  generalize (c + C k) % 268435456 = x at *
  generalize (c + C k) / 268435456 = q at *
  generalize wP k = P at *
  generalize wv d k = A at *
  generalize wv C k = D at *
  generalize C k = y at *
  grind
/-! the digit of a quotient out of the highest digits (Knuth's way D) -/
/-- what the guess is: the quotient of the two- and three-digit heads, at most B - 1 -/
def gs (VV UU : Nat) : Nat := if UU / VV < 268435456 then UU / VV else 268435455
theorem gs_of {VV UU g : Nat} (hV : 0 < VV) (h1 : g * VV ≤ UU) (h2 : UU < (g + 1) * VV ∨ g = 268435455) (h3 : g < 268435456) : g = gs VV UU := by
  unfold gs
  have l1 : g ≤ UU / VV := (Nat.le_div_iff_mul_le hV).mpr h1
  rcases h2 with h2 | h2
  · have l2 : UU / VV < g + 1 := (Nat.div_lt_iff_lt_mul hV).mpr h2
    rw [if_pos (by omega)]
    omega
  · split <;> omega
/-- with heads of a divisor v and a rest r < v * B, the guess is the true digit or one more -/
theorem gs_true {v r VV UU lv lr P Q : Nat} (hP : 0 < P) (hQ : 0 < Q) (hv : v * 268435456 = VV * P + lv) (hlv : lv < P) (hr : r * 268435456 = UU * (P * Q) + lr) (hlr : lr < P * Q) (hVV : 268435456 ≤ VV) (hb : r < v * (Q * 268435456)) :
    r / (v * Q) ≤ gs VV UU ∧ gs VV UU ≤ r / (v * Q) + 1 := by
  have hv0 : 0 < v := by
    rcases Nat.eq_zero_or_pos v with h | h
    · subst h
      rw [Nat.zero_mul] at hb
      omega
    · exact h
  have hvQ : 0 < v * Q := Nat.mul_pos hv0 hQ
  have hVp : 0 < VV := by omega
  obtain ⟨g, hg⟩ : ∃ g, g = gs VV UU := ⟨_, rfl⟩
  obtain ⟨q, hq⟩ : ∃ q, q = r / (v * Q) := ⟨_, rfl⟩
  rw [← hg, ← hq]
  have q1 : q * (v * Q) ≤ r := by rw [hq]; exact Nat.div_mul_le_self _ _
  have q2 : r < (q + 1) * (v * Q) := by rw [hq]; exact (Nat.div_lt_iff_lt_mul hvQ).mp (Nat.lt_succ_self _)
  have qB : q < 268435456 := by rw [hq]; exact (Nat.div_lt_iff_lt_mul hvQ).mpr (by rw [Nat.mul_comm 268435456, Nat.mul_assoc]; exact hb)
  have g1 : g * VV ≤ UU := by
    rw [hg]; unfold gs
    split
    · exact Nat.div_mul_le_self _ _
    · exact Nat.le_trans (Nat.mul_le_mul_right _ (by omega)) (Nat.div_mul_le_self UU VV)
  have g2 : UU < (g + 1) * VV ∨ g = 268435455 := by
    rw [hg]; unfold gs
    split
    · exact Or.inl ((Nat.div_lt_iff_lt_mul hVp).mp (Nat.lt_succ_self _))
    · exact Or.inr rfl
  have gB : g < 268435456 := by rw [hg]; unfold gs; split <;> omega
  constructor
  · rcases g2 with g2 | g2
    · refine Nat.le_of_lt_succ ((Nat.mul_lt_mul_right (a := VV * (P * Q)) (Nat.mul_pos hVp (Nat.mul_pos hP hQ))).mp ?_)
      have s1 : q * (VV * (P * Q)) ≤ q * (v * Q) * 268435456 := by
        have : VV * P ≤ v * 268435456 := by omega
        have h2 := Nat.mul_le_mul_left (q * Q) this
        calc q * (VV * (P * Q)) = q * Q * (VV * P) := by grind
          _ ≤ q * Q * (v * 268435456) := h2
          _ = q * (v * Q) * 268435456 := by grind
      have s2 : q * (v * Q) * 268435456 ≤ r * 268435456 := Nat.mul_le_mul_right _ q1
      have s3 : (UU + 1) * (P * Q) ≤ (g + 1) * VV * (P * Q) := Nat.mul_le_mul_right _ g2
      rw [Nat.add_mul, Nat.one_mul] at s3
      have s4 : (g + 1) * VV * (P * Q) = (g + 1) * (VV * (P * Q)) := Nat.mul_assoc _ _ _
      have s5 : (g + 1) * (VV * (P * Q)) = g.succ * (VV * (P * Q)) := rfl
      omega
    · omega
  · rcases Nat.eq_zero_or_pos g with h0 | h0
    · omega
    · obtain ⟨k, rfl⟩ : ∃ k, g = k + 1 := ⟨g - 1, by omega⟩
      have key : k * (v * Q) ≤ r := by
        refine Nat.le_of_mul_le_mul_right (c := 268435456) ?_ (by decide)
        have s1 : v * 268435456 ≤ (VV + 1) * P := by rw [Nat.add_mul, Nat.one_mul]; omega
        have s2 : k * Q * (v * 268435456) ≤ k * Q * ((VV + 1) * P) := Nat.mul_le_mul_left _ s1
        have s3 : k * (VV + 1) ≤ UU := by
          have : k * (VV + 1) = k * VV + k := by rw [Nat.mul_add, Nat.mul_one]
          have : (k + 1) * VV = k * VV + VV := by rw [Nat.add_mul, Nat.one_mul]
          omega
        have s4 : k * (VV + 1) * (P * Q) ≤ UU * (P * Q) := Nat.mul_le_mul_right _ s3
        calc k * (v * Q) * 268435456 = k * Q * (v * 268435456) := by grind
          _ ≤ k * Q * ((VV + 1) * P) := s2
          _ = k * (VV + 1) * (P * Q) := by grind
          _ ≤ UU * (P * Q) := s4
          _ ≤ r * 268435456 := by omega
      have : k ≤ q := by rw [hq]; exact (Nat.le_div_iff_mul_le hvQ).mpr key
      omega
/-! limbs of a number times 2 to the up -/
theorem lsh_core {L u h G P S T : Nat} (hST : S * T = 268435456) (hP : 0 < P) (hS : 0 < S) (hL : L < P) :
    ((L + u * P + h * (268435456 * P) + G * (268435456 * (268435456 * P))) * S) / (268435456 * P) % 268435456 = (h * S + u / T) % 268435456 := by
  rw [Nat.mul_comm 268435456 P, ← Nat.div_div_eq_div_mul]
  have e1 : (L + u * P + h * (P * 268435456) + G * (268435456 * (P * 268435456))) * S = L * S + P * (u * S + 268435456 * (h * S + 268435456 * (G * S))) := by grind
  rw [e1, Nat.add_mul_div_left _ _ hP]
  have ht : L * S / P < S := (Nat.div_lt_iff_lt_mul hP).mpr (by rw [Nat.mul_comm S P]; exact Nat.mul_lt_mul_of_pos_right hL hS)
  generalize L * S / P = t at *
  rw [← Nat.add_assoc, Nat.add_mul_div_left _ _ (by decide)]
  have e2 : (t + u * S) / 268435456 = u / T := by rw [← hST, ← Nat.div_div_eq_div_mul, Nat.add_mul_div_right _ _ hS, Nat.div_eq_of_lt ht, Nat.zero_add]
  rw [e2, ← Nat.add_assoc, Nat.add_mul_mod_self_left, Nat.add_comm]
/-- the limbs with zeros above -/
def wx (d : Nat → Nat) (n : Nat) : Nat → Nat := fun i => if i < n then d i else 0
theorem wx_lt {d : Nat → Nat} (hd : ∀ i, d i < 268435456) (n : Nat) : ∀ i, wx d n i < 268435456 := fun i => by
  unfold wx
  split
  · exact hd i
  · decide
theorem wx_in {d : Nat → Nat} {n i : Nat} (h : i < n) : wx d n i = d i := if_pos h
theorem wx_out {d : Nat → Nat} {n i : Nat} (h : n ≤ i) : wx d n i = 0 := if_neg (by omega)
theorem wv_wx (d : Nat → Nat) {n m : Nat} (h : n ≤ m) : wv (wx d n) m = wv d n := by
  rw [wv_drop h (fun i h1 _ => wx_out h1)]
  exact wv_congr fun i hi => wx_in hi
/-- limb j - 1 of the number times 2 to the up, for j from 1 up; 0 for j = 0 -/
def lsh (d : Nat → Nat) (n up : Nat) : Nat → Nat
  | 0 => 0
  | 1 => wx d n 0 * 2 ^ up % 268435456
  | i + 2 => (wx d n (i + 1) * 2 ^ up + wx d n i / 2 ^ (28 - up)) % 268435456
theorem lsh_lt (d : Nat → Nat) (n up j : Nat) : lsh d n up j < 268435456 := by
  match j with
  | 0 => exact (by decide : 0 < 268435456)
  | 1 => exact Nat.mod_lt _ (by decide)
  | i + 2 => exact Nat.mod_lt _ (by decide)
theorem lsh_eq {d : Nat → Nat} (hd : ∀ i, d i < 268435456) (n : Nat) {up : Nat} (hup : up ≤ 28) (j : Nat) : lsh d n up j = wv d n * 2 ^ up * 268435456 / wP j % 268435456 := by
  have hS : 0 < 2 ^ up := Nat.two_pow_pos up
  have hST : 2 ^ up * 2 ^ (28 - up) = 268435456 := by rw [← Nat.pow_add, show up + (28 - up) = 28 by omega]
  match j with
  | 0 =>
    show 0 = _
    rw [wP_0, Nat.div_one, Nat.mul_mod_left]
  | 1 =>
    show wx d n 0 * 2 ^ up % 268435456 = _
    rw [show wP 1 = 268435456 from rfl, Nat.mul_div_cancel _ (by decide)]
    have h1 := wv_first (wx d n) n
    rw [wv_wx d (by omega)] at h1
    rw [h1, Nat.add_mul, Nat.mul_assoc, Nat.add_mul_mod_self_left]
  | i + 2 =>
    show (wx d n (i + 1) * 2 ^ up + wx d n i / 2 ^ (28 - up)) % 268435456 = _
    rw [show wP (i + 2) = wP (i + 1) * 268435456 from by rw [wP_s (i + 1), Nat.mul_comm], Nat.mul_div_mul_right _ _ (by decide : 0 < 268435456)]
    have h1 := wv_split (wx d n) (i + 2) n
    rw [wv_wx d (by omega), wv_s, wv_s] at h1
    have h2 := lsh_core (L := wv (wx d n) i) (u := wx d n i) (h := wx d n (i + 1)) (G := wv (fun k => wx d n (i + 2 + k)) n) (P := wP i) hST (wP_pos i) hS (wv_lt (wx_lt hd n) i)
    rw [← h2, h1, wP_s (i + 1), wP_s i]
    congr 3
    grind
/-! lengths in bits -/
/-- k is the number of binary digits of x -/
def bl (x k : Nat) : Prop := x < 2 ^ k ∧ (k ≠ 0 → 2 ^ (k - 1) ≤ x)
theorem bl_0 : bl 0 0 := ⟨by decide, fun h => absurd rfl h⟩
theorem bl_uniq {x j k : Nat} (hj : bl x j) (hk : bl x k) : j = k := by
  rcases Nat.lt_trichotomy j k with h | h | h
  · have h1 := hk.2 (by omega)
    have h2 := Nat.pow_le_pow_right (show 0 < 2 by decide) (show j ≤ k - 1 by omega)
    have h3 := hj.1
    omega
  · exact h
  · have h1 := hj.2 (by omega)
    have h2 := Nat.pow_le_pow_right (show 0 < 2 by decide) (show k ≤ j - 1 by omega)
    have h3 := hk.1
    omega
theorem bl_le {x k m : Nat} (h : bl x k) : k ≤ m ↔ x < 2 ^ m := by
  constructor
  · intro hm
    exact Nat.lt_of_lt_of_le h.1 (Nat.pow_le_pow_right (by decide) hm)
  · intro hx
    rcases Nat.lt_or_ge m k with h2 | h2
    · have h1 := h.2 (by omega)
      have h3 := Nat.pow_le_pow_right (show 0 < 2 by decide) (show m ≤ k - 1 by omega)
      omega
    · exact h2
theorem bl_top {d : Nat → Nat} (hd : ∀ i, d i < 268435456) {n k : Nat} (ht : d n ≠ 0) (h : bl (d n) k) : bl (wv d (n + 1)) (28 * n + k) := by
  have h1 := wv_lt hd n
  rw [wP_two] at h1
  have hk : k ≠ 0 := fun e => by subst e; have := h.1; omega
  have h2 := h.2 hk
  have h3 := h.1
  refine ⟨?_, fun _ => ?_⟩
  · rw [wv_s, wP_two, Nat.pow_add]
    have : (d n + 1) * 2 ^ (28 * n) ≤ 2 ^ k * 2 ^ (28 * n) := Nat.mul_le_mul_right _ h3
    rw [Nat.add_mul, Nat.one_mul] at this
    rw [Nat.mul_comm (2 ^ (28 * n))]
    omega
  · rw [wv_s, wP_two, show 28 * n + k - 1 = 28 * n + (k - 1) by omega, Nat.pow_add]
    have : 2 ^ (k - 1) * 2 ^ (28 * n) ≤ d n * 2 ^ (28 * n) := Nat.mul_le_mul_right _ h2
    rw [Nat.mul_comm (2 ^ (28 * n))]
    omega
/-- a limb is set, what is over goes up -/
theorem dstep (d : Nat → Nat) (i z : Nat) : wv (va_up d i (z % 268435456)) (i + 1) + z / 268435456 * wP (i + 1) = wv d i + z * wP i := by
  rw [wv_up_s, wP_s]
  have h1 := Nat.mod_add_div z 268435456
  generalize z % 268435456 = x at *
  generalize z / 268435456 = q at *
  generalize wP i = P at *
  generalize wv d i = A at *
  subst h1
  grind
theorem dstepZ (d : Nat → Nat) (i : Nat) (z : Int) : (wv (va_up d i (z % 268435456).toNat) (i + 1) : Int) + z / 268435456 * wP (i + 1) = wv d i + z * wP i := by
  rw [wv_up_s, wP_s]
  have h0 : (0 : Int) ≤ z % 268435456 := Int.emod_nonneg _ (by decide)
  have h1 : z % 268435456 + 268435456 * (z / 268435456) = z := Int.emod_add_mul_ediv z 268435456
  generalize z % 268435456 = x at *
  generalize z / 268435456 = q at *
  obtain ⟨x, rfl⟩ := Int.eq_ofNat_of_zero_le h0
  simp only [Int.toNat_natCast, Int.natCast_add, Int.natCast_mul]
  generalize (wP i : Int) = P at *
  generalize (wv d i : Int) = A at *
  subst h1
  grind
theorem scale_step {d d' : Nat → Nat} {f s c i : Nat} (hI : wv d' i + c * wP i = f * wv d i + s) : wv (va_up d' i ((d i * f + c) % 268435456)) (i + 1) + (d i * f + c) / 268435456 * wP (i + 1) = f * wv d (i + 1) + s := by
  rw [dstep, wv_s, Nat.add_mul, Nat.mul_add]
  have : d i * f * wP i = f * (d i * wP i) := by grind
  omega
theorem lack_step {d d' o : Nat → Nat} {c z : Int} {i : Nat} (hI : (wv d' i : Int) + c * wP i = wv o i - wv d i) (hz : z = o i - d i + c) : (wv (va_up d' i (z % 268435456).toNat) (i + 1) : Int) + z / 268435456 * wP (i + 1) = wv o (i + 1) - wv d (i + 1) := by
  rw [dstepZ, wv_s, wv_s]
  simp only [Int.natCast_add, Int.natCast_mul]
  generalize (wP i : Int) = P at *
  generalize (wv d i : Int) = A at *
  generalize (wv d' i : Int) = A' at *
  generalize (wv o i : Int) = O at *
  subst hz
  grind
theorem turn_step {d d' : Nat → Nat} {c i : Nat} (hd : d i < 268435456) (hI : wv d' i + c * wP i + wv d i = wP i) : wv (va_up d' i ((268435455 - d i + c) % 268435456)) (i + 1) + (268435455 - d i + c) / 268435456 * wP (i + 1) + wv d (i + 1) = wP (i + 1) := by
  rw [dstep, wv_s, wP_s]
  obtain ⟨e, he⟩ : ∃ e, e = 268435455 - d i := ⟨_, rfl⟩
  rw [← he]
  have hde : d i = 268435455 - e := by omega
  have hs : d i * wP i + e * wP i = 268435455 * wP i := by rw [← Nat.add_mul]; congr 1; omega
  rw [Nat.add_mul]
  omega
/-- division by a limb, from above -/
theorem shrink_step {d d' : Nat → Nat} {v r i n q r' : Nat} (hn : i < n) (hd : ∀ j, j ≤ i → d' j = d j) (hI : wv d' n * v + r * wP (i + 1) + wv d (i + 1) = wv d n + wv d (i + 1) * v) (hq : r * 268435456 + d i = q * v + r') :
    wv (va_up d' i q) n * v + r' * wP i + wv d i = wv d n + wv d i * v := by
  have e1 : wv (va_up d' i q) n + d i * wP i = wv d' n + q * wP i := by
    obtain ⟨k, rfl⟩ : ∃ k, n = i + 1 + k := ⟨n - i - 1, by omega⟩
    rw [wv_split _ (i + 1) k, wv_split d' (i + 1) k, wv_up_s, wv_s, hd i (Nat.le_refl _)]
    have : wv (fun j => va_up d' i q (i + 1 + j)) k = wv (fun j => d' (i + 1 + j)) k := wv_congr fun j _ => va_up_ne d' q (by omega)
    rw [this]
    omega
  rw [wv_s, wP_s] at hI
  generalize wv (va_up d' i q) n = X at *
  generalize wv d' n = Y at *
  generalize wv d n = Z at *
  generalize wv d i = A at *
  generalize wP i = P at *
  generalize d i = y at *
  have e2 : (X + y * P) * v = (Y + q * P) * v := by rw [e1]
  have e3 : (r * 268435456 + y) * P = (q * v + r') * P := by rw [hq]
  grind
end
section
/-! the tables' words, in pieces -/
def ck_0 : List Cond := [Cond.initialized "WholeDeskLaw", Cond.initialized "WholeDesk", Cond.initialized "WholeDesk$Whole", Cond.initialized "WholeDesk$Reckoner", Cond.initialized "WholeDesk$Draft", Cond.initialized "WholeDesk$Writing", Cond.initialized "WholeDeskModel", Cond.initialized "java/lang/Throwable", Cond.initialized "java/lang/Exception", Cond.initialized "java/lang/RuntimeException", Cond.initialized "java/lang/IllegalArgumentException", Cond.initialized "java/lang/IllegalStateException", Cond.initialized "java/lang/Math", Cond.initialized "java/lang/ArithmeticException", Cond.initialized "java/lang/System", Cond.initialized "java/lang/Long", Cond.classLink "WholeDeskLaw" 8 "WholeDesk", Cond.instantiable "WholeDesk" 4, Cond.methodLink "WholeDeskLaw" 77 ⟨"WholeDesk", "<init>", "()V"⟩, Cond.instanceMethod ⟨"WholeDesk", "<init>", "()V"⟩]
def ck_1 : List Cond := [Cond.code ⟨"WholeDesk", "<init>", "()V"⟩ prog_1_method_1_code 2 none, Cond.methodLink "WholeDesk" 1 ⟨"java/lang/Object", "<init>", "()V"⟩, Cond.instanceMethod ⟨"java/lang/Object", "<init>", "()V"⟩, Cond.code ⟨"java/lang/Object", "<init>", "()V"⟩ object_method_1_code 1 none, Cond.classLink "WholeDesk" 9 "WholeDesk$Whole", Cond.arrayOver (FieldType.object "WholeDesk$Whole"), Cond.instantiable "WholeDesk$Whole" 3, Cond.methodLink "WholeDesk" 15 ⟨"WholeDesk$Whole", "<init>", "()V"⟩, Cond.instanceMethod ⟨"WholeDesk$Whole", "<init>", "()V"⟩, Cond.code ⟨"WholeDesk$Whole", "<init>", "()V"⟩ prog_4_method_1_code 1 none, Cond.methodLink "WholeDesk$Whole" 5 ⟨"java/lang/Object", "<init>", "()V"⟩, Cond.fieldLink "WholeDesk$Whole" 11 "WholeDesk$Whole" "limbs" "[J", Cond.fieldLink "WholeDesk$Reckoner" 149 "WholeDesk$Whole" "limbs" "[J", Cond.fieldLink "WholeDesk$Reckoner" 51 "WholeDesk$Whole" "count" "I", Cond.fieldLink "WholeDesk$Whole" 17 "WholeDesk$Whole" "count" "I", Cond.fieldLink "WholeDesk$Writing" 34 "WholeDesk$Whole" "count" "I", Cond.fieldLink "WholeDesk$Draft" 42 "WholeDesk$Whole" "count" "I", Cond.fieldLink "WholeDesk" 88 "WholeDesk$Whole" "count" "I", Cond.fieldLink "WholeDesk$Reckoner" 43 "WholeDesk$Whole" "below" "Z", Cond.fieldLink "WholeDesk$Whole" 21 "WholeDesk$Whole" "below" "Z"]
def ck_2 : List Cond := [Cond.fieldLink "WholeDesk$Writing" 45 "WholeDesk$Whole" "below" "Z", Cond.fieldLink "WholeDesk$Draft" 49 "WholeDesk$Whole" "below" "Z", Cond.fieldLink "WholeDesk" 128 "WholeDesk$Whole" "below" "Z", Cond.laysFinal "WholeDesk$Whole" "WholeDesk$Whole" "limbs" "[J", Cond.soleField "WholeDesk$Whole" "limbs", Cond.lays "WholeDesk$Whole" "WholeDesk$Whole" "count" "I", Cond.soleField "WholeDesk$Whole" "count", Cond.lays "WholeDesk$Whole" "WholeDesk$Whole" "below" "Z", Cond.soleField "WholeDesk$Whole" "below", Cond.superclass "WholeDesk$Whole" "java/lang/Object", Cond.arrayClass FieldType.long, Cond.classLink "WholeDesk" 16 "WholeDesk$Reckoner", Cond.instantiable "WholeDesk$Reckoner" 9, Cond.methodLink "WholeDesk" 18 ⟨"WholeDesk$Reckoner", "<init>", "()V"⟩, Cond.instanceMethod ⟨"WholeDesk$Reckoner", "<init>", "()V"⟩, Cond.code ⟨"WholeDesk$Reckoner", "<init>", "()V"⟩ prog_3_method_1_code 2 none, Cond.methodLink "WholeDesk$Reckoner" 3 ⟨"java/lang/Object", "<init>", "()V"⟩, Cond.classLink "WholeDesk$Reckoner" 9 "WholeDesk$Whole", Cond.methodLink "WholeDesk$Reckoner" 11 ⟨"WholeDesk$Whole", "<init>", "()V"⟩, Cond.fieldLink "WholeDesk$Reckoner" 12 "WholeDesk$Reckoner" "quotient" "LWholeDesk$Whole;"]
def ck_3 : List Cond := [Cond.fieldLink "WholeDesk" 98 "WholeDesk$Reckoner" "quotient" "LWholeDesk$Whole;", Cond.fieldLink "WholeDesk$Reckoner" 18 "WholeDesk$Reckoner" "rest" "LWholeDesk$Whole;", Cond.fieldLink "WholeDesk" 102 "WholeDesk$Reckoner" "rest" "LWholeDesk$Whole;", Cond.fieldLink "WholeDesk$Reckoner" 21 "WholeDesk$Reckoner" "answer" "LWholeDesk$Whole;", Cond.fieldLink "WholeDesk$Reckoner" 24 "WholeDesk$Reckoner" "spare" "LWholeDesk$Whole;", Cond.fieldLink "WholeDesk$Reckoner" 27 "WholeDesk$Reckoner" "first" "LWholeDesk$Whole;", Cond.fieldLink "WholeDesk$Reckoner" 30 "WholeDesk$Reckoner" "second" "LWholeDesk$Whole;", Cond.fieldLink "WholeDesk$Reckoner" 33 "WholeDesk$Reckoner" "third" "LWholeDesk$Whole;", Cond.fieldLink "WholeDesk$Reckoner" 36 "WholeDesk$Reckoner" "fourth" "LWholeDesk$Whole;", Cond.fieldLink "WholeDesk$Reckoner" 39 "WholeDesk$Reckoner" "powers" "[LWholeDesk$Whole;", Cond.laysFinal "WholeDesk$Reckoner" "WholeDesk$Reckoner" "quotient" "LWholeDesk$Whole;", Cond.soleField "WholeDesk$Reckoner" "quotient", Cond.laysFinal "WholeDesk$Reckoner" "WholeDesk$Reckoner" "rest" "LWholeDesk$Whole;", Cond.soleField "WholeDesk$Reckoner" "rest", Cond.lays "WholeDesk$Reckoner" "WholeDesk$Reckoner" "answer" "LWholeDesk$Whole;", Cond.soleField "WholeDesk$Reckoner" "answer", Cond.lays "WholeDesk$Reckoner" "WholeDesk$Reckoner" "spare" "LWholeDesk$Whole;", Cond.soleField "WholeDesk$Reckoner" "spare", Cond.laysFinal "WholeDesk$Reckoner" "WholeDesk$Reckoner" "first" "LWholeDesk$Whole;", Cond.soleField "WholeDesk$Reckoner" "first"]
def ck_4 : List Cond := [Cond.laysFinal "WholeDesk$Reckoner" "WholeDesk$Reckoner" "second" "LWholeDesk$Whole;", Cond.soleField "WholeDesk$Reckoner" "second", Cond.laysFinal "WholeDesk$Reckoner" "WholeDesk$Reckoner" "third" "LWholeDesk$Whole;", Cond.soleField "WholeDesk$Reckoner" "third", Cond.laysFinal "WholeDesk$Reckoner" "WholeDesk$Reckoner" "fourth" "LWholeDesk$Whole;", Cond.soleField "WholeDesk$Reckoner" "fourth", Cond.laysFinal "WholeDesk$Reckoner" "WholeDesk$Reckoner" "powers" "[LWholeDesk$Whole;", Cond.soleField "WholeDesk$Reckoner" "powers", Cond.superclass "WholeDesk$Reckoner" "java/lang/Object", Cond.classLink "WholeDesk" 23 "WholeDesk$Draft", Cond.instantiable "WholeDesk$Draft" 3, Cond.methodLink "WholeDesk" 25 ⟨"WholeDesk$Draft", "<init>", "()V"⟩, Cond.instanceMethod ⟨"WholeDesk$Draft", "<init>", "()V"⟩, Cond.code ⟨"WholeDesk$Draft", "<init>", "()V"⟩ prog_2_method_1_code 1 none, Cond.methodLink "WholeDesk$Draft" 5 ⟨"java/lang/Object", "<init>", "()V"⟩, Cond.classLink "WholeDesk$Draft" 1 "WholeDesk$Whole", Cond.methodLink "WholeDesk$Draft" 17 ⟨"WholeDesk$Whole", "<init>", "()V"⟩, Cond.fieldLink "WholeDesk$Draft" 22 "WholeDesk$Draft" "count" "I", Cond.fieldLink "WholeDesk" 48 "WholeDesk$Draft" "count" "I", Cond.fieldLink "WholeDesk$Draft" 11 "WholeDesk$Draft" "characters" "[B"]
def ck_5 : List Cond := [Cond.fieldLink "WholeDesk$Draft" 18 "WholeDesk$Draft" "value" "LWholeDesk$Whole;", Cond.lays "WholeDesk$Draft" "WholeDesk$Draft" "count" "I", Cond.soleField "WholeDesk$Draft" "count", Cond.laysFinal "WholeDesk$Draft" "WholeDesk$Draft" "characters" "[B", Cond.soleField "WholeDesk$Draft" "characters", Cond.laysFinal "WholeDesk$Draft" "WholeDesk$Draft" "value" "LWholeDesk$Whole;", Cond.soleField "WholeDesk$Draft" "value", Cond.superclass "WholeDesk$Draft" "java/lang/Object", Cond.arrayClass FieldType.byte, Cond.classLink "WholeDesk" 30 "WholeDesk$Writing", Cond.instantiable "WholeDesk$Writing" 3, Cond.methodLink "WholeDesk" 32 ⟨"WholeDesk$Writing", "<init>", "()V"⟩, Cond.instanceMethod ⟨"WholeDesk$Writing", "<init>", "()V"⟩, Cond.code ⟨"WholeDesk$Writing", "<init>", "()V"⟩ prog_5_method_1_code 1 none, Cond.methodLink "WholeDesk$Writing" 3 ⟨"java/lang/Object", "<init>", "()V"⟩, Cond.classLink "WholeDesk$Writing" 19 "WholeDesk$Whole", Cond.methodLink "WholeDesk$Writing" 21 ⟨"WholeDesk$Whole", "<init>", "()V"⟩, Cond.fieldLink "WholeDesk$Writing" 11 "WholeDesk$Writing" "row" "[B", Cond.fieldLink "WholeDesk$Writing" 15 "WholeDesk$Writing" "start" "I", Cond.fieldLink "WholeDesk$Writing" 22 "WholeDesk$Writing" "left" "LWholeDesk$Whole;"]
def ck_6 : List Cond := [Cond.laysFinal "WholeDesk$Writing" "WholeDesk$Writing" "row" "[B", Cond.soleField "WholeDesk$Writing" "row", Cond.lays "WholeDesk$Writing" "WholeDesk$Writing" "start" "I", Cond.soleField "WholeDesk$Writing" "start", Cond.laysFinal "WholeDesk$Writing" "WholeDesk$Writing" "left" "LWholeDesk$Whole;", Cond.soleField "WholeDesk$Writing" "left", Cond.superclass "WholeDesk$Writing" "java/lang/Object", Cond.fieldLink "WholeDesk" 11 "WholeDesk" "registers" "[LWholeDesk$Whole;", Cond.fieldLink "WholeDesk" 19 "WholeDesk" "reckoner" "LWholeDesk$Reckoner;", Cond.fieldLink "WholeDesk" 26 "WholeDesk" "draft" "LWholeDesk$Draft;", Cond.fieldLink "WholeDesk" 33 "WholeDesk" "writing" "LWholeDesk$Writing;", Cond.laysFinal "WholeDesk" "WholeDesk" "registers" "[LWholeDesk$Whole;", Cond.soleField "WholeDesk" "registers", Cond.laysFinal "WholeDesk" "WholeDesk" "reckoner" "LWholeDesk$Reckoner;", Cond.soleField "WholeDesk" "reckoner", Cond.laysFinal "WholeDesk" "WholeDesk" "draft" "LWholeDesk$Draft;", Cond.soleField "WholeDesk" "draft", Cond.laysFinal "WholeDesk" "WholeDesk" "writing" "LWholeDesk$Writing;", Cond.soleField "WholeDesk" "writing", Cond.superclass "WholeDesk" "java/lang/Object"]
def ck_7 : List Cond := [Cond.methodLink "WholeDeskLaw" 93 ⟨"WholeDesk", "wipe", "()I"⟩, Cond.instanceMethod ⟨"WholeDesk", "wipe", "()I"⟩, Cond.selects "WholeDesk" ⟨"WholeDesk", "wipe", "()I"⟩ ⟨"WholeDesk", "wipe", "()I"⟩, Cond.code ⟨"WholeDesk", "wipe", "()I"⟩ prog_1_method_3_code 2 (some .int), Cond.methodLink "WholeDeskLaw" 154 ⟨"WholeDesk", "text", "(I)J"⟩, Cond.instanceMethod ⟨"WholeDesk", "text", "(I)J"⟩, Cond.selects "WholeDesk" ⟨"WholeDesk", "text", "(I)J"⟩ ⟨"WholeDesk", "text", "(I)J"⟩, Cond.code ⟨"WholeDesk", "text", "(I)J"⟩ prog_1_method_21_code 2 (some .long), Cond.methodLink "WholeDesk" 197 ⟨"WholeDesk$Writing", "eightFrom", "(I)J"⟩, Cond.instanceMethod ⟨"WholeDesk$Writing", "eightFrom", "(I)J"⟩, Cond.selects "WholeDesk$Writing" ⟨"WholeDesk$Writing", "eightFrom", "(I)J"⟩ ⟨"WholeDesk$Writing", "eightFrom", "(I)J"⟩, Cond.code ⟨"WholeDesk$Writing", "eightFrom", "(I)J"⟩ prog_5_method_6_code 5 (some .long), Cond.methodLink "WholeDesk$Writing" 55 ⟨"WholeDesk$Writing", "characterAt", "(J)I"⟩, Cond.privateMethod ⟨"WholeDesk$Writing", "characterAt", "(J)I"⟩, Cond.instanceMethod ⟨"WholeDesk$Writing", "characterAt", "(J)I"⟩, Cond.code ⟨"WholeDesk$Writing", "characterAt", "(J)I"⟩ prog_5_method_7_code 3 (some .int), Cond.methodLink "WholeDeskLaw" 83 ⟨"WholeDeskLaw", "write", "(LWholeDesk;IJ[J)I"⟩, Cond.static ⟨"WholeDeskLaw", "write", "(LWholeDesk;IJ[J)I"⟩, Cond.codeWith ⟨"WholeDeskLaw", "write", "(LWholeDesk;IJ[J)I"⟩ method_3_code 6 (some .int) [(0, 11, 14, 13)], Cond.classLink "WholeDeskLaw" 13 "java/lang/IllegalArgumentException"]
def ck_8 : List Cond := [Cond.methodLink "WholeDeskLaw" 7 ⟨"WholeDesk", "write", "(IJ)I"⟩, Cond.instanceMethod ⟨"WholeDesk", "write", "(IJ)I"⟩, Cond.selects "WholeDesk" ⟨"WholeDesk", "write", "(IJ)I"⟩ ⟨"WholeDesk", "write", "(IJ)I"⟩, Cond.code ⟨"WholeDesk", "write", "(IJ)I"⟩ prog_1_method_2_code 4 (some .int), Cond.classLink "WholeDesk" 37 "java/lang/IllegalArgumentException", Cond.instantiable "java/lang/IllegalArgumentException" 6, Cond.castable "java/lang/IllegalArgumentException" "java/lang/IllegalArgumentException", Cond.declares ⟨"java/lang/RuntimeException", "<init>", "()V"⟩, Cond.declares ⟨"java/lang/RuntimeException", "<init>", "(Ljava/lang/String;)V"⟩, Cond.declares ⟨"java/lang/Exception", "<init>", "()V"⟩, Cond.declares ⟨"java/lang/Exception", "<init>", "(Ljava/lang/String;)V"⟩, Cond.declares ⟨"java/lang/Throwable", "<init>", "()V"⟩, Cond.declares ⟨"java/lang/Throwable", "<init>", "(Ljava/lang/String;)V"⟩, Cond.selects "java/lang/IllegalArgumentException" ⟨"java/lang/Throwable", "fillInStackTrace", "(I)Ljava/lang/Throwable;"⟩ ⟨"java/lang/Throwable", "fillInStackTrace", "(I)Ljava/lang/Throwable;"⟩, Cond.selects "java/lang/IllegalArgumentException" ⟨"java/lang/Throwable", "fillInStackTrace", "()Ljava/lang/Throwable;"⟩ ⟨"java/lang/Throwable", "fillInStackTrace", "()Ljava/lang/Throwable;"⟩, Cond.lays "java/lang/IllegalArgumentException" "java/lang/Throwable" "cause" "Ljava/lang/Throwable;", Cond.lays "java/lang/Throwable" "java/lang/Throwable" "cause" "Ljava/lang/Throwable;", Cond.lays "java/lang/IllegalArgumentException" "java/lang/Throwable" "stackTrace" "[Ljava/lang/StackTraceElement;", Cond.lays "java/lang/Throwable" "java/lang/Throwable" "stackTrace" "[Ljava/lang/StackTraceElement;", Cond.lays "java/lang/IllegalArgumentException" "java/lang/Throwable" "suppressedExceptions" "Ljava/util/List;"]
def ck_9 : List Cond := [Cond.lays "java/lang/Throwable" "java/lang/Throwable" "suppressedExceptions" "Ljava/util/List;", Cond.lays "java/lang/IllegalArgumentException" "java/lang/Throwable" "detailMessage" "Ljava/lang/String;", Cond.lays "java/lang/Throwable" "java/lang/Throwable" "detailMessage" "Ljava/lang/String;", Cond.lays "java/lang/IllegalArgumentException" "java/lang/Throwable" "backtrace" "Ljava/lang/Object;", Cond.lays "java/lang/Throwable" "java/lang/Throwable" "backtrace" "Ljava/lang/Object;", Cond.fieldLink "java/lang/Throwable" 198 "java/lang/Throwable" "backtrace" "Ljava/lang/Object;", Cond.superclass "java/lang/Throwable" "java/lang/Object", Cond.instanceMethod ⟨"java/lang/Throwable", "<init>", "()V"⟩, Cond.code ⟨"java/lang/Throwable", "<init>", "()V"⟩ prog_17_method_1_code 1 none, Cond.methodLink "java/lang/Throwable" 1 ⟨"java/lang/Object", "<init>", "()V"⟩, Cond.fieldLink "java/lang/Throwable" 13 "java/lang/Throwable" "UNASSIGNED_STACK" "[Ljava/lang/StackTraceElement;", Cond.laysStatic "java/lang/Throwable" "UNASSIGNED_STACK" "[Ljava/lang/StackTraceElement;", Cond.fieldLink "java/lang/Throwable" 20 "java/lang/Throwable" "SUPPRESSED_SENTINEL" "Ljava/util/List;", Cond.laysStatic "java/lang/Throwable" "SUPPRESSED_SENTINEL" "Ljava/util/List;", Cond.methodLink "java/lang/Throwable" 27 ⟨"java/lang/Throwable", "fillInStackTrace", "()Ljava/lang/Throwable;"⟩, Cond.instanceMethod ⟨"java/lang/Throwable", "fillInStackTrace", "()Ljava/lang/Throwable;"⟩, Cond.sameMethod "java/lang/Throwable" "java/lang/Throwable" "fillInStackTrace" "()Ljava/lang/Throwable;", Cond.selects "java/lang/ArithmeticException" ⟨"java/lang/Throwable", "fillInStackTrace", "()Ljava/lang/Throwable;"⟩ ⟨"java/lang/Throwable", "fillInStackTrace", "()Ljava/lang/Throwable;"⟩, Cond.selects "java/lang/IllegalStateException" ⟨"java/lang/Throwable", "fillInStackTrace", "()Ljava/lang/Throwable;"⟩ ⟨"java/lang/Throwable", "fillInStackTrace", "()Ljava/lang/Throwable;"⟩, Cond.codeSync ⟨"java/lang/Throwable", "fillInStackTrace", "()Ljava/lang/Throwable;"⟩ prog_17_method_18_code 1 (some (FieldType.object "java/lang/Throwable"))]
def ck_10 : List Cond := [Cond.methodLink "java/lang/Throwable" 202 ⟨"java/lang/Throwable", "fillInStackTrace", "(I)Ljava/lang/Throwable;"⟩, Cond.privateMethod ⟨"java/lang/Throwable", "fillInStackTrace", "(I)Ljava/lang/Throwable;"⟩, Cond.instanceMethod ⟨"java/lang/Throwable", "fillInStackTrace", "(I)Ljava/lang/Throwable;"⟩, Cond.instantiable "java/lang/Throwable" 6, Cond.native ⟨"java/lang/Throwable", "fillInStackTrace", "(I)Ljava/lang/Throwable;"⟩, Cond.stringRef "WholeDesk" 39 "a write has 1 to 8 characters", Cond.methodLink "WholeDesk" 41 ⟨"java/lang/IllegalArgumentException", "<init>", "(Ljava/lang/String;)V"⟩, Cond.instanceMethod ⟨"java/lang/IllegalArgumentException", "<init>", "(Ljava/lang/String;)V"⟩, Cond.code ⟨"java/lang/IllegalArgumentException", "<init>", "(Ljava/lang/String;)V"⟩ prog_10_method_2_code 2 none, Cond.methodLink "java/lang/IllegalArgumentException" 7 ⟨"java/lang/RuntimeException", "<init>", "(Ljava/lang/String;)V"⟩, Cond.instanceMethod ⟨"java/lang/RuntimeException", "<init>", "(Ljava/lang/String;)V"⟩, Cond.code ⟨"java/lang/RuntimeException", "<init>", "(Ljava/lang/String;)V"⟩ prog_14_method_2_code 2 none, Cond.methodLink "java/lang/RuntimeException" 7 ⟨"java/lang/Exception", "<init>", "(Ljava/lang/String;)V"⟩, Cond.instanceMethod ⟨"java/lang/Exception", "<init>", "(Ljava/lang/String;)V"⟩, Cond.code ⟨"java/lang/Exception", "<init>", "(Ljava/lang/String;)V"⟩ prog_9_method_2_code 2 none, Cond.methodLink "java/lang/Exception" 7 ⟨"java/lang/Throwable", "<init>", "(Ljava/lang/String;)V"⟩, Cond.instanceMethod ⟨"java/lang/Throwable", "<init>", "(Ljava/lang/String;)V"⟩, Cond.code ⟨"java/lang/Throwable", "<init>", "(Ljava/lang/String;)V"⟩ prog_17_method_2_code 2 none, Cond.fieldLink "java/lang/Throwable" 198 "java/lang/Throwable" "backtrace" "Ljava/lang/Object;", Cond.fieldLink "java/lang/Throwable" 31 "java/lang/Throwable" "detailMessage" "Ljava/lang/String;"]
def ck_11 : List Cond := [Cond.fieldLink "java/lang/Throwable" 7 "java/lang/Throwable" "cause" "Ljava/lang/Throwable;", Cond.fieldLink "java/lang/Throwable" 17 "java/lang/Throwable" "stackTrace" "[Ljava/lang/StackTraceElement;", Cond.fieldLink "java/lang/Throwable" 24 "java/lang/Throwable" "suppressedExceptions" "Ljava/util/List;", Cond.soleField "java/lang/Throwable" "backtrace", Cond.soleField "java/lang/Throwable" "detailMessage", Cond.soleField "java/lang/Throwable" "cause", Cond.soleField "java/lang/Throwable" "stackTrace", Cond.lays "java/lang/IllegalArgumentException" "java/lang/Throwable" "depth" "I", Cond.soleField "java/lang/Throwable" "depth", Cond.soleField "java/lang/Throwable" "suppressedExceptions", Cond.superclass "java/lang/IllegalArgumentException" "java/lang/RuntimeException", Cond.methodLink "WholeDesk" 44 ⟨"WholeDesk$Draft", "append", "(IJ)Z"⟩, Cond.instanceMethod ⟨"WholeDesk$Draft", "append", "(IJ)Z"⟩, Cond.selects "WholeDesk$Draft" ⟨"WholeDesk$Draft", "append", "(IJ)Z"⟩ ⟨"WholeDesk$Draft", "append", "(IJ)Z"⟩, Cond.code ⟨"WholeDesk$Draft", "append", "(IJ)Z"⟩ prog_2_method_2_code 5 (some .boolean), Cond.methodLink "WholeDeskLaw" 97 ⟨"WholeDeskLaw", "read", "(LWholeDesk;II)I"⟩, Cond.static ⟨"WholeDeskLaw", "read", "(LWholeDesk;II)I"⟩, Cond.codeWith ⟨"WholeDeskLaw", "read", "(LWholeDesk;II)I"⟩ method_4_code 4 (some .int) [(0, 6, 9, 13), (0, 6, 12, 19), (0, 6, 15, 21)], Cond.classLink "WholeDeskLaw" 19 "java/lang/IllegalStateException", Cond.classLink "WholeDeskLaw" 21 "java/lang/ArithmeticException"]
def ck_12 : List Cond := [Cond.methodLink "WholeDeskLaw" 15 ⟨"WholeDesk", "read", "(II)V"⟩, Cond.instanceMethod ⟨"WholeDesk", "read", "(II)V"⟩, Cond.selects "WholeDesk" ⟨"WholeDesk", "read", "(II)V"⟩ ⟨"WholeDesk", "read", "(II)V"⟩, Cond.code ⟨"WholeDesk", "read", "(II)V"⟩ prog_1_method_4_code 3 none, Cond.methodLink "WholeDesk" 52 ⟨"WholeDesk", "testRegister", "(I)V"⟩, Cond.static ⟨"WholeDesk", "testRegister", "(I)V"⟩, Cond.code ⟨"WholeDesk", "testRegister", "(I)V"⟩ prog_1_method_22_code 1 none, Cond.stringRef "WholeDesk" 201 "the register is not 0 to 9", Cond.methodLink "WholeDesk" 56 ⟨"WholeDesk", "testBase", "(I)V"⟩, Cond.static ⟨"WholeDesk", "testBase", "(I)V"⟩, Cond.code ⟨"WholeDesk", "testBase", "(I)V"⟩ prog_1_method_23_code 1 none, Cond.stringRef "WholeDesk" 203 "the base is not 2 to 36", Cond.methodLink "WholeDesk" 59 ⟨"WholeDesk$Draft", "isNumber", "(I)Z"⟩, Cond.instanceMethod ⟨"WholeDesk$Draft", "isNumber", "(I)Z"⟩, Cond.selects "WholeDesk$Draft" ⟨"WholeDesk$Draft", "isNumber", "(I)Z"⟩ ⟨"WholeDesk$Draft", "isNumber", "(I)Z"⟩, Cond.code ⟨"WholeDesk$Draft", "isNumber", "(I)Z"⟩ prog_2_method_5_code 3 (some .boolean), Cond.methodLink "WholeDesk$Draft" 30 ⟨"WholeDesk$Draft", "start", "()I"⟩, Cond.privateMethod ⟨"WholeDesk$Draft", "start", "()I"⟩, Cond.instanceMethod ⟨"WholeDesk$Draft", "start", "()I"⟩, Cond.code ⟨"WholeDesk$Draft", "start", "()I"⟩ prog_2_method_4_code 1 (some .int)]
def ck_13 : List Cond := [Cond.methodLink "WholeDesk$Draft" 26 ⟨"WholeDesk$Draft", "startsWith", "(C)Z"⟩, Cond.privateMethod ⟨"WholeDesk$Draft", "startsWith", "(C)Z"⟩, Cond.instanceMethod ⟨"WholeDesk$Draft", "startsWith", "(C)Z"⟩, Cond.code ⟨"WholeDesk$Draft", "startsWith", "(C)Z"⟩ prog_2_method_3_code 2 (some .boolean), Cond.methodLink "WholeDesk$Draft" 34 ⟨"WholeDesk$Draft", "digitOf", "(B)I"⟩, Cond.static ⟨"WholeDesk$Draft", "digitOf", "(B)I"⟩, Cond.code ⟨"WholeDesk$Draft", "digitOf", "(B)I"⟩ prog_2_method_6_code 1 (some .int), Cond.classLink "WholeDesk" 63 "java/lang/IllegalStateException", Cond.instantiable "java/lang/IllegalStateException" 6, Cond.castable "java/lang/IllegalStateException" "java/lang/IllegalStateException", Cond.selects "java/lang/IllegalStateException" ⟨"java/lang/Throwable", "fillInStackTrace", "(I)Ljava/lang/Throwable;"⟩ ⟨"java/lang/Throwable", "fillInStackTrace", "(I)Ljava/lang/Throwable;"⟩, Cond.lays "java/lang/IllegalStateException" "java/lang/Throwable" "cause" "Ljava/lang/Throwable;", Cond.lays "java/lang/IllegalStateException" "java/lang/Throwable" "stackTrace" "[Ljava/lang/StackTraceElement;", Cond.lays "java/lang/IllegalStateException" "java/lang/Throwable" "suppressedExceptions" "Ljava/util/List;", Cond.lays "java/lang/IllegalStateException" "java/lang/Throwable" "detailMessage" "Ljava/lang/String;", Cond.lays "java/lang/IllegalStateException" "java/lang/Throwable" "backtrace" "Ljava/lang/Object;", Cond.stringRef "WholeDesk" 65 "the draft is no number text to this base", Cond.methodLink "WholeDesk" 67 ⟨"java/lang/IllegalStateException", "<init>", "(Ljava/lang/String;)V"⟩, Cond.instanceMethod ⟨"java/lang/IllegalStateException", "<init>", "(Ljava/lang/String;)V"⟩, Cond.code ⟨"java/lang/IllegalStateException", "<init>", "(Ljava/lang/String;)V"⟩ prog_11_method_2_code 2 none]
def ck_14 : List Cond := [Cond.methodLink "java/lang/IllegalStateException" 7 ⟨"java/lang/RuntimeException", "<init>", "(Ljava/lang/String;)V"⟩, Cond.lays "java/lang/IllegalStateException" "java/lang/Throwable" "depth" "I", Cond.superclass "java/lang/IllegalStateException" "java/lang/RuntimeException", Cond.methodLink "WholeDesk" 68 ⟨"WholeDesk$Draft", "parsed", "(I)LWholeDesk$Whole;"⟩, Cond.instanceMethod ⟨"WholeDesk$Draft", "parsed", "(I)LWholeDesk$Whole;"⟩, Cond.selects "WholeDesk$Draft" ⟨"WholeDesk$Draft", "parsed", "(I)LWholeDesk$Whole;"⟩ ⟨"WholeDesk$Draft", "parsed", "(I)LWholeDesk$Whole;"⟩, Cond.code ⟨"WholeDesk$Draft", "parsed", "(I)LWholeDesk$Whole;"⟩ prog_2_method_7_code 7 (some (FieldType.object "WholeDesk$Whole")), Cond.methodLink "WholeDesk$Draft" 38 ⟨"WholeDesk$Whole", "become", "(J)V"⟩, Cond.instanceMethod ⟨"WholeDesk$Whole", "become", "(J)V"⟩, Cond.selects "WholeDesk$Whole" ⟨"WholeDesk$Whole", "become", "(J)V"⟩ ⟨"WholeDesk$Whole", "become", "(J)V"⟩, Cond.code ⟨"WholeDesk$Whole", "become", "(J)V"⟩ prog_4_method_2_code 5 none, Cond.constantLong "WholeDesk$Whole" 15 268435455, Cond.methodLink "WholeDesk$Whole" 25 ⟨"WholeDesk$Whole", "trim", "()V"⟩, Cond.instanceMethod ⟨"WholeDesk$Whole", "trim", "()V"⟩, Cond.selects "WholeDesk$Whole" ⟨"WholeDesk$Whole", "trim", "()V"⟩ ⟨"WholeDesk$Whole", "trim", "()V"⟩, Cond.code ⟨"WholeDesk$Whole", "trim", "()V"⟩ prog_4_method_6_code 1 none, Cond.constantLong "WholeDesk$Draft" 43 268435455, Cond.methodLink "WholeDesk$Draft" 45 ⟨"WholeDesk$Whole", "scale", "(JJ)V"⟩, Cond.instanceMethod ⟨"WholeDesk$Whole", "scale", "(JJ)V"⟩, Cond.selects "WholeDesk$Whole" ⟨"WholeDesk$Whole", "scale", "(JJ)V"⟩ ⟨"WholeDesk$Whole", "scale", "(JJ)V"⟩]
def ck_15 : List Cond := [Cond.code ⟨"WholeDesk$Whole", "scale", "(JJ)V"⟩ prog_4_method_26_code 10 none, Cond.methodLink "WholeDesk$Whole" 28 ⟨"WholeDesk$Whole", "stretch", "(I)V"⟩, Cond.instanceMethod ⟨"WholeDesk$Whole", "stretch", "(I)V"⟩, Cond.selects "WholeDesk$Whole" ⟨"WholeDesk$Whole", "stretch", "(I)V"⟩ ⟨"WholeDesk$Whole", "stretch", "(I)V"⟩, Cond.code ⟨"WholeDesk$Whole", "stretch", "(I)V"⟩ prog_4_method_5_code 4 none, Cond.methodLink "WholeDesk$Whole" 32 ⟨"java/lang/Math", "min", "(II)I"⟩, Cond.static ⟨"java/lang/Math", "min", "(II)I"⟩, Cond.code ⟨"java/lang/Math", "min", "(II)I"⟩ prog_13_method_69_code 2 (some .int), Cond.methodLink "WholeDesk$Whole" 44 ⟨"java/lang/Math", "max", "(II)I"⟩, Cond.static ⟨"java/lang/Math", "max", "(II)I"⟩, Cond.code ⟨"java/lang/Math", "max", "(II)I"⟩ prog_13_method_65_code 2 (some .int), Cond.methodLink "WholeDesk" 72 ⟨"WholeDesk", "keep", "(LWholeDesk$Whole;I)V"⟩, Cond.privateMethod ⟨"WholeDesk", "keep", "(LWholeDesk$Whole;I)V"⟩, Cond.instanceMethod ⟨"WholeDesk", "keep", "(LWholeDesk$Whole;I)V"⟩, Cond.code ⟨"WholeDesk", "keep", "(LWholeDesk$Whole;I)V"⟩ prog_1_method_25_code 3 none, Cond.methodLink "WholeDesk" 114 ⟨"WholeDesk$Whole", "bits", "()I"⟩, Cond.instanceMethod ⟨"WholeDesk$Whole", "bits", "()I"⟩, Cond.selects "WholeDesk$Whole" ⟨"WholeDesk$Whole", "bits", "()I"⟩ ⟨"WholeDesk$Whole", "bits", "()I"⟩, Cond.code ⟨"WholeDesk$Whole", "bits", "()I"⟩ prog_4_method_9_code 1 (some .int), Cond.methodLink "WholeDesk$Whole" 47 ⟨"WholeDesk$Whole", "limb", "(I)J"⟩]
def ck_16 : List Cond := [Cond.instanceMethod ⟨"WholeDesk$Whole", "limb", "(I)J"⟩, Cond.selects "WholeDesk$Whole" ⟨"WholeDesk$Whole", "limb", "(I)J"⟩ ⟨"WholeDesk$Whole", "limb", "(I)J"⟩, Cond.code ⟨"WholeDesk$Whole", "limb", "(I)J"⟩ prog_4_method_7_code 2 (some .long), Cond.methodLink "WholeDesk$Whole" 51 ⟨"WholeDesk$Whole", "digitsOf", "(J)I"⟩, Cond.static ⟨"WholeDesk$Whole", "digitsOf", "(J)I"⟩, Cond.code ⟨"WholeDesk$Whole", "digitsOf", "(J)I"⟩ prog_4_method_10_code 5 (some .int), Cond.classLink "WholeDesk" 89 "java/lang/ArithmeticException", Cond.instantiable "java/lang/ArithmeticException" 6, Cond.castable "java/lang/ArithmeticException" "java/lang/ArithmeticException", Cond.selects "java/lang/ArithmeticException" ⟨"java/lang/Throwable", "fillInStackTrace", "(I)Ljava/lang/Throwable;"⟩ ⟨"java/lang/Throwable", "fillInStackTrace", "(I)Ljava/lang/Throwable;"⟩, Cond.lays "java/lang/ArithmeticException" "java/lang/Throwable" "cause" "Ljava/lang/Throwable;", Cond.lays "java/lang/ArithmeticException" "java/lang/Throwable" "stackTrace" "[Ljava/lang/StackTraceElement;", Cond.lays "java/lang/ArithmeticException" "java/lang/Throwable" "suppressedExceptions" "Ljava/util/List;", Cond.lays "java/lang/ArithmeticException" "java/lang/Throwable" "detailMessage" "Ljava/lang/String;", Cond.lays "java/lang/ArithmeticException" "java/lang/Throwable" "backtrace" "Ljava/lang/Object;", Cond.stringRef "WholeDesk" 207 "the number is too large for a register", Cond.methodLink "WholeDesk" 93 ⟨"java/lang/ArithmeticException", "<init>", "(Ljava/lang/String;)V"⟩, Cond.instanceMethod ⟨"java/lang/ArithmeticException", "<init>", "(Ljava/lang/String;)V"⟩, Cond.code ⟨"java/lang/ArithmeticException", "<init>", "(Ljava/lang/String;)V"⟩ prog_8_method_2_code 2 none, Cond.methodLink "java/lang/ArithmeticException" 7 ⟨"java/lang/RuntimeException", "<init>", "(Ljava/lang/String;)V"⟩]
def ck_17 : List Cond := [Cond.lays "java/lang/ArithmeticException" "java/lang/Throwable" "depth" "I", Cond.superclass "java/lang/ArithmeticException" "java/lang/RuntimeException", Cond.methodLink "WholeDesk" 140 ⟨"WholeDesk$Whole", "copy", "(LWholeDesk$Whole;)V"⟩, Cond.instanceMethod ⟨"WholeDesk$Whole", "copy", "(LWholeDesk$Whole;)V"⟩, Cond.selects "WholeDesk$Whole" ⟨"WholeDesk$Whole", "copy", "(LWholeDesk$Whole;)V"⟩ ⟨"WholeDesk$Whole", "copy", "(LWholeDesk$Whole;)V"⟩, Cond.code ⟨"WholeDesk$Whole", "copy", "(LWholeDesk$Whole;)V"⟩ prog_4_method_4_code 3 none, Cond.methodLink "WholeDesk$Whole" 38 ⟨"java/lang/System", "arraycopy", "(Ljava/lang/Object;ILjava/lang/Object;II)V"⟩, Cond.static ⟨"java/lang/System", "arraycopy", "(Ljava/lang/Object;ILjava/lang/Object;II)V"⟩, Cond.native ⟨"java/lang/System", "arraycopy", "(Ljava/lang/Object;ILjava/lang/Object;II)V"⟩, Cond.methodLink "WholeDeskLaw" 101 ⟨"WholeDeskLaw", "put", "(LWholeDesk;IJ)I"⟩, Cond.static ⟨"WholeDeskLaw", "put", "(LWholeDesk;IJ)I"⟩, Cond.codeWith ⟨"WholeDeskLaw", "put", "(LWholeDesk;IJ)I"⟩ method_5_code 5 (some .int) [(0, 6, 9, 13)], Cond.methodLink "WholeDeskLaw" 23 ⟨"WholeDesk", "put", "(IJ)V"⟩, Cond.instanceMethod ⟨"WholeDesk", "put", "(IJ)V"⟩, Cond.selects "WholeDesk" ⟨"WholeDesk", "put", "(IJ)V"⟩ ⟨"WholeDesk", "put", "(IJ)V"⟩, Cond.code ⟨"WholeDesk", "put", "(IJ)V"⟩ prog_1_method_5_code 4 none, Cond.methodLink "WholeDesk" 76 ⟨"WholeDesk$Whole", "become", "(J)V"⟩, Cond.methodLink "WholeDeskLaw" 105 ⟨"WholeDeskLaw", "add", "(LWholeDesk;IIIZ)I"⟩, Cond.static ⟨"WholeDeskLaw", "add", "(LWholeDesk;IIIZ)I"⟩, Cond.codeWith ⟨"WholeDeskLaw", "add", "(LWholeDesk;IIIZ)I"⟩ method_6_code 6 (some .int) [(0, 9, 12, 13), (0, 9, 16, 21)]]
def ck_18 : List Cond := [Cond.methodLink "WholeDeskLaw" 27 ⟨"WholeDesk", "add", "(IIIZ)V"⟩, Cond.instanceMethod ⟨"WholeDesk", "add", "(IIIZ)V"⟩, Cond.selects "WholeDesk" ⟨"WholeDesk", "add", "(IIIZ)V"⟩ ⟨"WholeDesk", "add", "(IIIZ)V"⟩, Cond.code ⟨"WholeDesk", "add", "(IIIZ)V"⟩ prog_1_method_6_code 5 none, Cond.methodLink "WholeDesk" 80 ⟨"WholeDesk$Reckoner", "sum", "(LWholeDesk$Whole;LWholeDesk$Whole;Z)LWholeDesk$Whole;"⟩, Cond.instanceMethod ⟨"WholeDesk$Reckoner", "sum", "(LWholeDesk$Whole;LWholeDesk$Whole;Z)LWholeDesk$Whole;"⟩, Cond.selects "WholeDesk$Reckoner" ⟨"WholeDesk$Reckoner", "sum", "(LWholeDesk$Whole;LWholeDesk$Whole;Z)LWholeDesk$Whole;"⟩ ⟨"WholeDesk$Reckoner", "sum", "(LWholeDesk$Whole;LWholeDesk$Whole;Z)LWholeDesk$Whole;"⟩, Cond.code ⟨"WholeDesk$Reckoner", "sum", "(LWholeDesk$Whole;LWholeDesk$Whole;Z)LWholeDesk$Whole;"⟩ prog_3_method_2_code 5 (some (FieldType.object "WholeDesk$Whole")), Cond.methodLink "WholeDesk$Reckoner" 47 ⟨"WholeDesk$Whole", "copy", "(LWholeDesk$Whole;)V"⟩, Cond.methodLink "WholeDesk$Reckoner" 55 ⟨"java/lang/Math", "max", "(II)I"⟩, Cond.methodLink "WholeDesk$Reckoner" 61 ⟨"WholeDesk$Whole", "stretch", "(I)V"⟩, Cond.methodLink "WholeDesk$Reckoner" 65 ⟨"WholeDesk$Whole", "mix", "(LWholeDesk$Whole;JI)J"⟩, Cond.instanceMethod ⟨"WholeDesk$Whole", "mix", "(LWholeDesk$Whole;JI)J"⟩, Cond.selects "WholeDesk$Whole" ⟨"WholeDesk$Whole", "mix", "(LWholeDesk$Whole;JI)J"⟩ ⟨"WholeDesk$Whole", "mix", "(LWholeDesk$Whole;JI)J"⟩, Cond.code ⟨"WholeDesk$Whole", "mix", "(LWholeDesk$Whole;JI)J"⟩ prog_4_method_20_code 14 (some .long), Cond.methodLink "WholeDesk$Reckoner" 69 ⟨"WholeDesk$Whole", "sizeAgainst", "(LWholeDesk$Whole;)I"⟩, Cond.instanceMethod ⟨"WholeDesk$Whole", "sizeAgainst", "(LWholeDesk$Whole;)I"⟩, Cond.selects "WholeDesk$Whole" ⟨"WholeDesk$Whole", "sizeAgainst", "(LWholeDesk$Whole;)I"⟩ ⟨"WholeDesk$Whole", "sizeAgainst", "(LWholeDesk$Whole;)I"⟩, Cond.code ⟨"WholeDesk$Whole", "sizeAgainst", "(LWholeDesk$Whole;)I"⟩ prog_4_method_12_code 3 (some .int), Cond.constantLong "WholeDesk$Reckoner" 73 (-1)]
def ck_19 : List Cond := [Cond.methodLink "WholeDesk$Reckoner" 75 ⟨"WholeDesk$Whole", "becomeLackTo", "(LWholeDesk$Whole;)V"⟩, Cond.instanceMethod ⟨"WholeDesk$Whole", "becomeLackTo", "(LWholeDesk$Whole;)V"⟩, Cond.selects "WholeDesk$Whole" ⟨"WholeDesk$Whole", "becomeLackTo", "(LWholeDesk$Whole;)V"⟩ ⟨"WholeDesk$Whole", "becomeLackTo", "(LWholeDesk$Whole;)V"⟩, Cond.code ⟨"WholeDesk$Whole", "becomeLackTo", "(LWholeDesk$Whole;)V"⟩ prog_4_method_23_code 7 none, Cond.methodLink "WholeDesk$Reckoner" 78 ⟨"WholeDesk$Whole", "trim", "()V"⟩, Cond.methodLink "WholeDeskLaw" 109 ⟨"WholeDeskLaw", "multiply", "(LWholeDesk;III)I"⟩, Cond.static ⟨"WholeDeskLaw", "multiply", "(LWholeDesk;III)I"⟩, Cond.codeWith ⟨"WholeDeskLaw", "multiply", "(LWholeDesk;III)I"⟩ method_7_code 5 (some .int) [(0, 7, 10, 13), (0, 7, 14, 21)], Cond.methodLink "WholeDeskLaw" 31 ⟨"WholeDesk", "multiply", "(III)V"⟩, Cond.instanceMethod ⟨"WholeDesk", "multiply", "(III)V"⟩, Cond.selects "WholeDesk" ⟨"WholeDesk", "multiply", "(III)V"⟩ ⟨"WholeDesk", "multiply", "(III)V"⟩, Cond.code ⟨"WholeDesk", "multiply", "(III)V"⟩ prog_1_method_7_code 4 none, Cond.methodLink "WholeDesk" 84 ⟨"WholeDesk$Reckoner", "product", "(LWholeDesk$Whole;LWholeDesk$Whole;)LWholeDesk$Whole;"⟩, Cond.instanceMethod ⟨"WholeDesk$Reckoner", "product", "(LWholeDesk$Whole;LWholeDesk$Whole;)LWholeDesk$Whole;"⟩, Cond.selects "WholeDesk$Reckoner" ⟨"WholeDesk$Reckoner", "product", "(LWholeDesk$Whole;LWholeDesk$Whole;)LWholeDesk$Whole;"⟩ ⟨"WholeDesk$Reckoner", "product", "(LWholeDesk$Whole;LWholeDesk$Whole;)LWholeDesk$Whole;"⟩, Cond.code ⟨"WholeDesk$Reckoner", "product", "(LWholeDesk$Whole;LWholeDesk$Whole;)LWholeDesk$Whole;"⟩ prog_3_method_3_code 3 (some (FieldType.object "WholeDesk$Whole")), Cond.methodLink "WholeDesk$Reckoner" 81 ⟨"WholeDesk$Whole", "becomeProduct", "(LWholeDesk$Whole;LWholeDesk$Whole;)V"⟩, Cond.instanceMethod ⟨"WholeDesk$Whole", "becomeProduct", "(LWholeDesk$Whole;LWholeDesk$Whole;)V"⟩, Cond.selects "WholeDesk$Whole" ⟨"WholeDesk$Whole", "becomeProduct", "(LWholeDesk$Whole;LWholeDesk$Whole;)V"⟩ ⟨"WholeDesk$Whole", "becomeProduct", "(LWholeDesk$Whole;LWholeDesk$Whole;)V"⟩, Cond.code ⟨"WholeDesk$Whole", "becomeProduct", "(LWholeDesk$Whole;LWholeDesk$Whole;)V"⟩ prog_4_method_21_code 13 none]
def ck_20 : List Cond := [Cond.methodLink "WholeDeskLaw" 113 ⟨"WholeDeskLaw", "divide", "(LWholeDesk;IIII)I"⟩, Cond.static ⟨"WholeDeskLaw", "divide", "(LWholeDesk;IIII)I"⟩, Cond.codeWith ⟨"WholeDeskLaw", "divide", "(LWholeDesk;IIII)I"⟩ method_8_code 6 (some .int) [(0, 9, 12, 13), (0, 9, 16, 21)], Cond.methodLink "WholeDeskLaw" 35 ⟨"WholeDesk", "divide", "(IIII)V"⟩, Cond.instanceMethod ⟨"WholeDesk", "divide", "(IIII)V"⟩, Cond.selects "WholeDesk" ⟨"WholeDesk", "divide", "(IIII)V"⟩ ⟨"WholeDesk", "divide", "(IIII)V"⟩, Cond.code ⟨"WholeDesk", "divide", "(IIII)V"⟩ prog_1_method_8_code 5 none, Cond.stringRef "WholeDesk" 91 "the divisor is 0", Cond.methodLink "WholeDesk" 94 ⟨"WholeDesk$Reckoner", "separate", "(LWholeDesk$Whole;LWholeDesk$Whole;)V"⟩, Cond.instanceMethod ⟨"WholeDesk$Reckoner", "separate", "(LWholeDesk$Whole;LWholeDesk$Whole;)V"⟩, Cond.selects "WholeDesk$Reckoner" ⟨"WholeDesk$Reckoner", "separate", "(LWholeDesk$Whole;LWholeDesk$Whole;)V"⟩ ⟨"WholeDesk$Reckoner", "separate", "(LWholeDesk$Whole;LWholeDesk$Whole;)V"⟩, Cond.code ⟨"WholeDesk$Reckoner", "separate", "(LWholeDesk$Whole;LWholeDesk$Whole;)V"⟩ prog_3_method_4_code 3 none, Cond.methodLink "WholeDesk$Reckoner" 85 ⟨"WholeDesk$Whole", "divideOut", "(LWholeDesk$Whole;LWholeDesk$Whole;)V"⟩, Cond.instanceMethod ⟨"WholeDesk$Whole", "divideOut", "(LWholeDesk$Whole;LWholeDesk$Whole;)V"⟩, Cond.selects "WholeDesk$Whole" ⟨"WholeDesk$Whole", "divideOut", "(LWholeDesk$Whole;LWholeDesk$Whole;)V"⟩ ⟨"WholeDesk$Whole", "divideOut", "(LWholeDesk$Whole;LWholeDesk$Whole;)V"⟩, Cond.code ⟨"WholeDesk$Whole", "divideOut", "(LWholeDesk$Whole;LWholeDesk$Whole;)V"⟩ prog_4_method_24_code 12 none, Cond.methodLink "WholeDesk$Whole" 75 ⟨"WholeDesk$Whole", "limbShifted", "(II)J"⟩, Cond.instanceMethod ⟨"WholeDesk$Whole", "limbShifted", "(II)J"⟩, Cond.selects "WholeDesk$Whole" ⟨"WholeDesk$Whole", "limbShifted", "(II)J"⟩ ⟨"WholeDesk$Whole", "limbShifted", "(II)J"⟩, Cond.code ⟨"WholeDesk$Whole", "limbShifted", "(II)J"⟩ prog_4_method_8_code 7 (some .long)]
def ck_21 : List Cond := [Cond.methodLink "WholeDesk$Whole" 79 ⟨"WholeDesk$Whole", "guess", "(IIJJ)J"⟩, Cond.privateMethod ⟨"WholeDesk$Whole", "guess", "(IIJJ)J"⟩, Cond.instanceMethod ⟨"WholeDesk$Whole", "guess", "(IIJJ)J"⟩, Cond.code ⟨"WholeDesk$Whole", "guess", "(IIJJ)J"⟩ prog_4_method_25_code 16 (some .long), Cond.methodLink "WholeDesk$Whole" 71 ⟨"WholeDesk$Whole", "mix", "(LWholeDesk$Whole;JI)J"⟩, Cond.methodLink "WholeDeskLaw" 117 ⟨"WholeDeskLaw", "modulo", "(LWholeDesk;III)I"⟩, Cond.static ⟨"WholeDeskLaw", "modulo", "(LWholeDesk;III)I"⟩, Cond.codeWith ⟨"WholeDeskLaw", "modulo", "(LWholeDesk;III)I"⟩ method_9_code 5 (some .int) [(0, 7, 10, 13), (0, 7, 14, 21)], Cond.methodLink "WholeDeskLaw" 39 ⟨"WholeDesk", "modulo", "(III)V"⟩, Cond.instanceMethod ⟨"WholeDesk", "modulo", "(III)V"⟩, Cond.selects "WholeDesk" ⟨"WholeDesk", "modulo", "(III)V"⟩ ⟨"WholeDesk", "modulo", "(III)V"⟩, Cond.code ⟨"WholeDesk", "modulo", "(III)V"⟩ prog_1_method_9_code 4 none, Cond.methodLink "WholeDesk" 105 ⟨"WholeDesk", "testModulus", "(LWholeDesk$Whole;)V"⟩, Cond.static ⟨"WholeDesk", "testModulus", "(LWholeDesk$Whole;)V"⟩, Cond.code ⟨"WholeDesk", "testModulus", "(LWholeDesk$Whole;)V"⟩ prog_1_method_24_code 1 none, Cond.methodLink "WholeDesk" 179 ⟨"WholeDesk$Whole", "sign", "()I"⟩, Cond.instanceMethod ⟨"WholeDesk$Whole", "sign", "()I"⟩, Cond.selects "WholeDesk$Whole" ⟨"WholeDesk$Whole", "sign", "()I"⟩ ⟨"WholeDesk$Whole", "sign", "()I"⟩, Cond.code ⟨"WholeDesk$Whole", "sign", "()I"⟩ prog_4_method_11_code 1 (some .int), Cond.stringRef "WholeDesk" 205 "the modulus is not above 0"]
def ck_22 : List Cond := [Cond.methodLink "WholeDesk" 109 ⟨"WholeDesk$Reckoner", "residue", "(LWholeDesk$Whole;LWholeDesk$Whole;)LWholeDesk$Whole;"⟩, Cond.instanceMethod ⟨"WholeDesk$Reckoner", "residue", "(LWholeDesk$Whole;LWholeDesk$Whole;)LWholeDesk$Whole;"⟩, Cond.selects "WholeDesk$Reckoner" ⟨"WholeDesk$Reckoner", "residue", "(LWholeDesk$Whole;LWholeDesk$Whole;)LWholeDesk$Whole;"⟩ ⟨"WholeDesk$Reckoner", "residue", "(LWholeDesk$Whole;LWholeDesk$Whole;)LWholeDesk$Whole;"⟩, Cond.code ⟨"WholeDesk$Reckoner", "residue", "(LWholeDesk$Whole;LWholeDesk$Whole;)LWholeDesk$Whole;"⟩ prog_3_method_5_code 3 (some (FieldType.object "WholeDesk$Whole")), Cond.methodLink "WholeDeskLaw" 120 ⟨"WholeDeskLaw", "power", "(LWholeDesk;III)I"⟩, Cond.static ⟨"WholeDeskLaw", "power", "(LWholeDesk;III)I"⟩, Cond.codeWith ⟨"WholeDeskLaw", "power", "(LWholeDesk;III)I"⟩ method_10_code 5 (some .int) [(0, 7, 10, 13), (0, 7, 14, 21)], Cond.methodLink "WholeDeskLaw" 42 ⟨"WholeDesk", "power", "(III)V"⟩, Cond.instanceMethod ⟨"WholeDesk", "power", "(III)V"⟩, Cond.selects "WholeDesk" ⟨"WholeDesk", "power", "(III)V"⟩ ⟨"WholeDesk", "power", "(III)V"⟩, Cond.code ⟨"WholeDesk", "power", "(III)V"⟩ prog_1_method_10_code 5 none, Cond.stringRef "WholeDesk" 112 "the exponent is below 0", Cond.constantLong "WholeDesk" 118 2048, Cond.stringRef "WholeDesk" 120 "the power is too large", Cond.methodLink "WholeDesk" 122 ⟨"WholeDesk$Reckoner", "raised", "(LWholeDesk$Whole;I)LWholeDesk$Whole;"⟩, Cond.instanceMethod ⟨"WholeDesk$Reckoner", "raised", "(LWholeDesk$Whole;I)LWholeDesk$Whole;"⟩, Cond.selects "WholeDesk$Reckoner" ⟨"WholeDesk$Reckoner", "raised", "(LWholeDesk$Whole;I)LWholeDesk$Whole;"⟩ ⟨"WholeDesk$Reckoner", "raised", "(LWholeDesk$Whole;I)LWholeDesk$Whole;"⟩, Cond.code ⟨"WholeDesk$Reckoner", "raised", "(LWholeDesk$Whole;I)LWholeDesk$Whole;"⟩ prog_3_method_6_code 4 (some (FieldType.object "WholeDesk$Whole")), Cond.methodLink "WholeDesk$Reckoner" 88 ⟨"WholeDesk$Whole", "become", "(J)V"⟩, Cond.methodLink "WholeDesk$Reckoner" 92 ⟨"WholeDesk$Reckoner", "times", "(LWholeDesk$Whole;)V"⟩]
def ck_23 : List Cond := [Cond.privateMethod ⟨"WholeDesk$Reckoner", "times", "(LWholeDesk$Whole;)V"⟩, Cond.instanceMethod ⟨"WholeDesk$Reckoner", "times", "(LWholeDesk$Whole;)V"⟩, Cond.code ⟨"WholeDesk$Reckoner", "times", "(LWholeDesk$Whole;)V"⟩ prog_3_method_7_code 3 none, Cond.methodLink "WholeDeskLaw" 123 ⟨"WholeDeskLaw", "root", "(LWholeDesk;III)I"⟩, Cond.static ⟨"WholeDeskLaw", "root", "(LWholeDesk;III)I"⟩, Cond.codeWith ⟨"WholeDeskLaw", "root", "(LWholeDesk;III)I"⟩ method_11_code 5 (some .int) [(0, 7, 10, 13), (0, 7, 14, 21)], Cond.methodLink "WholeDeskLaw" 45 ⟨"WholeDesk", "root", "(III)V"⟩, Cond.instanceMethod ⟨"WholeDesk", "root", "(III)V"⟩, Cond.selects "WholeDesk" ⟨"WholeDesk", "root", "(III)V"⟩ ⟨"WholeDesk", "root", "(III)V"⟩, Cond.code ⟨"WholeDesk", "root", "(III)V"⟩ prog_1_method_11_code 4 none, Cond.stringRef "WholeDesk" 126 "the root is not 1 to 64", Cond.stringRef "WholeDesk" 132 "the number is below 0", Cond.methodLink "WholeDesk" 134 ⟨"WholeDesk$Reckoner", "rooted", "(LWholeDesk$Whole;I)LWholeDesk$Whole;"⟩, Cond.instanceMethod ⟨"WholeDesk$Reckoner", "rooted", "(LWholeDesk$Whole;I)LWholeDesk$Whole;"⟩, Cond.selects "WholeDesk$Reckoner" ⟨"WholeDesk$Reckoner", "rooted", "(LWholeDesk$Whole;I)LWholeDesk$Whole;"⟩ ⟨"WholeDesk$Reckoner", "rooted", "(LWholeDesk$Whole;I)LWholeDesk$Whole;"⟩, Cond.code ⟨"WholeDesk$Reckoner", "rooted", "(LWholeDesk$Whole;I)LWholeDesk$Whole;"⟩ prog_3_method_8_code 7 (some (FieldType.object "WholeDesk$Whole")), Cond.methodLink "WholeDesk$Reckoner" 95 ⟨"WholeDesk$Whole", "bits", "()I"⟩, Cond.methodLink "WholeDesk$Reckoner" 99 ⟨"WholeDesk$Whole", "becomePowerOfTwo", "(I)V"⟩, Cond.instanceMethod ⟨"WholeDesk$Whole", "becomePowerOfTwo", "(I)V"⟩, Cond.selects "WholeDesk$Whole" ⟨"WholeDesk$Whole", "becomePowerOfTwo", "(I)V"⟩ ⟨"WholeDesk$Whole", "becomePowerOfTwo", "(I)V"⟩]
def ck_24 : List Cond := [Cond.code ⟨"WholeDesk$Whole", "becomePowerOfTwo", "(I)V"⟩ prog_4_method_3_code 3 none, Cond.methodLink "WholeDesk$Reckoner" 102 ⟨"WholeDesk$Reckoner", "improve", "(LWholeDesk$Whole;ILWholeDesk$Whole;LWholeDesk$Whole;)V"⟩, Cond.privateMethod ⟨"WholeDesk$Reckoner", "improve", "(LWholeDesk$Whole;ILWholeDesk$Whole;LWholeDesk$Whole;)V"⟩, Cond.instanceMethod ⟨"WholeDesk$Reckoner", "improve", "(LWholeDesk$Whole;ILWholeDesk$Whole;LWholeDesk$Whole;)V"⟩, Cond.code ⟨"WholeDesk$Reckoner", "improve", "(LWholeDesk$Whole;ILWholeDesk$Whole;LWholeDesk$Whole;)V"⟩ prog_3_method_9_code 5 none, Cond.methodLink "WholeDesk$Reckoner" 106 ⟨"WholeDesk$Reckoner", "raised", "(LWholeDesk$Whole;I)LWholeDesk$Whole;"⟩, Cond.methodLink "WholeDesk$Reckoner" 110 ⟨"WholeDesk$Whole", "shrink", "(J)J"⟩, Cond.instanceMethod ⟨"WholeDesk$Whole", "shrink", "(J)J"⟩, Cond.selects "WholeDesk$Whole" ⟨"WholeDesk$Whole", "shrink", "(J)J"⟩ ⟨"WholeDesk$Whole", "shrink", "(J)J"⟩, Cond.code ⟨"WholeDesk$Whole", "shrink", "(J)J"⟩ prog_4_method_27_code 8 (some .long), Cond.methodLink "WholeDeskLaw" 126 ⟨"WholeDeskLaw", "common", "(LWholeDesk;III)I"⟩, Cond.static ⟨"WholeDeskLaw", "common", "(LWholeDesk;III)I"⟩, Cond.codeWith ⟨"WholeDeskLaw", "common", "(LWholeDesk;III)I"⟩ method_12_code 5 (some .int) [(0, 7, 10, 13)], Cond.methodLink "WholeDeskLaw" 48 ⟨"WholeDesk", "common", "(III)V"⟩, Cond.instanceMethod ⟨"WholeDesk", "common", "(III)V"⟩, Cond.selects "WholeDesk" ⟨"WholeDesk", "common", "(III)V"⟩ ⟨"WholeDesk", "common", "(III)V"⟩, Cond.code ⟨"WholeDesk", "common", "(III)V"⟩ prog_1_method_12_code 4 none, Cond.methodLink "WholeDesk" 137 ⟨"WholeDesk$Reckoner", "shared", "(LWholeDesk$Whole;LWholeDesk$Whole;)LWholeDesk$Whole;"⟩, Cond.instanceMethod ⟨"WholeDesk$Reckoner", "shared", "(LWholeDesk$Whole;LWholeDesk$Whole;)LWholeDesk$Whole;"⟩, Cond.selects "WholeDesk$Reckoner" ⟨"WholeDesk$Reckoner", "shared", "(LWholeDesk$Whole;LWholeDesk$Whole;)LWholeDesk$Whole;"⟩ ⟨"WholeDesk$Reckoner", "shared", "(LWholeDesk$Whole;LWholeDesk$Whole;)LWholeDesk$Whole;"⟩]
def ck_25 : List Cond := [Cond.code ⟨"WholeDesk$Reckoner", "shared", "(LWholeDesk$Whole;LWholeDesk$Whole;)LWholeDesk$Whole;"⟩ prog_3_method_10_code 7 (some (FieldType.object "WholeDesk$Whole")), Cond.methodLink "WholeDeskLaw" 129 ⟨"WholeDeskLaw", "inverse", "(LWholeDesk;III)I"⟩, Cond.static ⟨"WholeDeskLaw", "inverse", "(LWholeDesk;III)I"⟩, Cond.codeWith ⟨"WholeDeskLaw", "inverse", "(LWholeDesk;III)I"⟩ method_13_code 5 (some .int) [(0, 7, 10, 13), (0, 7, 14, 21)], Cond.methodLink "WholeDeskLaw" 51 ⟨"WholeDesk", "inverse", "(III)V"⟩, Cond.instanceMethod ⟨"WholeDesk", "inverse", "(III)V"⟩, Cond.selects "WholeDesk" ⟨"WholeDesk", "inverse", "(III)V"⟩ ⟨"WholeDesk", "inverse", "(III)V"⟩, Cond.code ⟨"WholeDesk", "inverse", "(III)V"⟩ prog_1_method_13_code 4 none, Cond.methodLink "WholeDesk" 143 ⟨"WholeDesk$Reckoner", "inverted", "(LWholeDesk$Whole;LWholeDesk$Whole;)LWholeDesk$Whole;"⟩, Cond.instanceMethod ⟨"WholeDesk$Reckoner", "inverted", "(LWholeDesk$Whole;LWholeDesk$Whole;)LWholeDesk$Whole;"⟩, Cond.selects "WholeDesk$Reckoner" ⟨"WholeDesk$Reckoner", "inverted", "(LWholeDesk$Whole;LWholeDesk$Whole;)LWholeDesk$Whole;"⟩ ⟨"WholeDesk$Reckoner", "inverted", "(LWholeDesk$Whole;LWholeDesk$Whole;)LWholeDesk$Whole;"⟩, Cond.code ⟨"WholeDesk$Reckoner", "inverted", "(LWholeDesk$Whole;LWholeDesk$Whole;)LWholeDesk$Whole;"⟩ prog_3_method_11_code 11 (some (FieldType.object "WholeDesk$Whole")), Cond.methodLink "WholeDesk$Reckoner" 114 ⟨"WholeDesk$Reckoner", "residue", "(LWholeDesk$Whole;LWholeDesk$Whole;)LWholeDesk$Whole;"⟩, Cond.methodLink "WholeDesk$Reckoner" 118 ⟨"WholeDesk$Whole", "gather", "(LWholeDesk$Whole;LWholeDesk$Whole;)V"⟩, Cond.instanceMethod ⟨"WholeDesk$Whole", "gather", "(LWholeDesk$Whole;LWholeDesk$Whole;)V"⟩, Cond.selects "WholeDesk$Whole" ⟨"WholeDesk$Whole", "gather", "(LWholeDesk$Whole;LWholeDesk$Whole;)V"⟩ ⟨"WholeDesk$Whole", "gather", "(LWholeDesk$Whole;LWholeDesk$Whole;)V"⟩, Cond.code ⟨"WholeDesk$Whole", "gather", "(LWholeDesk$Whole;LWholeDesk$Whole;)V"⟩ prog_4_method_22_code 4 none, Cond.methodLink "WholeDesk$Reckoner" 121 ⟨"WholeDesk$Whole", "isOne", "()Z"⟩, Cond.instanceMethod ⟨"WholeDesk$Whole", "isOne", "()Z"⟩, Cond.selects "WholeDesk$Whole" ⟨"WholeDesk$Whole", "isOne", "()Z"⟩ ⟨"WholeDesk$Whole", "isOne", "()Z"⟩]
def ck_26 : List Cond := [Cond.code ⟨"WholeDesk$Whole", "isOne", "()Z"⟩ prog_4_method_14_code 1 (some .boolean), Cond.classLink "WholeDesk$Reckoner" 125 "java/lang/ArithmeticException", Cond.stringRef "WholeDesk$Reckoner" 127 "there is no inverse", Cond.methodLink "WholeDesk$Reckoner" 129 ⟨"java/lang/ArithmeticException", "<init>", "(Ljava/lang/String;)V"⟩, Cond.methodLink "WholeDeskLaw" 132 ⟨"WholeDeskLaw", "powerModulo", "(LWholeDesk;IIII)I"⟩, Cond.static ⟨"WholeDeskLaw", "powerModulo", "(LWholeDesk;IIII)I"⟩, Cond.codeWith ⟨"WholeDeskLaw", "powerModulo", "(LWholeDesk;IIII)I"⟩ method_14_code 6 (some .int) [(0, 9, 12, 13), (0, 9, 16, 21)], Cond.methodLink "WholeDeskLaw" 54 ⟨"WholeDesk", "powerModulo", "(IIII)V"⟩, Cond.instanceMethod ⟨"WholeDesk", "powerModulo", "(IIII)V"⟩, Cond.selects "WholeDesk" ⟨"WholeDesk", "powerModulo", "(IIII)V"⟩ ⟨"WholeDesk", "powerModulo", "(IIII)V"⟩, Cond.code ⟨"WholeDesk", "powerModulo", "(IIII)V"⟩ prog_1_method_14_code 5 none, Cond.methodLink "WholeDesk" 146 ⟨"WholeDesk$Reckoner", "raisedModulo", "(LWholeDesk$Whole;LWholeDesk$Whole;LWholeDesk$Whole;)LWholeDesk$Whole;"⟩, Cond.instanceMethod ⟨"WholeDesk$Reckoner", "raisedModulo", "(LWholeDesk$Whole;LWholeDesk$Whole;LWholeDesk$Whole;)LWholeDesk$Whole;"⟩, Cond.selects "WholeDesk$Reckoner" ⟨"WholeDesk$Reckoner", "raisedModulo", "(LWholeDesk$Whole;LWholeDesk$Whole;LWholeDesk$Whole;)LWholeDesk$Whole;"⟩ ⟨"WholeDesk$Reckoner", "raisedModulo", "(LWholeDesk$Whole;LWholeDesk$Whole;LWholeDesk$Whole;)LWholeDesk$Whole;"⟩, Cond.code ⟨"WholeDesk$Reckoner", "raisedModulo", "(LWholeDesk$Whole;LWholeDesk$Whole;LWholeDesk$Whole;)LWholeDesk$Whole;"⟩ prog_3_method_12_code 7 (some (FieldType.object "WholeDesk$Whole")), Cond.methodLink "WholeDesk$Reckoner" 132 ⟨"WholeDesk$Reckoner", "inverted", "(LWholeDesk$Whole;LWholeDesk$Whole;)LWholeDesk$Whole;"⟩, Cond.methodLink "WholeDesk$Reckoner" 135 ⟨"WholeDesk$Reckoner", "fillPowers", "(LWholeDesk$Whole;LWholeDesk$Whole;)V"⟩, Cond.privateMethod ⟨"WholeDesk$Reckoner", "fillPowers", "(LWholeDesk$Whole;LWholeDesk$Whole;)V"⟩, Cond.instanceMethod ⟨"WholeDesk$Reckoner", "fillPowers", "(LWholeDesk$Whole;LWholeDesk$Whole;)V"⟩, Cond.code ⟨"WholeDesk$Reckoner", "fillPowers", "(LWholeDesk$Whole;LWholeDesk$Whole;)V"⟩ prog_3_method_13_code 4 none]
def ck_27 : List Cond := [Cond.methodLink "WholeDesk$Reckoner" 138 ⟨"WholeDesk$Reckoner", "timesModulo", "(LWholeDesk$Whole;LWholeDesk$Whole;)V"⟩, Cond.privateMethod ⟨"WholeDesk$Reckoner", "timesModulo", "(LWholeDesk$Whole;LWholeDesk$Whole;)V"⟩, Cond.instanceMethod ⟨"WholeDesk$Reckoner", "timesModulo", "(LWholeDesk$Whole;LWholeDesk$Whole;)V"⟩, Cond.code ⟨"WholeDesk$Reckoner", "timesModulo", "(LWholeDesk$Whole;LWholeDesk$Whole;)V"⟩ prog_3_method_14_code 3 none, Cond.methodLink "WholeDesk$Reckoner" 141 ⟨"WholeDesk$Whole", "limb", "(I)J"⟩, Cond.methodLink "WholeDeskLaw" 135 ⟨"WholeDeskLaw", "combine", "(LWholeDesk;IIII)I"⟩, Cond.static ⟨"WholeDeskLaw", "combine", "(LWholeDesk;IIII)I"⟩, Cond.codeWith ⟨"WholeDeskLaw", "combine", "(LWholeDesk;IIII)I"⟩ method_15_code 6 (some .int) [(0, 9, 12, 13), (0, 9, 16, 21)], Cond.methodLink "WholeDeskLaw" 57 ⟨"WholeDesk", "combine", "(IIII)V"⟩, Cond.instanceMethod ⟨"WholeDesk", "combine", "(IIII)V"⟩, Cond.selects "WholeDesk" ⟨"WholeDesk", "combine", "(IIII)V"⟩ ⟨"WholeDesk", "combine", "(IIII)V"⟩, Cond.code ⟨"WholeDesk", "combine", "(IIII)V"⟩ prog_1_method_15_code 5 none, Cond.stringRef "WholeDesk" 150 "the way to combine is not 0 to 3", Cond.methodLink "WholeDesk" 152 ⟨"WholeDesk$Reckoner", "combined", "(LWholeDesk$Whole;LWholeDesk$Whole;I)LWholeDesk$Whole;"⟩, Cond.instanceMethod ⟨"WholeDesk$Reckoner", "combined", "(LWholeDesk$Whole;LWholeDesk$Whole;I)LWholeDesk$Whole;"⟩, Cond.selects "WholeDesk$Reckoner" ⟨"WholeDesk$Reckoner", "combined", "(LWholeDesk$Whole;LWholeDesk$Whole;I)LWholeDesk$Whole;"⟩ ⟨"WholeDesk$Reckoner", "combined", "(LWholeDesk$Whole;LWholeDesk$Whole;I)LWholeDesk$Whole;"⟩, Cond.code ⟨"WholeDesk$Reckoner", "combined", "(LWholeDesk$Whole;LWholeDesk$Whole;I)LWholeDesk$Whole;"⟩ prog_3_method_15_code 6 (some (FieldType.object "WholeDesk$Whole")), Cond.methodLink "WholeDesk$Reckoner" 145 ⟨"WholeDesk$Reckoner", "spread", "(LWholeDesk$Whole;ILWholeDesk$Whole;)V"⟩, Cond.static ⟨"WholeDesk$Reckoner", "spread", "(LWholeDesk$Whole;ILWholeDesk$Whole;)V"⟩, Cond.code ⟨"WholeDesk$Reckoner", "spread", "(LWholeDesk$Whole;ILWholeDesk$Whole;)V"⟩ prog_3_method_16_code 3 none]
def ck_28 : List Cond := [Cond.methodLink "WholeDesk$Reckoner" 157 ⟨"WholeDesk$Whole", "turn", "()V"⟩, Cond.instanceMethod ⟨"WholeDesk$Whole", "turn", "()V"⟩, Cond.selects "WholeDesk$Whole" ⟨"WholeDesk$Whole", "turn", "()V"⟩ ⟨"WholeDesk$Whole", "turn", "()V"⟩, Cond.code ⟨"WholeDesk$Whole", "turn", "()V"⟩ prog_4_method_28_code 6 none, Cond.methodLink "WholeDesk$Reckoner" 153 ⟨"WholeDesk$Reckoner", "joined", "(JJI)J"⟩, Cond.static ⟨"WholeDesk$Reckoner", "joined", "(JJI)J"⟩, Cond.code ⟨"WholeDesk$Reckoner", "joined", "(JJI)J"⟩ prog_3_method_17_code 5 (some .long), Cond.methodLink "WholeDeskLaw" 138 ⟨"WholeDeskLaw", "shift", "(LWholeDesk;III)I"⟩, Cond.static ⟨"WholeDeskLaw", "shift", "(LWholeDesk;III)I"⟩, Cond.codeWith ⟨"WholeDeskLaw", "shift", "(LWholeDesk;III)I"⟩ method_16_code 5 (some .int) [(0, 7, 10, 13), (0, 7, 14, 21)], Cond.methodLink "WholeDeskLaw" 60 ⟨"WholeDesk", "shift", "(III)V"⟩, Cond.instanceMethod ⟨"WholeDesk", "shift", "(III)V"⟩, Cond.selects "WholeDesk" ⟨"WholeDesk", "shift", "(III)V"⟩ ⟨"WholeDesk", "shift", "(III)V"⟩, Cond.code ⟨"WholeDesk", "shift", "(III)V"⟩ prog_1_method_16_code 5 none, Cond.stringRef "WholeDesk" 156 "the number grows too large", Cond.methodLink "WholeDesk" 158 ⟨"WholeDesk$Reckoner", "shiftedUp", "(LWholeDesk$Whole;I)LWholeDesk$Whole;"⟩, Cond.instanceMethod ⟨"WholeDesk$Reckoner", "shiftedUp", "(LWholeDesk$Whole;I)LWholeDesk$Whole;"⟩, Cond.selects "WholeDesk$Reckoner" ⟨"WholeDesk$Reckoner", "shiftedUp", "(LWholeDesk$Whole;I)LWholeDesk$Whole;"⟩ ⟨"WholeDesk$Reckoner", "shiftedUp", "(LWholeDesk$Whole;I)LWholeDesk$Whole;"⟩, Cond.code ⟨"WholeDesk$Reckoner", "shiftedUp", "(LWholeDesk$Whole;I)LWholeDesk$Whole;"⟩ prog_3_method_18_code 5 (some (FieldType.object "WholeDesk$Whole")), Cond.methodLink "WholeDesk$Reckoner" 160 ⟨"WholeDesk$Whole", "limbShifted", "(II)J"⟩]
def ck_29 : List Cond := [Cond.methodLink "WholeDesk" 161 ⟨"WholeDesk$Reckoner", "shiftedDown", "(LWholeDesk$Whole;J)LWholeDesk$Whole;"⟩, Cond.instanceMethod ⟨"WholeDesk$Reckoner", "shiftedDown", "(LWholeDesk$Whole;J)LWholeDesk$Whole;"⟩, Cond.selects "WholeDesk$Reckoner" ⟨"WholeDesk$Reckoner", "shiftedDown", "(LWholeDesk$Whole;J)LWholeDesk$Whole;"⟩ ⟨"WholeDesk$Reckoner", "shiftedDown", "(LWholeDesk$Whole;J)LWholeDesk$Whole;"⟩, Cond.code ⟨"WholeDesk$Reckoner", "shiftedDown", "(LWholeDesk$Whole;J)LWholeDesk$Whole;"⟩ prog_3_method_19_code 7 (some (FieldType.object "WholeDesk$Whole")), Cond.constantLong "WholeDesk$Reckoner" 164 2048, Cond.methodLink "WholeDesk$Reckoner" 166 ⟨"java/lang/Math", "min", "(JJ)J"⟩, Cond.static ⟨"java/lang/Math", "min", "(JJ)J"⟩, Cond.code ⟨"java/lang/Math", "min", "(JJ)J"⟩ prog_13_method_70_code 4 (some .long), Cond.methodLink "WholeDesk$Reckoner" 170 ⟨"WholeDesk$Whole", "lowestOne", "()I"⟩, Cond.instanceMethod ⟨"WholeDesk$Whole", "lowestOne", "()I"⟩, Cond.selects "WholeDesk$Whole" ⟨"WholeDesk$Whole", "lowestOne", "()I"⟩ ⟨"WholeDesk$Whole", "lowestOne", "()I"⟩, Cond.code ⟨"WholeDesk$Whole", "lowestOne", "()I"⟩ prog_4_method_16_code 2 (some .int), Cond.methodLink "WholeDesk$Whole" 59 ⟨"java/lang/Long", "bitCount", "(J)I"⟩, Cond.static ⟨"java/lang/Long", "bitCount", "(J)I"⟩, Cond.code ⟨"java/lang/Long", "bitCount", "(J)I"⟩ prog_12_method_50_code 2 (some .int), Cond.constantLong "java/lang/Long" 314 6148914691236517205, Cond.constantLong "java/lang/Long" 316 3689348814741910323, Cond.constantLong "java/lang/Long" 318 1085102592571150095, Cond.methodLink "WholeDesk$Reckoner" 173 ⟨"WholeDesk$Whole", "scale", "(JJ)V"⟩, Cond.methodLink "WholeDeskLaw" 141 ⟨"WholeDeskLaw", "bit", "(LWholeDesk;II[J)I"⟩]
def ck_30 : List Cond := [Cond.static ⟨"WholeDeskLaw", "bit", "(LWholeDesk;II[J)I"⟩, Cond.codeWith ⟨"WholeDeskLaw", "bit", "(LWholeDesk;II[J)I"⟩ method_17_code 5 (some .int) [(0, 10, 13, 13)], Cond.methodLink "WholeDeskLaw" 63 ⟨"WholeDesk", "bit", "(II)I"⟩, Cond.instanceMethod ⟨"WholeDesk", "bit", "(II)I"⟩, Cond.selects "WholeDesk" ⟨"WholeDesk", "bit", "(II)I"⟩ ⟨"WholeDesk", "bit", "(II)I"⟩, Cond.code ⟨"WholeDesk", "bit", "(II)I"⟩ prog_1_method_17_code 3 (some .int), Cond.stringRef "WholeDesk" 165 "the place is below 0", Cond.methodLink "WholeDesk" 167 ⟨"WholeDesk$Whole", "bitAt", "(I)I"⟩, Cond.instanceMethod ⟨"WholeDesk$Whole", "bitAt", "(I)I"⟩, Cond.selects "WholeDesk$Whole" ⟨"WholeDesk$Whole", "bitAt", "(I)I"⟩ ⟨"WholeDesk$Whole", "bitAt", "(I)I"⟩, Cond.code ⟨"WholeDesk$Whole", "bitAt", "(I)I"⟩ prog_4_method_17_code 3 (some .int), Cond.methodLink "WholeDesk$Whole" 64 ⟨"WholeDesk$Whole", "lowestOne", "()I"⟩, Cond.methodLink "WholeDeskLaw" 145 ⟨"WholeDeskLaw", "compare", "(LWholeDesk;II[J)I"⟩, Cond.static ⟨"WholeDeskLaw", "compare", "(LWholeDesk;II[J)I"⟩, Cond.codeWith ⟨"WholeDeskLaw", "compare", "(LWholeDesk;II[J)I"⟩ method_18_code 5 (some .int) [(0, 10, 13, 13)], Cond.methodLink "WholeDeskLaw" 67 ⟨"WholeDesk", "compare", "(II)I"⟩, Cond.instanceMethod ⟨"WholeDesk", "compare", "(II)I"⟩, Cond.selects "WholeDesk" ⟨"WholeDesk", "compare", "(II)I"⟩ ⟨"WholeDesk", "compare", "(II)I"⟩, Cond.code ⟨"WholeDesk", "compare", "(II)I"⟩ prog_1_method_18_code 3 (some .int), Cond.methodLink "WholeDesk" 171 ⟨"WholeDesk$Whole", "against", "(LWholeDesk$Whole;)I"⟩]
def ck_31 : List Cond := [Cond.instanceMethod ⟨"WholeDesk$Whole", "against", "(LWholeDesk$Whole;)I"⟩, Cond.selects "WholeDesk$Whole" ⟨"WholeDesk$Whole", "against", "(LWholeDesk$Whole;)I"⟩ ⟨"WholeDesk$Whole", "against", "(LWholeDesk$Whole;)I"⟩, Cond.code ⟨"WholeDesk$Whole", "against", "(LWholeDesk$Whole;)I"⟩ prog_4_method_13_code 2 (some .int), Cond.methodLink "WholeDesk$Whole" 55 ⟨"WholeDesk$Whole", "sizeAgainst", "(LWholeDesk$Whole;)I"⟩, Cond.methodLink "WholeDeskLaw" 148 ⟨"WholeDeskLaw", "told", "(LWholeDesk;II[J)I"⟩, Cond.static ⟨"WholeDeskLaw", "told", "(LWholeDesk;II[J)I"⟩, Cond.codeWith ⟨"WholeDeskLaw", "told", "(LWholeDesk;II[J)I"⟩ method_19_code 5 (some .int) [(0, 9, 12, 13)], Cond.methodLink "WholeDeskLaw" 70 ⟨"WholeDesk", "told", "(II)J"⟩, Cond.instanceMethod ⟨"WholeDesk", "told", "(II)J"⟩, Cond.selects "WholeDesk" ⟨"WholeDesk", "told", "(II)J"⟩ ⟨"WholeDesk", "told", "(II)J"⟩, Cond.code ⟨"WholeDesk", "told", "(II)J"⟩ prog_1_method_19_code 4 (some .long), Cond.methodLink "WholeDesk" 175 ⟨"WholeDesk$Whole", "lowest64", "()J"⟩, Cond.instanceMethod ⟨"WholeDesk$Whole", "lowest64", "()J"⟩, Cond.selects "WholeDesk$Whole" ⟨"WholeDesk$Whole", "lowest64", "()J"⟩ ⟨"WholeDesk$Whole", "lowest64", "()J"⟩, Cond.code ⟨"WholeDesk$Whole", "lowest64", "()J"⟩ prog_4_method_15_code 3 (some .long), Cond.methodLink "WholeDesk" 182 ⟨"WholeDesk$Whole", "length", "()I"⟩, Cond.instanceMethod ⟨"WholeDesk$Whole", "length", "()I"⟩, Cond.selects "WholeDesk$Whole" ⟨"WholeDesk$Whole", "length", "()I"⟩ ⟨"WholeDesk$Whole", "length", "()I"⟩, Cond.code ⟨"WholeDesk$Whole", "length", "()I"⟩ prog_4_method_18_code 2 (some .int), Cond.methodLink "WholeDesk$Whole" 68 ⟨"WholeDesk$Whole", "bits", "()I"⟩]
def ck_32 : List Cond := [Cond.methodLink "WholeDesk" 185 ⟨"WholeDesk$Whole", "unlikeBits", "()I"⟩, Cond.instanceMethod ⟨"WholeDesk$Whole", "unlikeBits", "()I"⟩, Cond.selects "WholeDesk$Whole" ⟨"WholeDesk$Whole", "unlikeBits", "()I"⟩ ⟨"WholeDesk$Whole", "unlikeBits", "()I"⟩, Cond.code ⟨"WholeDesk$Whole", "unlikeBits", "()I"⟩ prog_4_method_19_code 3 (some .int), Cond.methodLink "WholeDesk" 188 ⟨"WholeDesk$Whole", "lowestOne", "()I"⟩, Cond.stringRef "WholeDesk" 191 "there is nothing such to tell", Cond.methodLink "WholeDeskLaw" 151 ⟨"WholeDeskLaw", "written", "(LWholeDesk;II[J)I"⟩, Cond.static ⟨"WholeDeskLaw", "written", "(LWholeDesk;II[J)I"⟩, Cond.codeWith ⟨"WholeDeskLaw", "written", "(LWholeDesk;II[J)I"⟩ method_20_code 5 (some .int) [(0, 10, 13, 13)], Cond.methodLink "WholeDeskLaw" 74 ⟨"WholeDesk", "written", "(II)I"⟩, Cond.instanceMethod ⟨"WholeDesk", "written", "(II)I"⟩, Cond.selects "WholeDesk" ⟨"WholeDesk", "written", "(II)I"⟩ ⟨"WholeDesk", "written", "(II)I"⟩, Cond.code ⟨"WholeDesk", "written", "(II)I"⟩ prog_1_method_20_code 3 (some .int), Cond.methodLink "WholeDesk" 193 ⟨"WholeDesk$Writing", "fill", "(LWholeDesk$Whole;I)I"⟩, Cond.instanceMethod ⟨"WholeDesk$Writing", "fill", "(LWholeDesk$Whole;I)I"⟩, Cond.selects "WholeDesk$Writing" ⟨"WholeDesk$Writing", "fill", "(LWholeDesk$Whole;I)I"⟩ ⟨"WholeDesk$Writing", "fill", "(LWholeDesk$Whole;I)I"⟩, Cond.code ⟨"WholeDesk$Writing", "fill", "(LWholeDesk$Whole;I)I"⟩ prog_5_method_2_code 9 (some .int), Cond.methodLink "WholeDesk$Writing" 26 ⟨"WholeDesk$Writing", "digitsInLimb", "(I)I"⟩, Cond.static ⟨"WholeDesk$Writing", "digitsInLimb", "(I)I"⟩, Cond.code ⟨"WholeDesk$Writing", "digitsInLimb", "(I)I"⟩ prog_5_method_3_code 4 (some .int)]
def ck_33 : List Cond := [Cond.constantLong "WholeDesk$Writing" 53 268435455, Cond.methodLink "WholeDesk$Writing" 30 ⟨"WholeDesk$Whole", "copy", "(LWholeDesk$Whole;)V"⟩, Cond.methodLink "WholeDesk$Writing" 37 ⟨"WholeDesk$Whole", "shrink", "(J)J"⟩, Cond.methodLink "WholeDesk$Writing" 41 ⟨"WholeDesk$Writing", "prependDigits", "(JII)V"⟩, Cond.privateMethod ⟨"WholeDesk$Writing", "prependDigits", "(JII)V"⟩, Cond.instanceMethod ⟨"WholeDesk$Writing", "prependDigits", "(JII)V"⟩, Cond.code ⟨"WholeDesk$Writing", "prependDigits", "(JII)V"⟩ prog_5_method_4_code 9 none, Cond.methodLink "WholeDesk$Writing" 49 ⟨"WholeDesk$Writing", "prepend", "(C)V"⟩, Cond.privateMethod ⟨"WholeDesk$Writing", "prepend", "(C)V"⟩, Cond.instanceMethod ⟨"WholeDesk$Writing", "prepend", "(C)V"⟩, Cond.code ⟨"WholeDesk$Writing", "prepend", "(C)V"⟩ prog_5_method_5_code 2 none, Cond.classLink "WholeDeskLaw" 78 "WholeDeskModel", Cond.instantiable "WholeDeskModel" 21, Cond.methodLink "WholeDeskLaw" 80 ⟨"WholeDeskModel", "<init>", "()V"⟩, Cond.instanceMethod ⟨"WholeDeskModel", "<init>", "()V"⟩, Cond.code ⟨"WholeDeskModel", "<init>", "()V"⟩ prog_7_method_1_code 1 none, Cond.methodLink "WholeDeskModel" 1 ⟨"java/lang/Object", "<init>", "()V"⟩, Cond.fieldLink "WholeDeskModel" 53 "WholeDeskModel" "thrown" "I", Cond.fieldLink "WholeDeskModel" 79 "WholeDeskModel" "fault" "I", Cond.fieldLink "WholeDeskModel" 7 "WholeDeskModel" "draft" "[I"]
def ck_34 : List Cond := [Cond.fieldLink "WholeDeskModel" 86 "WholeDeskModel" "length" "I", Cond.fieldLink "WholeDeskModel" 13 "WholeDeskModel" "kept" "[I", Cond.fieldLink "WholeDeskModel" 16 "WholeDeskModel" "minus" "[Z", Cond.fieldLink "WholeDeskModel" 20 "WholeDeskModel" "row" "[I", Cond.fieldLink "WholeDeskModel" 82 "WholeDeskModel" "below" "Z", Cond.fieldLink "WholeDeskModel" 23 "WholeDeskModel" "other" "[I", Cond.fieldLink "WholeDeskModel" 26 "WholeDeskModel" "product" "[I", Cond.fieldLink "WholeDeskModel" 29 "WholeDeskModel" "rest" "[I", Cond.fieldLink "WholeDeskModel" 32 "WholeDeskModel" "quotient" "[I", Cond.fieldLink "WholeDeskModel" 35 "WholeDeskModel" "one" "[I", Cond.fieldLink "WholeDeskModel" 38 "WholeDeskModel" "two" "[I", Cond.fieldLink "WholeDeskModel" 41 "WholeDeskModel" "first" "[I", Cond.fieldLink "WholeDeskModel" 44 "WholeDeskModel" "second" "[I", Cond.fieldLink "WholeDeskModel" 137 "WholeDeskModel" "firstBelow" "Z", Cond.fieldLink "WholeDeskModel" 140 "WholeDeskModel" "secondBelow" "Z", Cond.fieldLink "WholeDeskModel" 47 "WholeDeskModel" "modulus" "[I", Cond.fieldLink "WholeDeskModel" 50 "WholeDeskModel" "paper" "[I", Cond.fieldLink "WholeDeskModel" 155 "WholeDeskModel" "printed" "I", Cond.lays "WholeDeskModel" "WholeDeskModel" "thrown" "I", Cond.soleField "WholeDeskModel" "thrown"]
def ck_35 : List Cond := [Cond.lays "WholeDeskModel" "WholeDeskModel" "fault" "I", Cond.soleField "WholeDeskModel" "fault", Cond.laysFinal "WholeDeskModel" "WholeDeskModel" "draft" "[I", Cond.soleField "WholeDeskModel" "draft", Cond.lays "WholeDeskModel" "WholeDeskModel" "length" "I", Cond.soleField "WholeDeskModel" "length", Cond.laysFinal "WholeDeskModel" "WholeDeskModel" "kept" "[I", Cond.soleField "WholeDeskModel" "kept", Cond.laysFinal "WholeDeskModel" "WholeDeskModel" "minus" "[Z", Cond.soleField "WholeDeskModel" "minus", Cond.laysFinal "WholeDeskModel" "WholeDeskModel" "row" "[I", Cond.soleField "WholeDeskModel" "row", Cond.lays "WholeDeskModel" "WholeDeskModel" "below" "Z", Cond.soleField "WholeDeskModel" "below", Cond.laysFinal "WholeDeskModel" "WholeDeskModel" "other" "[I", Cond.soleField "WholeDeskModel" "other", Cond.laysFinal "WholeDeskModel" "WholeDeskModel" "product" "[I", Cond.soleField "WholeDeskModel" "product", Cond.laysFinal "WholeDeskModel" "WholeDeskModel" "rest" "[I", Cond.soleField "WholeDeskModel" "rest"]
def ck_36 : List Cond := [Cond.laysFinal "WholeDeskModel" "WholeDeskModel" "quotient" "[I", Cond.soleField "WholeDeskModel" "quotient", Cond.laysFinal "WholeDeskModel" "WholeDeskModel" "one" "[I", Cond.soleField "WholeDeskModel" "one", Cond.laysFinal "WholeDeskModel" "WholeDeskModel" "two" "[I", Cond.soleField "WholeDeskModel" "two", Cond.laysFinal "WholeDeskModel" "WholeDeskModel" "first" "[I", Cond.soleField "WholeDeskModel" "first", Cond.laysFinal "WholeDeskModel" "WholeDeskModel" "second" "[I", Cond.soleField "WholeDeskModel" "second", Cond.lays "WholeDeskModel" "WholeDeskModel" "firstBelow" "Z", Cond.soleField "WholeDeskModel" "firstBelow", Cond.lays "WholeDeskModel" "WholeDeskModel" "secondBelow" "Z", Cond.soleField "WholeDeskModel" "secondBelow", Cond.laysFinal "WholeDeskModel" "WholeDeskModel" "modulus" "[I", Cond.soleField "WholeDeskModel" "modulus", Cond.laysFinal "WholeDeskModel" "WholeDeskModel" "paper" "[I", Cond.soleField "WholeDeskModel" "paper", Cond.lays "WholeDeskModel" "WholeDeskModel" "printed" "I", Cond.soleField "WholeDeskModel" "printed"]
def ck_37 : List Cond := [Cond.superclass "WholeDeskModel" "java/lang/Object", Cond.arrayClass FieldType.int, Cond.arrayClass FieldType.boolean, Cond.methodLink "WholeDeskLaw" 89 ⟨"WholeDeskModel", "thrown", "()I"⟩, Cond.instanceMethod ⟨"WholeDeskModel", "thrown", "()I"⟩, Cond.selects "WholeDeskModel" ⟨"WholeDeskModel", "thrown", "()I"⟩ ⟨"WholeDeskModel", "thrown", "()I"⟩, Cond.code ⟨"WholeDeskModel", "thrown", "()I"⟩ prog_7_method_2_code 1 (some .int), Cond.methodLink "WholeDeskLaw" 88 ⟨"WholeDeskModel", "write", "(IJ)I"⟩, Cond.instanceMethod ⟨"WholeDeskModel", "write", "(IJ)I"⟩, Cond.selects "WholeDeskModel" ⟨"WholeDeskModel", "write", "(IJ)I"⟩ ⟨"WholeDeskModel", "write", "(IJ)I"⟩, Cond.code ⟨"WholeDeskModel", "write", "(IJ)I"⟩ prog_7_method_16_code 5 (some .int), Cond.constantLong "WholeDeskModel" 89 255, Cond.methodLink "WholeDeskLaw" 96 ⟨"WholeDeskModel", "wipe", "()I"⟩, Cond.instanceMethod ⟨"WholeDeskModel", "wipe", "()I"⟩, Cond.selects "WholeDeskModel" ⟨"WholeDeskModel", "wipe", "()I"⟩ ⟨"WholeDeskModel", "wipe", "()I"⟩, Cond.code ⟨"WholeDeskModel", "wipe", "()I"⟩ prog_7_method_17_code 2 (some .int), Cond.methodLink "WholeDeskLaw" 100 ⟨"WholeDeskModel", "read", "(II)V"⟩, Cond.instanceMethod ⟨"WholeDeskModel", "read", "(II)V"⟩, Cond.selects "WholeDeskModel" ⟨"WholeDeskModel", "read", "(II)V"⟩ ⟨"WholeDeskModel", "read", "(II)V"⟩, Cond.code ⟨"WholeDeskModel", "read", "(II)V"⟩ prog_7_method_19_code 5 none]
def ck_38 : List Cond := [Cond.methodLink "WholeDeskModel" 91 ⟨"WholeDeskModel", "no", "(I)Z"⟩, Cond.static ⟨"WholeDeskModel", "no", "(I)Z"⟩, Cond.code ⟨"WholeDeskModel", "no", "(I)Z"⟩ prog_7_method_3_code 1 (some .boolean), Cond.methodLink "WholeDeskModel" 95 ⟨"WholeDeskModel", "digit", "(I)I"⟩, Cond.static ⟨"WholeDeskModel", "digit", "(I)I"⟩, Cond.code ⟨"WholeDeskModel", "digit", "(I)I"⟩ prog_7_method_18_code 1 (some .int), Cond.methodLink "WholeDeskModel" 63 ⟨"WholeDeskModel", "clear", "([I)V"⟩, Cond.static ⟨"WholeDeskModel", "clear", "([I)V"⟩, Cond.code ⟨"WholeDeskModel", "clear", "([I)V"⟩ prog_7_method_4_code 2 none, Cond.methodLink "WholeDeskModel" 99 ⟨"WholeDeskModel", "grow", "([III)V"⟩, Cond.static ⟨"WholeDeskModel", "grow", "([III)V"⟩, Cond.code ⟨"WholeDeskModel", "grow", "([III)V"⟩ prog_7_method_11_code 7 none, Cond.methodLink "WholeDeskModel" 59 ⟨"WholeDeskModel", "size", "([I)I"⟩, Cond.static ⟨"WholeDeskModel", "size", "([I)I"⟩, Cond.code ⟨"WholeDeskModel", "size", "([I)I"⟩ prog_7_method_7_code 2 (some .int), Cond.constantLong "WholeDeskModel" 57 65535, Cond.methodLink "WholeDeskModel" 103 ⟨"WholeDeskModel", "store", "(I)V"⟩, Cond.privateMethod ⟨"WholeDeskModel", "store", "(I)V"⟩, Cond.instanceMethod ⟨"WholeDeskModel", "store", "(I)V"⟩, Cond.code ⟨"WholeDeskModel", "store", "(I)V"⟩ prog_7_method_15_code 4 none]
def ck_39 : List Cond := [Cond.methodLink "WholeDeskLaw" 104 ⟨"WholeDeskModel", "put", "(IJ)V"⟩, Cond.instanceMethod ⟨"WholeDeskModel", "put", "(IJ)V"⟩, Cond.selects "WholeDeskModel" ⟨"WholeDeskModel", "put", "(IJ)V"⟩ ⟨"WholeDeskModel", "put", "(IJ)V"⟩, Cond.code ⟨"WholeDeskModel", "put", "(IJ)V"⟩ prog_7_method_20_code 7 none, Cond.methodLink "WholeDeskLaw" 108 ⟨"WholeDeskModel", "add", "(IIIZ)V"⟩, Cond.instanceMethod ⟨"WholeDeskModel", "add", "(IIIZ)V"⟩, Cond.selects "WholeDeskModel" ⟨"WholeDeskModel", "add", "(IIIZ)V"⟩ ⟨"WholeDeskModel", "add", "(IIIZ)V"⟩, Cond.code ⟨"WholeDeskModel", "add", "(IIIZ)V"⟩ prog_7_method_22_code 5 none, Cond.methodLink "WholeDeskModel" 107 ⟨"WholeDeskModel", "take", "(I[I)V"⟩, Cond.privateMethod ⟨"WholeDeskModel", "take", "(I[I)V"⟩, Cond.instanceMethod ⟨"WholeDeskModel", "take", "(I[I)V"⟩, Cond.code ⟨"WholeDeskModel", "take", "(I[I)V"⟩ prog_7_method_6_code 4 none, Cond.methodLink "WholeDeskModel" 111 ⟨"WholeDeskModel", "sum", "([IZ[IZ)V"⟩, Cond.privateMethod ⟨"WholeDeskModel", "sum", "([IZ[IZ)V"⟩, Cond.instanceMethod ⟨"WholeDeskModel", "sum", "([IZ[IZ)V"⟩, Cond.code ⟨"WholeDeskModel", "sum", "([IZ[IZ)V"⟩ prog_7_method_21_code 5 none, Cond.methodLink "WholeDeskModel" 67 ⟨"WholeDeskModel", "copy", "([I[I)V"⟩, Cond.static ⟨"WholeDeskModel", "copy", "([I[I)V"⟩, Cond.code ⟨"WholeDeskModel", "copy", "([I[I)V"⟩ prog_7_method_5_code 3 none, Cond.methodLink "WholeDeskModel" 75 ⟨"WholeDeskModel", "join", "([I[IIJZ)V"⟩]
def ck_40 : List Cond := [Cond.static ⟨"WholeDeskModel", "join", "([I[IIJZ)V"⟩, Cond.code ⟨"WholeDeskModel", "join", "([I[IIJZ)V"⟩ prog_7_method_10_code 11 none, Cond.methodLink "WholeDeskModel" 71 ⟨"WholeDeskModel", "compareRows", "([I[I)I"⟩, Cond.static ⟨"WholeDeskModel", "compareRows", "([I[I)I"⟩, Cond.code ⟨"WholeDeskModel", "compareRows", "([I[I)I"⟩ prog_7_method_9_code 3 (some .int), Cond.methodLink "WholeDeskLaw" 112 ⟨"WholeDeskModel", "multiply", "(III)V"⟩, Cond.instanceMethod ⟨"WholeDeskModel", "multiply", "(III)V"⟩, Cond.selects "WholeDeskModel" ⟨"WholeDeskModel", "multiply", "(III)V"⟩ ⟨"WholeDeskModel", "multiply", "(III)V"⟩, Cond.code ⟨"WholeDeskModel", "multiply", "(III)V"⟩ prog_7_method_23_code 4 none, Cond.methodLink "WholeDeskModel" 115 ⟨"WholeDeskModel", "multiplyRows", "([I[I[I)V"⟩, Cond.privateMethod ⟨"WholeDeskModel", "multiplyRows", "([I[I[I)V"⟩, Cond.instanceMethod ⟨"WholeDeskModel", "multiplyRows", "([I[I[I)V"⟩, Cond.code ⟨"WholeDeskModel", "multiplyRows", "([I[I[I)V"⟩ prog_7_method_13_code 10 none, Cond.methodLink "WholeDeskLaw" 116 ⟨"WholeDeskModel", "divide", "(IIII)V"⟩, Cond.instanceMethod ⟨"WholeDeskModel", "divide", "(IIII)V"⟩, Cond.selects "WholeDeskModel" ⟨"WholeDeskModel", "divide", "(IIII)V"⟩ ⟨"WholeDeskModel", "divide", "(IIII)V"⟩, Cond.code ⟨"WholeDeskModel", "divide", "(IIII)V"⟩ prog_7_method_24_code 7 none, Cond.methodLink "WholeDeskModel" 119 ⟨"WholeDeskModel", "isZero", "(I)Z"⟩, Cond.privateMethod ⟨"WholeDeskModel", "isZero", "(I)Z"⟩, Cond.instanceMethod ⟨"WholeDeskModel", "isZero", "(I)Z"⟩]
def ck_41 : List Cond := [Cond.code ⟨"WholeDeskModel", "isZero", "(I)Z"⟩ prog_7_method_8_code 4 (some .boolean), Cond.methodLink "WholeDeskModel" 122 ⟨"WholeDeskModel", "divideRows", "([I[I)V"⟩, Cond.privateMethod ⟨"WholeDeskModel", "divideRows", "([I[I)V"⟩, Cond.instanceMethod ⟨"WholeDeskModel", "divideRows", "([I[I)V"⟩, Cond.code ⟨"WholeDeskModel", "divideRows", "([I[I)V"⟩ prog_7_method_14_code 13 none, Cond.methodLink "WholeDeskLaw" 119 ⟨"WholeDeskModel", "modulo", "(III)V"⟩, Cond.instanceMethod ⟨"WholeDeskModel", "modulo", "(III)V"⟩, Cond.selects "WholeDeskModel" ⟨"WholeDeskModel", "modulo", "(III)V"⟩ ⟨"WholeDeskModel", "modulo", "(III)V"⟩, Cond.code ⟨"WholeDeskModel", "modulo", "(III)V"⟩ prog_7_method_27_code 4 none, Cond.methodLink "WholeDeskModel" 125 ⟨"WholeDeskModel", "isAbove0", "(I)Z"⟩, Cond.privateMethod ⟨"WholeDeskModel", "isAbove0", "(I)Z"⟩, Cond.instanceMethod ⟨"WholeDeskModel", "isAbove0", "(I)Z"⟩, Cond.code ⟨"WholeDeskModel", "isAbove0", "(I)Z"⟩ prog_7_method_25_code 2 (some .boolean), Cond.methodLink "WholeDeskModel" 128 ⟨"WholeDeskModel", "reduce", "(I[I)V"⟩, Cond.privateMethod ⟨"WholeDeskModel", "reduce", "(I[I)V"⟩, Cond.instanceMethod ⟨"WholeDeskModel", "reduce", "(I[I)V"⟩, Cond.code ⟨"WholeDeskModel", "reduce", "(I[I)V"⟩ prog_7_method_26_code 3 none, Cond.methodLink "WholeDeskLaw" 122 ⟨"WholeDeskModel", "power", "(III)V"⟩, Cond.instanceMethod ⟨"WholeDeskModel", "power", "(III)V"⟩, Cond.selects "WholeDeskModel" ⟨"WholeDeskModel", "power", "(III)V"⟩ ⟨"WholeDeskModel", "power", "(III)V"⟩]
def ck_42 : List Cond := [Cond.code ⟨"WholeDeskModel", "power", "(III)V"⟩ prog_7_method_29_code 7 none, Cond.methodLink "WholeDeskModel" 131 ⟨"WholeDeskModel", "setOne", "([I)V"⟩, Cond.privateMethod ⟨"WholeDeskModel", "setOne", "([I)V"⟩, Cond.instanceMethod ⟨"WholeDeskModel", "setOne", "([I)V"⟩, Cond.code ⟨"WholeDeskModel", "setOne", "([I)V"⟩ prog_7_method_28_code 2 none, Cond.methodLink "WholeDeskLaw" 125 ⟨"WholeDeskModel", "root", "(III)V"⟩, Cond.instanceMethod ⟨"WholeDeskModel", "root", "(III)V"⟩, Cond.selects "WholeDeskModel" ⟨"WholeDeskModel", "root", "(III)V"⟩ ⟨"WholeDeskModel", "root", "(III)V"⟩, Cond.code ⟨"WholeDeskModel", "root", "(III)V"⟩ prog_7_method_31_code 5 none, Cond.methodLink "WholeDeskModel" 134 ⟨"WholeDeskModel", "fits", "(I)Z"⟩, Cond.privateMethod ⟨"WholeDeskModel", "fits", "(I)Z"⟩, Cond.instanceMethod ⟨"WholeDeskModel", "fits", "(I)Z"⟩, Cond.code ⟨"WholeDeskModel", "fits", "(I)Z"⟩ prog_7_method_30_code 3 (some .boolean), Cond.methodLink "WholeDeskLaw" 128 ⟨"WholeDeskModel", "common", "(III)V"⟩, Cond.instanceMethod ⟨"WholeDeskModel", "common", "(III)V"⟩, Cond.selects "WholeDeskModel" ⟨"WholeDeskModel", "common", "(III)V"⟩ ⟨"WholeDeskModel", "common", "(III)V"⟩, Cond.code ⟨"WholeDeskModel", "common", "(III)V"⟩ prog_7_method_32_code 4 none, Cond.methodLink "WholeDeskLaw" 131 ⟨"WholeDeskModel", "inverse", "(III)V"⟩, Cond.instanceMethod ⟨"WholeDeskModel", "inverse", "(III)V"⟩, Cond.selects "WholeDeskModel" ⟨"WholeDeskModel", "inverse", "(III)V"⟩ ⟨"WholeDeskModel", "inverse", "(III)V"⟩]
def ck_43 : List Cond := [Cond.code ⟨"WholeDeskModel", "inverse", "(III)V"⟩ prog_7_method_34_code 4 none, Cond.methodLink "WholeDeskModel" 143 ⟨"WholeDeskModel", "inverts", "()Z"⟩, Cond.privateMethod ⟨"WholeDeskModel", "inverts", "()Z"⟩, Cond.instanceMethod ⟨"WholeDeskModel", "inverts", "()Z"⟩, Cond.code ⟨"WholeDeskModel", "inverts", "()Z"⟩ prog_7_method_33_code 1 (some .boolean), Cond.methodLink "WholeDeskLaw" 134 ⟨"WholeDeskModel", "powerModulo", "(IIII)V"⟩, Cond.instanceMethod ⟨"WholeDeskModel", "powerModulo", "(IIII)V"⟩, Cond.selects "WholeDeskModel" ⟨"WholeDeskModel", "powerModulo", "(IIII)V"⟩ ⟨"WholeDeskModel", "powerModulo", "(IIII)V"⟩, Cond.code ⟨"WholeDeskModel", "powerModulo", "(IIII)V"⟩ prog_7_method_35_code 7 none, Cond.methodLink "WholeDeskLaw" 137 ⟨"WholeDeskModel", "combine", "(IIII)V"⟩, Cond.instanceMethod ⟨"WholeDeskModel", "combine", "(IIII)V"⟩, Cond.selects "WholeDeskModel" ⟨"WholeDeskModel", "combine", "(IIII)V"⟩ ⟨"WholeDeskModel", "combine", "(IIII)V"⟩, Cond.code ⟨"WholeDeskModel", "combine", "(IIII)V"⟩ prog_7_method_37_code 8 none, Cond.methodLink "WholeDeskModel" 148 ⟨"WholeDeskModel", "limb", "(II)I"⟩, Cond.privateMethod ⟨"WholeDeskModel", "limb", "(II)I"⟩, Cond.instanceMethod ⟨"WholeDeskModel", "limb", "(II)I"⟩, Cond.code ⟨"WholeDeskModel", "limb", "(II)I"⟩ prog_7_method_36_code 5 (some .int), Cond.constant "WholeDeskModel" 147 65535, Cond.constant "WholeDeskModel" 152 32768, Cond.methodLink "WholeDeskLaw" 140 ⟨"WholeDeskModel", "shift", "(III)V"⟩]
def ck_44 : List Cond := [Cond.instanceMethod ⟨"WholeDeskModel", "shift", "(III)V"⟩, Cond.selects "WholeDeskModel" ⟨"WholeDeskModel", "shift", "(III)V"⟩ ⟨"WholeDeskModel", "shift", "(III)V"⟩, Cond.code ⟨"WholeDeskModel", "shift", "(III)V"⟩ prog_7_method_38_code 9 none, Cond.methodLink "WholeDeskLaw" 144 ⟨"WholeDeskModel", "bit", "(II)I"⟩, Cond.instanceMethod ⟨"WholeDeskModel", "bit", "(II)I"⟩, Cond.selects "WholeDeskModel" ⟨"WholeDeskModel", "bit", "(II)I"⟩ ⟨"WholeDeskModel", "bit", "(II)I"⟩, Cond.code ⟨"WholeDeskModel", "bit", "(II)I"⟩ prog_7_method_39_code 3 (some .int), Cond.methodLink "WholeDeskLaw" 147 ⟨"WholeDeskModel", "compare", "(II)I"⟩, Cond.instanceMethod ⟨"WholeDeskModel", "compare", "(II)I"⟩, Cond.selects "WholeDeskModel" ⟨"WholeDeskModel", "compare", "(II)I"⟩ ⟨"WholeDeskModel", "compare", "(II)I"⟩, Cond.code ⟨"WholeDeskModel", "compare", "(II)I"⟩ prog_7_method_40_code 4 (some .int), Cond.methodLink "WholeDeskLaw" 150 ⟨"WholeDeskModel", "told", "(II)J"⟩, Cond.instanceMethod ⟨"WholeDeskModel", "told", "(II)J"⟩, Cond.selects "WholeDeskModel" ⟨"WholeDeskModel", "told", "(II)J"⟩ ⟨"WholeDeskModel", "told", "(II)J"⟩, Cond.code ⟨"WholeDeskModel", "told", "(II)J"⟩ prog_7_method_41_code 12 (some .long), Cond.constantLong "WholeDeskModel" 153 (-1), Cond.methodLink "WholeDeskLaw" 153 ⟨"WholeDeskModel", "written", "(II)I"⟩, Cond.instanceMethod ⟨"WholeDeskModel", "written", "(II)I"⟩, Cond.selects "WholeDeskModel" ⟨"WholeDeskModel", "written", "(II)I"⟩ ⟨"WholeDeskModel", "written", "(II)I"⟩, Cond.code ⟨"WholeDeskModel", "written", "(II)I"⟩ prog_7_method_42_code 6 (some .int)]
def ck_45 : List Cond := [Cond.methodLink "WholeDeskModel" 158 ⟨"WholeDeskModel", "shrink", "([II)I"⟩, Cond.static ⟨"WholeDeskModel", "shrink", "([II)I"⟩, Cond.code ⟨"WholeDeskModel", "shrink", "([II)I"⟩ prog_7_method_12_code 5 (some .int), Cond.methodLink "WholeDeskLaw" 158 ⟨"WholeDeskModel", "text", "(I)J"⟩, Cond.instanceMethod ⟨"WholeDeskModel", "text", "(I)J"⟩, Cond.selects "WholeDeskModel" ⟨"WholeDeskModel", "text", "(I)J"⟩ ⟨"WholeDeskModel", "text", "(I)J"⟩, Cond.code ⟨"WholeDeskModel", "text", "(I)J"⟩ prog_7_method_43_code 7 (some .long), Cond.constantLong "WholeDeskLaw" 81 4294967295, Cond.sameMethod "java/lang/Throwable" "java/lang/Throwable" "fillInStackTrace" "(I)Ljava/lang/Throwable;"]
set_option maxRecDepth 1000000 in
set_option maxHeartbeats 4000000 in
theorem ck_all : tables_1 = ck_0 ++ (ck_1 ++ (ck_2 ++ (ck_3 ++ (ck_4 ++ (ck_5 ++ (ck_6 ++ (ck_7 ++ (ck_8 ++ (ck_9 ++ (ck_10 ++ (ck_11 ++ (ck_12 ++ (ck_13 ++ (ck_14 ++ (ck_15 ++ (ck_16 ++ (ck_17 ++ (ck_18 ++ (ck_19 ++ (ck_20 ++ (ck_21 ++ (ck_22 ++ (ck_23 ++ (ck_24 ++ (ck_25 ++ (ck_26 ++ (ck_27 ++ (ck_28 ++ (ck_29 ++ (ck_30 ++ (ck_31 ++ (ck_32 ++ (ck_33 ++ (ck_34 ++ (ck_35 ++ (ck_36 ++ (ck_37 ++ (ck_38 ++ (ck_39 ++ (ck_40 ++ (ck_41 ++ (ck_42 ++ (ck_43 ++ (ck_44 ++ (ck_45))))))))))))))))))))))))))))))))))))))))))))) := rfl
/-- the words that stay through calls -/
def zt : List Cond := lw_tbl.filter goodWord
theorem zt_tbl : ∀ w ∈ zt, w ∈ lw_tbl := fun w h => (List.mem_filter.mp h).1
theorem zt_good : ∀ w ∈ zt, goodWord w = true := fun w h => (List.mem_filter.mp h).2
theorem zt_of {w : Cond} (h : w ∈ tables_1) (hg : goodWord w = true) : w ∈ zt := List.mem_filter.mpr ⟨List.mem_append_right _ h, hg⟩
theorem zk_0 {w : Cond} (h : w ∈ ck_0) (hg : goodWord w = true) : w ∈ zt := zt_of (by rw [ck_all]; exact (List.mem_append_left _ h)) hg
theorem zk_1 {w : Cond} (h : w ∈ ck_1) (hg : goodWord w = true) : w ∈ zt := zt_of (by rw [ck_all]; exact (List.mem_append_right _ (List.mem_append_left _ h))) hg
theorem zk_2 {w : Cond} (h : w ∈ ck_2) (hg : goodWord w = true) : w ∈ zt := zt_of (by rw [ck_all]; exact (List.mem_append_right _ (List.mem_append_right _ (List.mem_append_left _ h)))) hg
theorem zk_3 {w : Cond} (h : w ∈ ck_3) (hg : goodWord w = true) : w ∈ zt := zt_of (by rw [ck_all]; exact (List.mem_append_right _ (List.mem_append_right _ (List.mem_append_right _ (List.mem_append_left _ h))))) hg
theorem zk_4 {w : Cond} (h : w ∈ ck_4) (hg : goodWord w = true) : w ∈ zt := zt_of (by rw [ck_all]; exact (List.mem_append_right _ (List.mem_append_right _ (List.mem_append_right _ (List.mem_append_right _ (List.mem_append_left _ h)))))) hg
theorem zk_5 {w : Cond} (h : w ∈ ck_5) (hg : goodWord w = true) : w ∈ zt := zt_of (by rw [ck_all]; exact (List.mem_append_right _ (List.mem_append_right _ (List.mem_append_right _ (List.mem_append_right _ (List.mem_append_right _ (List.mem_append_left _ h))))))) hg
theorem zk_6 {w : Cond} (h : w ∈ ck_6) (hg : goodWord w = true) : w ∈ zt := zt_of (by rw [ck_all]; exact (List.mem_append_right _ (List.mem_append_right _ (List.mem_append_right _ (List.mem_append_right _ (List.mem_append_right _ (List.mem_append_right _ (List.mem_append_left _ h)))))))) hg
theorem zk_7 {w : Cond} (h : w ∈ ck_7) (hg : goodWord w = true) : w ∈ zt := zt_of (by rw [ck_all]; exact (List.mem_append_right _ (List.mem_append_right _ (List.mem_append_right _ (List.mem_append_right _ (List.mem_append_right _ (List.mem_append_right _ (List.mem_append_right _ (List.mem_append_left _ h))))))))) hg
theorem zk_8 {w : Cond} (h : w ∈ ck_8) (hg : goodWord w = true) : w ∈ zt := zt_of (by rw [ck_all]; exact (List.mem_append_right _ (List.mem_append_right _ (List.mem_append_right _ (List.mem_append_right _ (List.mem_append_right _ (List.mem_append_right _ (List.mem_append_right _ (List.mem_append_right _ (List.mem_append_left _ h)))))))))) hg
theorem zk_9 {w : Cond} (h : w ∈ ck_9) (hg : goodWord w = true) : w ∈ zt := zt_of (by rw [ck_all]; exact (List.mem_append_right _ (List.mem_append_right _ (List.mem_append_right _ (List.mem_append_right _ (List.mem_append_right _ (List.mem_append_right _ (List.mem_append_right _ (List.mem_append_right _ (List.mem_append_right _ (List.mem_append_left _ h))))))))))) hg
theorem zk_10 {w : Cond} (h : w ∈ ck_10) (hg : goodWord w = true) : w ∈ zt := zt_of (by rw [ck_all]; exact (List.mem_append_right _ (List.mem_append_right _ (List.mem_append_right _ (List.mem_append_right _ (List.mem_append_right _ (List.mem_append_right _ (List.mem_append_right _ (List.mem_append_right _ (List.mem_append_right _ (List.mem_append_right _ (List.mem_append_left _ h)))))))))))) hg
theorem zk_11 {w : Cond} (h : w ∈ ck_11) (hg : goodWord w = true) : w ∈ zt := zt_of (by rw [ck_all]; exact (List.mem_append_right _ (List.mem_append_right _ (List.mem_append_right _ (List.mem_append_right _ (List.mem_append_right _ (List.mem_append_right _ (List.mem_append_right _ (List.mem_append_right _ (List.mem_append_right _ (List.mem_append_right _ (List.mem_append_right _ (List.mem_append_left _ h))))))))))))) hg
theorem zk_12 {w : Cond} (h : w ∈ ck_12) (hg : goodWord w = true) : w ∈ zt := zt_of (by rw [ck_all]; exact (List.mem_append_right _ (List.mem_append_right _ (List.mem_append_right _ (List.mem_append_right _ (List.mem_append_right _ (List.mem_append_right _ (List.mem_append_right _ (List.mem_append_right _ (List.mem_append_right _ (List.mem_append_right _ (List.mem_append_right _ (List.mem_append_right _ (List.mem_append_left _ h)))))))))))))) hg
theorem zk_13 {w : Cond} (h : w ∈ ck_13) (hg : goodWord w = true) : w ∈ zt := zt_of (by rw [ck_all]; exact (List.mem_append_right _ (List.mem_append_right _ (List.mem_append_right _ (List.mem_append_right _ (List.mem_append_right _ (List.mem_append_right _ (List.mem_append_right _ (List.mem_append_right _ (List.mem_append_right _ (List.mem_append_right _ (List.mem_append_right _ (List.mem_append_right _ (List.mem_append_right _ (List.mem_append_left _ h))))))))))))))) hg
theorem zk_14 {w : Cond} (h : w ∈ ck_14) (hg : goodWord w = true) : w ∈ zt := zt_of (by rw [ck_all]; exact (List.mem_append_right _ (List.mem_append_right _ (List.mem_append_right _ (List.mem_append_right _ (List.mem_append_right _ (List.mem_append_right _ (List.mem_append_right _ (List.mem_append_right _ (List.mem_append_right _ (List.mem_append_right _ (List.mem_append_right _ (List.mem_append_right _ (List.mem_append_right _ (List.mem_append_right _ (List.mem_append_left _ h)))))))))))))))) hg
theorem zk_15 {w : Cond} (h : w ∈ ck_15) (hg : goodWord w = true) : w ∈ zt := zt_of (by rw [ck_all]; exact (List.mem_append_right _ (List.mem_append_right _ (List.mem_append_right _ (List.mem_append_right _ (List.mem_append_right _ (List.mem_append_right _ (List.mem_append_right _ (List.mem_append_right _ (List.mem_append_right _ (List.mem_append_right _ (List.mem_append_right _ (List.mem_append_right _ (List.mem_append_right _ (List.mem_append_right _ (List.mem_append_right _ (List.mem_append_left _ h))))))))))))))))) hg
theorem zk_16 {w : Cond} (h : w ∈ ck_16) (hg : goodWord w = true) : w ∈ zt := zt_of (by rw [ck_all]; exact (List.mem_append_right _ (List.mem_append_right _ (List.mem_append_right _ (List.mem_append_right _ (List.mem_append_right _ (List.mem_append_right _ (List.mem_append_right _ (List.mem_append_right _ (List.mem_append_right _ (List.mem_append_right _ (List.mem_append_right _ (List.mem_append_right _ (List.mem_append_right _ (List.mem_append_right _ (List.mem_append_right _ (List.mem_append_right _ (List.mem_append_left _ h)))))))))))))))))) hg
theorem zk_17 {w : Cond} (h : w ∈ ck_17) (hg : goodWord w = true) : w ∈ zt := zt_of (by rw [ck_all]; exact (List.mem_append_right _ (List.mem_append_right _ (List.mem_append_right _ (List.mem_append_right _ (List.mem_append_right _ (List.mem_append_right _ (List.mem_append_right _ (List.mem_append_right _ (List.mem_append_right _ (List.mem_append_right _ (List.mem_append_right _ (List.mem_append_right _ (List.mem_append_right _ (List.mem_append_right _ (List.mem_append_right _ (List.mem_append_right _ (List.mem_append_right _ (List.mem_append_left _ h))))))))))))))))))) hg
theorem zk_18 {w : Cond} (h : w ∈ ck_18) (hg : goodWord w = true) : w ∈ zt := zt_of (by rw [ck_all]; exact (List.mem_append_right _ (List.mem_append_right _ (List.mem_append_right _ (List.mem_append_right _ (List.mem_append_right _ (List.mem_append_right _ (List.mem_append_right _ (List.mem_append_right _ (List.mem_append_right _ (List.mem_append_right _ (List.mem_append_right _ (List.mem_append_right _ (List.mem_append_right _ (List.mem_append_right _ (List.mem_append_right _ (List.mem_append_right _ (List.mem_append_right _ (List.mem_append_right _ (List.mem_append_left _ h)))))))))))))))))))) hg
theorem zk_19 {w : Cond} (h : w ∈ ck_19) (hg : goodWord w = true) : w ∈ zt := zt_of (by rw [ck_all]; exact (List.mem_append_right _ (List.mem_append_right _ (List.mem_append_right _ (List.mem_append_right _ (List.mem_append_right _ (List.mem_append_right _ (List.mem_append_right _ (List.mem_append_right _ (List.mem_append_right _ (List.mem_append_right _ (List.mem_append_right _ (List.mem_append_right _ (List.mem_append_right _ (List.mem_append_right _ (List.mem_append_right _ (List.mem_append_right _ (List.mem_append_right _ (List.mem_append_right _ (List.mem_append_right _ (List.mem_append_left _ h))))))))))))))))))))) hg
theorem zk_20 {w : Cond} (h : w ∈ ck_20) (hg : goodWord w = true) : w ∈ zt := zt_of (by rw [ck_all]; exact (List.mem_append_right _ (List.mem_append_right _ (List.mem_append_right _ (List.mem_append_right _ (List.mem_append_right _ (List.mem_append_right _ (List.mem_append_right _ (List.mem_append_right _ (List.mem_append_right _ (List.mem_append_right _ (List.mem_append_right _ (List.mem_append_right _ (List.mem_append_right _ (List.mem_append_right _ (List.mem_append_right _ (List.mem_append_right _ (List.mem_append_right _ (List.mem_append_right _ (List.mem_append_right _ (List.mem_append_right _ (List.mem_append_left _ h)))))))))))))))))))))) hg
theorem zk_21 {w : Cond} (h : w ∈ ck_21) (hg : goodWord w = true) : w ∈ zt := zt_of (by rw [ck_all]; exact (List.mem_append_right _ (List.mem_append_right _ (List.mem_append_right _ (List.mem_append_right _ (List.mem_append_right _ (List.mem_append_right _ (List.mem_append_right _ (List.mem_append_right _ (List.mem_append_right _ (List.mem_append_right _ (List.mem_append_right _ (List.mem_append_right _ (List.mem_append_right _ (List.mem_append_right _ (List.mem_append_right _ (List.mem_append_right _ (List.mem_append_right _ (List.mem_append_right _ (List.mem_append_right _ (List.mem_append_right _ (List.mem_append_right _ (List.mem_append_left _ h))))))))))))))))))))))) hg
theorem zk_22 {w : Cond} (h : w ∈ ck_22) (hg : goodWord w = true) : w ∈ zt := zt_of (by rw [ck_all]; exact (List.mem_append_right _ (List.mem_append_right _ (List.mem_append_right _ (List.mem_append_right _ (List.mem_append_right _ (List.mem_append_right _ (List.mem_append_right _ (List.mem_append_right _ (List.mem_append_right _ (List.mem_append_right _ (List.mem_append_right _ (List.mem_append_right _ (List.mem_append_right _ (List.mem_append_right _ (List.mem_append_right _ (List.mem_append_right _ (List.mem_append_right _ (List.mem_append_right _ (List.mem_append_right _ (List.mem_append_right _ (List.mem_append_right _ (List.mem_append_right _ (List.mem_append_left _ h)))))))))))))))))))))))) hg
theorem zk_23 {w : Cond} (h : w ∈ ck_23) (hg : goodWord w = true) : w ∈ zt := zt_of (by rw [ck_all]; exact (List.mem_append_right _ (List.mem_append_right _ (List.mem_append_right _ (List.mem_append_right _ (List.mem_append_right _ (List.mem_append_right _ (List.mem_append_right _ (List.mem_append_right _ (List.mem_append_right _ (List.mem_append_right _ (List.mem_append_right _ (List.mem_append_right _ (List.mem_append_right _ (List.mem_append_right _ (List.mem_append_right _ (List.mem_append_right _ (List.mem_append_right _ (List.mem_append_right _ (List.mem_append_right _ (List.mem_append_right _ (List.mem_append_right _ (List.mem_append_right _ (List.mem_append_right _ (List.mem_append_left _ h))))))))))))))))))))))))) hg
theorem zk_24 {w : Cond} (h : w ∈ ck_24) (hg : goodWord w = true) : w ∈ zt := zt_of (by rw [ck_all]; exact (List.mem_append_right _ (List.mem_append_right _ (List.mem_append_right _ (List.mem_append_right _ (List.mem_append_right _ (List.mem_append_right _ (List.mem_append_right _ (List.mem_append_right _ (List.mem_append_right _ (List.mem_append_right _ (List.mem_append_right _ (List.mem_append_right _ (List.mem_append_right _ (List.mem_append_right _ (List.mem_append_right _ (List.mem_append_right _ (List.mem_append_right _ (List.mem_append_right _ (List.mem_append_right _ (List.mem_append_right _ (List.mem_append_right _ (List.mem_append_right _ (List.mem_append_right _ (List.mem_append_right _ (List.mem_append_left _ h)))))))))))))))))))))))))) hg
theorem zk_25 {w : Cond} (h : w ∈ ck_25) (hg : goodWord w = true) : w ∈ zt := zt_of (by rw [ck_all]; exact (List.mem_append_right _ (List.mem_append_right _ (List.mem_append_right _ (List.mem_append_right _ (List.mem_append_right _ (List.mem_append_right _ (List.mem_append_right _ (List.mem_append_right _ (List.mem_append_right _ (List.mem_append_right _ (List.mem_append_right _ (List.mem_append_right _ (List.mem_append_right _ (List.mem_append_right _ (List.mem_append_right _ (List.mem_append_right _ (List.mem_append_right _ (List.mem_append_right _ (List.mem_append_right _ (List.mem_append_right _ (List.mem_append_right _ (List.mem_append_right _ (List.mem_append_right _ (List.mem_append_right _ (List.mem_append_right _ (List.mem_append_left _ h))))))))))))))))))))))))))) hg
theorem zk_26 {w : Cond} (h : w ∈ ck_26) (hg : goodWord w = true) : w ∈ zt := zt_of (by rw [ck_all]; exact (List.mem_append_right _ (List.mem_append_right _ (List.mem_append_right _ (List.mem_append_right _ (List.mem_append_right _ (List.mem_append_right _ (List.mem_append_right _ (List.mem_append_right _ (List.mem_append_right _ (List.mem_append_right _ (List.mem_append_right _ (List.mem_append_right _ (List.mem_append_right _ (List.mem_append_right _ (List.mem_append_right _ (List.mem_append_right _ (List.mem_append_right _ (List.mem_append_right _ (List.mem_append_right _ (List.mem_append_right _ (List.mem_append_right _ (List.mem_append_right _ (List.mem_append_right _ (List.mem_append_right _ (List.mem_append_right _ (List.mem_append_right _ (List.mem_append_left _ h)))))))))))))))))))))))))))) hg
theorem zk_27 {w : Cond} (h : w ∈ ck_27) (hg : goodWord w = true) : w ∈ zt := zt_of (by rw [ck_all]; exact (List.mem_append_right _ (List.mem_append_right _ (List.mem_append_right _ (List.mem_append_right _ (List.mem_append_right _ (List.mem_append_right _ (List.mem_append_right _ (List.mem_append_right _ (List.mem_append_right _ (List.mem_append_right _ (List.mem_append_right _ (List.mem_append_right _ (List.mem_append_right _ (List.mem_append_right _ (List.mem_append_right _ (List.mem_append_right _ (List.mem_append_right _ (List.mem_append_right _ (List.mem_append_right _ (List.mem_append_right _ (List.mem_append_right _ (List.mem_append_right _ (List.mem_append_right _ (List.mem_append_right _ (List.mem_append_right _ (List.mem_append_right _ (List.mem_append_right _ (List.mem_append_left _ h))))))))))))))))))))))))))))) hg
theorem zk_28 {w : Cond} (h : w ∈ ck_28) (hg : goodWord w = true) : w ∈ zt := zt_of (by rw [ck_all]; exact (List.mem_append_right _ (List.mem_append_right _ (List.mem_append_right _ (List.mem_append_right _ (List.mem_append_right _ (List.mem_append_right _ (List.mem_append_right _ (List.mem_append_right _ (List.mem_append_right _ (List.mem_append_right _ (List.mem_append_right _ (List.mem_append_right _ (List.mem_append_right _ (List.mem_append_right _ (List.mem_append_right _ (List.mem_append_right _ (List.mem_append_right _ (List.mem_append_right _ (List.mem_append_right _ (List.mem_append_right _ (List.mem_append_right _ (List.mem_append_right _ (List.mem_append_right _ (List.mem_append_right _ (List.mem_append_right _ (List.mem_append_right _ (List.mem_append_right _ (List.mem_append_right _ (List.mem_append_left _ h)))))))))))))))))))))))))))))) hg
theorem zk_29 {w : Cond} (h : w ∈ ck_29) (hg : goodWord w = true) : w ∈ zt := zt_of (by rw [ck_all]; exact (List.mem_append_right _ (List.mem_append_right _ (List.mem_append_right _ (List.mem_append_right _ (List.mem_append_right _ (List.mem_append_right _ (List.mem_append_right _ (List.mem_append_right _ (List.mem_append_right _ (List.mem_append_right _ (List.mem_append_right _ (List.mem_append_right _ (List.mem_append_right _ (List.mem_append_right _ (List.mem_append_right _ (List.mem_append_right _ (List.mem_append_right _ (List.mem_append_right _ (List.mem_append_right _ (List.mem_append_right _ (List.mem_append_right _ (List.mem_append_right _ (List.mem_append_right _ (List.mem_append_right _ (List.mem_append_right _ (List.mem_append_right _ (List.mem_append_right _ (List.mem_append_right _ (List.mem_append_right _ (List.mem_append_left _ h))))))))))))))))))))))))))))))) hg
theorem zk_30 {w : Cond} (h : w ∈ ck_30) (hg : goodWord w = true) : w ∈ zt := zt_of (by rw [ck_all]; exact (List.mem_append_right _ (List.mem_append_right _ (List.mem_append_right _ (List.mem_append_right _ (List.mem_append_right _ (List.mem_append_right _ (List.mem_append_right _ (List.mem_append_right _ (List.mem_append_right _ (List.mem_append_right _ (List.mem_append_right _ (List.mem_append_right _ (List.mem_append_right _ (List.mem_append_right _ (List.mem_append_right _ (List.mem_append_right _ (List.mem_append_right _ (List.mem_append_right _ (List.mem_append_right _ (List.mem_append_right _ (List.mem_append_right _ (List.mem_append_right _ (List.mem_append_right _ (List.mem_append_right _ (List.mem_append_right _ (List.mem_append_right _ (List.mem_append_right _ (List.mem_append_right _ (List.mem_append_right _ (List.mem_append_right _ (List.mem_append_left _ h)))))))))))))))))))))))))))))))) hg
theorem zk_31 {w : Cond} (h : w ∈ ck_31) (hg : goodWord w = true) : w ∈ zt := zt_of (by rw [ck_all]; exact (List.mem_append_right _ (List.mem_append_right _ (List.mem_append_right _ (List.mem_append_right _ (List.mem_append_right _ (List.mem_append_right _ (List.mem_append_right _ (List.mem_append_right _ (List.mem_append_right _ (List.mem_append_right _ (List.mem_append_right _ (List.mem_append_right _ (List.mem_append_right _ (List.mem_append_right _ (List.mem_append_right _ (List.mem_append_right _ (List.mem_append_right _ (List.mem_append_right _ (List.mem_append_right _ (List.mem_append_right _ (List.mem_append_right _ (List.mem_append_right _ (List.mem_append_right _ (List.mem_append_right _ (List.mem_append_right _ (List.mem_append_right _ (List.mem_append_right _ (List.mem_append_right _ (List.mem_append_right _ (List.mem_append_right _ (List.mem_append_right _ (List.mem_append_left _ h))))))))))))))))))))))))))))))))) hg
theorem zk_32 {w : Cond} (h : w ∈ ck_32) (hg : goodWord w = true) : w ∈ zt := zt_of (by rw [ck_all]; exact (List.mem_append_right _ (List.mem_append_right _ (List.mem_append_right _ (List.mem_append_right _ (List.mem_append_right _ (List.mem_append_right _ (List.mem_append_right _ (List.mem_append_right _ (List.mem_append_right _ (List.mem_append_right _ (List.mem_append_right _ (List.mem_append_right _ (List.mem_append_right _ (List.mem_append_right _ (List.mem_append_right _ (List.mem_append_right _ (List.mem_append_right _ (List.mem_append_right _ (List.mem_append_right _ (List.mem_append_right _ (List.mem_append_right _ (List.mem_append_right _ (List.mem_append_right _ (List.mem_append_right _ (List.mem_append_right _ (List.mem_append_right _ (List.mem_append_right _ (List.mem_append_right _ (List.mem_append_right _ (List.mem_append_right _ (List.mem_append_right _ (List.mem_append_right _ (List.mem_append_left _ h)))))))))))))))))))))))))))))))))) hg
theorem zk_33 {w : Cond} (h : w ∈ ck_33) (hg : goodWord w = true) : w ∈ zt := zt_of (by rw [ck_all]; exact (List.mem_append_right _ (List.mem_append_right _ (List.mem_append_right _ (List.mem_append_right _ (List.mem_append_right _ (List.mem_append_right _ (List.mem_append_right _ (List.mem_append_right _ (List.mem_append_right _ (List.mem_append_right _ (List.mem_append_right _ (List.mem_append_right _ (List.mem_append_right _ (List.mem_append_right _ (List.mem_append_right _ (List.mem_append_right _ (List.mem_append_right _ (List.mem_append_right _ (List.mem_append_right _ (List.mem_append_right _ (List.mem_append_right _ (List.mem_append_right _ (List.mem_append_right _ (List.mem_append_right _ (List.mem_append_right _ (List.mem_append_right _ (List.mem_append_right _ (List.mem_append_right _ (List.mem_append_right _ (List.mem_append_right _ (List.mem_append_right _ (List.mem_append_right _ (List.mem_append_right _ (List.mem_append_left _ h))))))))))))))))))))))))))))))))))) hg
theorem zk_34 {w : Cond} (h : w ∈ ck_34) (hg : goodWord w = true) : w ∈ zt := zt_of (by rw [ck_all]; exact (List.mem_append_right _ (List.mem_append_right _ (List.mem_append_right _ (List.mem_append_right _ (List.mem_append_right _ (List.mem_append_right _ (List.mem_append_right _ (List.mem_append_right _ (List.mem_append_right _ (List.mem_append_right _ (List.mem_append_right _ (List.mem_append_right _ (List.mem_append_right _ (List.mem_append_right _ (List.mem_append_right _ (List.mem_append_right _ (List.mem_append_right _ (List.mem_append_right _ (List.mem_append_right _ (List.mem_append_right _ (List.mem_append_right _ (List.mem_append_right _ (List.mem_append_right _ (List.mem_append_right _ (List.mem_append_right _ (List.mem_append_right _ (List.mem_append_right _ (List.mem_append_right _ (List.mem_append_right _ (List.mem_append_right _ (List.mem_append_right _ (List.mem_append_right _ (List.mem_append_right _ (List.mem_append_right _ (List.mem_append_left _ h)))))))))))))))))))))))))))))))))))) hg
theorem zk_35 {w : Cond} (h : w ∈ ck_35) (hg : goodWord w = true) : w ∈ zt := zt_of (by rw [ck_all]; exact (List.mem_append_right _ (List.mem_append_right _ (List.mem_append_right _ (List.mem_append_right _ (List.mem_append_right _ (List.mem_append_right _ (List.mem_append_right _ (List.mem_append_right _ (List.mem_append_right _ (List.mem_append_right _ (List.mem_append_right _ (List.mem_append_right _ (List.mem_append_right _ (List.mem_append_right _ (List.mem_append_right _ (List.mem_append_right _ (List.mem_append_right _ (List.mem_append_right _ (List.mem_append_right _ (List.mem_append_right _ (List.mem_append_right _ (List.mem_append_right _ (List.mem_append_right _ (List.mem_append_right _ (List.mem_append_right _ (List.mem_append_right _ (List.mem_append_right _ (List.mem_append_right _ (List.mem_append_right _ (List.mem_append_right _ (List.mem_append_right _ (List.mem_append_right _ (List.mem_append_right _ (List.mem_append_right _ (List.mem_append_right _ (List.mem_append_left _ h))))))))))))))))))))))))))))))))))))) hg
theorem zk_36 {w : Cond} (h : w ∈ ck_36) (hg : goodWord w = true) : w ∈ zt := zt_of (by rw [ck_all]; exact (List.mem_append_right _ (List.mem_append_right _ (List.mem_append_right _ (List.mem_append_right _ (List.mem_append_right _ (List.mem_append_right _ (List.mem_append_right _ (List.mem_append_right _ (List.mem_append_right _ (List.mem_append_right _ (List.mem_append_right _ (List.mem_append_right _ (List.mem_append_right _ (List.mem_append_right _ (List.mem_append_right _ (List.mem_append_right _ (List.mem_append_right _ (List.mem_append_right _ (List.mem_append_right _ (List.mem_append_right _ (List.mem_append_right _ (List.mem_append_right _ (List.mem_append_right _ (List.mem_append_right _ (List.mem_append_right _ (List.mem_append_right _ (List.mem_append_right _ (List.mem_append_right _ (List.mem_append_right _ (List.mem_append_right _ (List.mem_append_right _ (List.mem_append_right _ (List.mem_append_right _ (List.mem_append_right _ (List.mem_append_right _ (List.mem_append_right _ (List.mem_append_left _ h)))))))))))))))))))))))))))))))))))))) hg
theorem zk_37 {w : Cond} (h : w ∈ ck_37) (hg : goodWord w = true) : w ∈ zt := zt_of (by rw [ck_all]; exact (List.mem_append_right _ (List.mem_append_right _ (List.mem_append_right _ (List.mem_append_right _ (List.mem_append_right _ (List.mem_append_right _ (List.mem_append_right _ (List.mem_append_right _ (List.mem_append_right _ (List.mem_append_right _ (List.mem_append_right _ (List.mem_append_right _ (List.mem_append_right _ (List.mem_append_right _ (List.mem_append_right _ (List.mem_append_right _ (List.mem_append_right _ (List.mem_append_right _ (List.mem_append_right _ (List.mem_append_right _ (List.mem_append_right _ (List.mem_append_right _ (List.mem_append_right _ (List.mem_append_right _ (List.mem_append_right _ (List.mem_append_right _ (List.mem_append_right _ (List.mem_append_right _ (List.mem_append_right _ (List.mem_append_right _ (List.mem_append_right _ (List.mem_append_right _ (List.mem_append_right _ (List.mem_append_right _ (List.mem_append_right _ (List.mem_append_right _ (List.mem_append_right _ (List.mem_append_left _ h))))))))))))))))))))))))))))))))))))))) hg
theorem zk_38 {w : Cond} (h : w ∈ ck_38) (hg : goodWord w = true) : w ∈ zt := zt_of (by rw [ck_all]; exact (List.mem_append_right _ (List.mem_append_right _ (List.mem_append_right _ (List.mem_append_right _ (List.mem_append_right _ (List.mem_append_right _ (List.mem_append_right _ (List.mem_append_right _ (List.mem_append_right _ (List.mem_append_right _ (List.mem_append_right _ (List.mem_append_right _ (List.mem_append_right _ (List.mem_append_right _ (List.mem_append_right _ (List.mem_append_right _ (List.mem_append_right _ (List.mem_append_right _ (List.mem_append_right _ (List.mem_append_right _ (List.mem_append_right _ (List.mem_append_right _ (List.mem_append_right _ (List.mem_append_right _ (List.mem_append_right _ (List.mem_append_right _ (List.mem_append_right _ (List.mem_append_right _ (List.mem_append_right _ (List.mem_append_right _ (List.mem_append_right _ (List.mem_append_right _ (List.mem_append_right _ (List.mem_append_right _ (List.mem_append_right _ (List.mem_append_right _ (List.mem_append_right _ (List.mem_append_right _ (List.mem_append_left _ h)))))))))))))))))))))))))))))))))))))))) hg
theorem zk_39 {w : Cond} (h : w ∈ ck_39) (hg : goodWord w = true) : w ∈ zt := zt_of (by rw [ck_all]; exact (List.mem_append_right _ (List.mem_append_right _ (List.mem_append_right _ (List.mem_append_right _ (List.mem_append_right _ (List.mem_append_right _ (List.mem_append_right _ (List.mem_append_right _ (List.mem_append_right _ (List.mem_append_right _ (List.mem_append_right _ (List.mem_append_right _ (List.mem_append_right _ (List.mem_append_right _ (List.mem_append_right _ (List.mem_append_right _ (List.mem_append_right _ (List.mem_append_right _ (List.mem_append_right _ (List.mem_append_right _ (List.mem_append_right _ (List.mem_append_right _ (List.mem_append_right _ (List.mem_append_right _ (List.mem_append_right _ (List.mem_append_right _ (List.mem_append_right _ (List.mem_append_right _ (List.mem_append_right _ (List.mem_append_right _ (List.mem_append_right _ (List.mem_append_right _ (List.mem_append_right _ (List.mem_append_right _ (List.mem_append_right _ (List.mem_append_right _ (List.mem_append_right _ (List.mem_append_right _ (List.mem_append_right _ (List.mem_append_left _ h))))))))))))))))))))))))))))))))))))))))) hg
theorem zk_40 {w : Cond} (h : w ∈ ck_40) (hg : goodWord w = true) : w ∈ zt := zt_of (by rw [ck_all]; exact (List.mem_append_right _ (List.mem_append_right _ (List.mem_append_right _ (List.mem_append_right _ (List.mem_append_right _ (List.mem_append_right _ (List.mem_append_right _ (List.mem_append_right _ (List.mem_append_right _ (List.mem_append_right _ (List.mem_append_right _ (List.mem_append_right _ (List.mem_append_right _ (List.mem_append_right _ (List.mem_append_right _ (List.mem_append_right _ (List.mem_append_right _ (List.mem_append_right _ (List.mem_append_right _ (List.mem_append_right _ (List.mem_append_right _ (List.mem_append_right _ (List.mem_append_right _ (List.mem_append_right _ (List.mem_append_right _ (List.mem_append_right _ (List.mem_append_right _ (List.mem_append_right _ (List.mem_append_right _ (List.mem_append_right _ (List.mem_append_right _ (List.mem_append_right _ (List.mem_append_right _ (List.mem_append_right _ (List.mem_append_right _ (List.mem_append_right _ (List.mem_append_right _ (List.mem_append_right _ (List.mem_append_right _ (List.mem_append_right _ (List.mem_append_left _ h)))))))))))))))))))))))))))))))))))))))))) hg
theorem zk_41 {w : Cond} (h : w ∈ ck_41) (hg : goodWord w = true) : w ∈ zt := zt_of (by rw [ck_all]; exact (List.mem_append_right _ (List.mem_append_right _ (List.mem_append_right _ (List.mem_append_right _ (List.mem_append_right _ (List.mem_append_right _ (List.mem_append_right _ (List.mem_append_right _ (List.mem_append_right _ (List.mem_append_right _ (List.mem_append_right _ (List.mem_append_right _ (List.mem_append_right _ (List.mem_append_right _ (List.mem_append_right _ (List.mem_append_right _ (List.mem_append_right _ (List.mem_append_right _ (List.mem_append_right _ (List.mem_append_right _ (List.mem_append_right _ (List.mem_append_right _ (List.mem_append_right _ (List.mem_append_right _ (List.mem_append_right _ (List.mem_append_right _ (List.mem_append_right _ (List.mem_append_right _ (List.mem_append_right _ (List.mem_append_right _ (List.mem_append_right _ (List.mem_append_right _ (List.mem_append_right _ (List.mem_append_right _ (List.mem_append_right _ (List.mem_append_right _ (List.mem_append_right _ (List.mem_append_right _ (List.mem_append_right _ (List.mem_append_right _ (List.mem_append_right _ (List.mem_append_left _ h))))))))))))))))))))))))))))))))))))))))))) hg
theorem zk_42 {w : Cond} (h : w ∈ ck_42) (hg : goodWord w = true) : w ∈ zt := zt_of (by rw [ck_all]; exact (List.mem_append_right _ (List.mem_append_right _ (List.mem_append_right _ (List.mem_append_right _ (List.mem_append_right _ (List.mem_append_right _ (List.mem_append_right _ (List.mem_append_right _ (List.mem_append_right _ (List.mem_append_right _ (List.mem_append_right _ (List.mem_append_right _ (List.mem_append_right _ (List.mem_append_right _ (List.mem_append_right _ (List.mem_append_right _ (List.mem_append_right _ (List.mem_append_right _ (List.mem_append_right _ (List.mem_append_right _ (List.mem_append_right _ (List.mem_append_right _ (List.mem_append_right _ (List.mem_append_right _ (List.mem_append_right _ (List.mem_append_right _ (List.mem_append_right _ (List.mem_append_right _ (List.mem_append_right _ (List.mem_append_right _ (List.mem_append_right _ (List.mem_append_right _ (List.mem_append_right _ (List.mem_append_right _ (List.mem_append_right _ (List.mem_append_right _ (List.mem_append_right _ (List.mem_append_right _ (List.mem_append_right _ (List.mem_append_right _ (List.mem_append_right _ (List.mem_append_right _ (List.mem_append_left _ h)))))))))))))))))))))))))))))))))))))))))))) hg
theorem zk_43 {w : Cond} (h : w ∈ ck_43) (hg : goodWord w = true) : w ∈ zt := zt_of (by rw [ck_all]; exact (List.mem_append_right _ (List.mem_append_right _ (List.mem_append_right _ (List.mem_append_right _ (List.mem_append_right _ (List.mem_append_right _ (List.mem_append_right _ (List.mem_append_right _ (List.mem_append_right _ (List.mem_append_right _ (List.mem_append_right _ (List.mem_append_right _ (List.mem_append_right _ (List.mem_append_right _ (List.mem_append_right _ (List.mem_append_right _ (List.mem_append_right _ (List.mem_append_right _ (List.mem_append_right _ (List.mem_append_right _ (List.mem_append_right _ (List.mem_append_right _ (List.mem_append_right _ (List.mem_append_right _ (List.mem_append_right _ (List.mem_append_right _ (List.mem_append_right _ (List.mem_append_right _ (List.mem_append_right _ (List.mem_append_right _ (List.mem_append_right _ (List.mem_append_right _ (List.mem_append_right _ (List.mem_append_right _ (List.mem_append_right _ (List.mem_append_right _ (List.mem_append_right _ (List.mem_append_right _ (List.mem_append_right _ (List.mem_append_right _ (List.mem_append_right _ (List.mem_append_right _ (List.mem_append_right _ (List.mem_append_left _ h))))))))))))))))))))))))))))))))))))))))))))) hg
theorem zk_44 {w : Cond} (h : w ∈ ck_44) (hg : goodWord w = true) : w ∈ zt := zt_of (by rw [ck_all]; exact (List.mem_append_right _ (List.mem_append_right _ (List.mem_append_right _ (List.mem_append_right _ (List.mem_append_right _ (List.mem_append_right _ (List.mem_append_right _ (List.mem_append_right _ (List.mem_append_right _ (List.mem_append_right _ (List.mem_append_right _ (List.mem_append_right _ (List.mem_append_right _ (List.mem_append_right _ (List.mem_append_right _ (List.mem_append_right _ (List.mem_append_right _ (List.mem_append_right _ (List.mem_append_right _ (List.mem_append_right _ (List.mem_append_right _ (List.mem_append_right _ (List.mem_append_right _ (List.mem_append_right _ (List.mem_append_right _ (List.mem_append_right _ (List.mem_append_right _ (List.mem_append_right _ (List.mem_append_right _ (List.mem_append_right _ (List.mem_append_right _ (List.mem_append_right _ (List.mem_append_right _ (List.mem_append_right _ (List.mem_append_right _ (List.mem_append_right _ (List.mem_append_right _ (List.mem_append_right _ (List.mem_append_right _ (List.mem_append_right _ (List.mem_append_right _ (List.mem_append_right _ (List.mem_append_right _ (List.mem_append_right _ (List.mem_append_left _ h)))))))))))))))))))))))))))))))))))))))))))))) hg
theorem zk_45 {w : Cond} (h : w ∈ ck_45) (hg : goodWord w = true) : w ∈ zt := zt_of (by rw [ck_all]; exact (List.mem_append_right _ (List.mem_append_right _ (List.mem_append_right _ (List.mem_append_right _ (List.mem_append_right _ (List.mem_append_right _ (List.mem_append_right _ (List.mem_append_right _ (List.mem_append_right _ (List.mem_append_right _ (List.mem_append_right _ (List.mem_append_right _ (List.mem_append_right _ (List.mem_append_right _ (List.mem_append_right _ (List.mem_append_right _ (List.mem_append_right _ (List.mem_append_right _ (List.mem_append_right _ (List.mem_append_right _ (List.mem_append_right _ (List.mem_append_right _ (List.mem_append_right _ (List.mem_append_right _ (List.mem_append_right _ (List.mem_append_right _ (List.mem_append_right _ (List.mem_append_right _ (List.mem_append_right _ (List.mem_append_right _ (List.mem_append_right _ (List.mem_append_right _ (List.mem_append_right _ (List.mem_append_right _ (List.mem_append_right _ (List.mem_append_right _ (List.mem_append_right _ (List.mem_append_right _ (List.mem_append_right _ (List.mem_append_right _ (List.mem_append_right _ (List.mem_append_right _ (List.mem_append_right _ (List.mem_append_right _ (List.mem_append_right _ (h))))))))))))))))))))))))))))))))))))))))))))))) hg
theorem tw_0 : Cond.initialized "WholeDeskLaw" ∈ zt := zk_0 (List.mem_of_getElem? (i := 0) rfl) (by decide +kernel)
theorem tw_1 : Cond.initialized "WholeDesk" ∈ zt := zk_0 (List.mem_of_getElem? (i := 1) rfl) (by decide +kernel)
theorem tw_2 : Cond.initialized "WholeDesk$Whole" ∈ zt := zk_0 (List.mem_of_getElem? (i := 2) rfl) (by decide +kernel)
theorem tw_3 : Cond.initialized "WholeDesk$Reckoner" ∈ zt := zk_0 (List.mem_of_getElem? (i := 3) rfl) (by decide +kernel)
theorem tw_4 : Cond.initialized "WholeDesk$Draft" ∈ zt := zk_0 (List.mem_of_getElem? (i := 4) rfl) (by decide +kernel)
theorem tw_5 : Cond.initialized "WholeDesk$Writing" ∈ zt := zk_0 (List.mem_of_getElem? (i := 5) rfl) (by decide +kernel)
theorem tw_6 : Cond.initialized "WholeDeskModel" ∈ zt := zk_0 (List.mem_of_getElem? (i := 6) rfl) (by decide +kernel)
theorem tw_7 : Cond.initialized "java/lang/Throwable" ∈ zt := zk_0 (List.mem_of_getElem? (i := 7) rfl) (by decide +kernel)
theorem tw_8 : Cond.initialized "java/lang/Exception" ∈ zt := zk_0 (List.mem_of_getElem? (i := 8) rfl) (by decide +kernel)
theorem tw_9 : Cond.initialized "java/lang/RuntimeException" ∈ zt := zk_0 (List.mem_of_getElem? (i := 9) rfl) (by decide +kernel)
theorem tw_10 : Cond.initialized "java/lang/IllegalArgumentException" ∈ zt := zk_0 (List.mem_of_getElem? (i := 10) rfl) (by decide +kernel)
theorem tw_11 : Cond.initialized "java/lang/IllegalStateException" ∈ zt := zk_0 (List.mem_of_getElem? (i := 11) rfl) (by decide +kernel)
theorem tw_12 : Cond.initialized "java/lang/Math" ∈ zt := zk_0 (List.mem_of_getElem? (i := 12) rfl) (by decide +kernel)
theorem tw_13 : Cond.initialized "java/lang/ArithmeticException" ∈ zt := zk_0 (List.mem_of_getElem? (i := 13) rfl) (by decide +kernel)
theorem tw_14 : Cond.initialized "java/lang/System" ∈ zt := zk_0 (List.mem_of_getElem? (i := 14) rfl) (by decide +kernel)
theorem tw_15 : Cond.initialized "java/lang/Long" ∈ zt := zk_0 (List.mem_of_getElem? (i := 15) rfl) (by decide +kernel)
theorem tw_16 : Cond.classLink "WholeDeskLaw" 8 "WholeDesk" ∈ zt := zk_0 (List.mem_of_getElem? (i := 16) rfl) (by decide +kernel)
theorem tw_17 : Cond.instantiable "WholeDesk" 4 ∈ zt := zk_0 (List.mem_of_getElem? (i := 17) rfl) (by decide +kernel)
theorem tw_18 : Cond.methodLink "WholeDeskLaw" 77 ⟨"WholeDesk", "<init>", "()V"⟩ ∈ zt := zk_0 (List.mem_of_getElem? (i := 18) rfl) (by decide +kernel)
theorem tw_19 : Cond.instanceMethod ⟨"WholeDesk", "<init>", "()V"⟩ ∈ zt := zk_0 (List.mem_of_getElem? (i := 19) rfl) (by decide +kernel)
theorem tw_20 : Cond.code ⟨"WholeDesk", "<init>", "()V"⟩ prog_1_method_1_code 2 none ∈ zt := zk_1 (List.mem_of_getElem? (i := 0) rfl) (by decide +kernel)
theorem tw_21 : Cond.methodLink "WholeDesk" 1 ⟨"java/lang/Object", "<init>", "()V"⟩ ∈ zt := zk_1 (List.mem_of_getElem? (i := 1) rfl) (by decide +kernel)
theorem tw_22 : Cond.instanceMethod ⟨"java/lang/Object", "<init>", "()V"⟩ ∈ zt := zk_1 (List.mem_of_getElem? (i := 2) rfl) (by decide +kernel)
theorem tw_23 : Cond.code ⟨"java/lang/Object", "<init>", "()V"⟩ object_method_1_code 1 none ∈ zt := zk_1 (List.mem_of_getElem? (i := 3) rfl) (by decide +kernel)
theorem tw_24 : Cond.classLink "WholeDesk" 9 "WholeDesk$Whole" ∈ zt := zk_1 (List.mem_of_getElem? (i := 4) rfl) (by decide +kernel)
theorem tw_26 : Cond.instantiable "WholeDesk$Whole" 3 ∈ zt := zk_1 (List.mem_of_getElem? (i := 6) rfl) (by decide +kernel)
theorem tw_27 : Cond.methodLink "WholeDesk" 15 ⟨"WholeDesk$Whole", "<init>", "()V"⟩ ∈ zt := zk_1 (List.mem_of_getElem? (i := 7) rfl) (by decide +kernel)
theorem tw_28 : Cond.instanceMethod ⟨"WholeDesk$Whole", "<init>", "()V"⟩ ∈ zt := zk_1 (List.mem_of_getElem? (i := 8) rfl) (by decide +kernel)
theorem tw_29 : Cond.code ⟨"WholeDesk$Whole", "<init>", "()V"⟩ prog_4_method_1_code 1 none ∈ zt := zk_1 (List.mem_of_getElem? (i := 9) rfl) (by decide +kernel)
theorem tw_30 : Cond.methodLink "WholeDesk$Whole" 5 ⟨"java/lang/Object", "<init>", "()V"⟩ ∈ zt := zk_1 (List.mem_of_getElem? (i := 10) rfl) (by decide +kernel)
theorem tw_31 : Cond.fieldLink "WholeDesk$Whole" 11 "WholeDesk$Whole" "limbs" "[J" ∈ zt := zk_1 (List.mem_of_getElem? (i := 11) rfl) (by decide +kernel)
theorem tw_32 : Cond.fieldLink "WholeDesk$Reckoner" 149 "WholeDesk$Whole" "limbs" "[J" ∈ zt := zk_1 (List.mem_of_getElem? (i := 12) rfl) (by decide +kernel)
theorem tw_33 : Cond.fieldLink "WholeDesk$Reckoner" 51 "WholeDesk$Whole" "count" "I" ∈ zt := zk_1 (List.mem_of_getElem? (i := 13) rfl) (by decide +kernel)
theorem tw_34 : Cond.fieldLink "WholeDesk$Whole" 17 "WholeDesk$Whole" "count" "I" ∈ zt := zk_1 (List.mem_of_getElem? (i := 14) rfl) (by decide +kernel)
theorem tw_35 : Cond.fieldLink "WholeDesk$Writing" 34 "WholeDesk$Whole" "count" "I" ∈ zt := zk_1 (List.mem_of_getElem? (i := 15) rfl) (by decide +kernel)
theorem tw_36 : Cond.fieldLink "WholeDesk$Draft" 42 "WholeDesk$Whole" "count" "I" ∈ zt := zk_1 (List.mem_of_getElem? (i := 16) rfl) (by decide +kernel)
theorem tw_37 : Cond.fieldLink "WholeDesk" 88 "WholeDesk$Whole" "count" "I" ∈ zt := zk_1 (List.mem_of_getElem? (i := 17) rfl) (by decide +kernel)
theorem tw_38 : Cond.fieldLink "WholeDesk$Reckoner" 43 "WholeDesk$Whole" "below" "Z" ∈ zt := zk_1 (List.mem_of_getElem? (i := 18) rfl) (by decide +kernel)
theorem tw_39 : Cond.fieldLink "WholeDesk$Whole" 21 "WholeDesk$Whole" "below" "Z" ∈ zt := zk_1 (List.mem_of_getElem? (i := 19) rfl) (by decide +kernel)
theorem tw_40 : Cond.fieldLink "WholeDesk$Writing" 45 "WholeDesk$Whole" "below" "Z" ∈ zt := zk_2 (List.mem_of_getElem? (i := 0) rfl) (by decide +kernel)
theorem tw_41 : Cond.fieldLink "WholeDesk$Draft" 49 "WholeDesk$Whole" "below" "Z" ∈ zt := zk_2 (List.mem_of_getElem? (i := 1) rfl) (by decide +kernel)
theorem tw_42 : Cond.fieldLink "WholeDesk" 128 "WholeDesk$Whole" "below" "Z" ∈ zt := zk_2 (List.mem_of_getElem? (i := 2) rfl) (by decide +kernel)
theorem tw_43 : Cond.laysFinal "WholeDesk$Whole" "WholeDesk$Whole" "limbs" "[J" ∈ zt := zk_2 (List.mem_of_getElem? (i := 3) rfl) (by decide +kernel)
theorem tw_45 : Cond.lays "WholeDesk$Whole" "WholeDesk$Whole" "count" "I" ∈ zt := zk_2 (List.mem_of_getElem? (i := 5) rfl) (by decide +kernel)
theorem tw_47 : Cond.lays "WholeDesk$Whole" "WholeDesk$Whole" "below" "Z" ∈ zt := zk_2 (List.mem_of_getElem? (i := 7) rfl) (by decide +kernel)
theorem tw_50 : Cond.arrayClass FieldType.long ∈ zt := zk_2 (List.mem_of_getElem? (i := 10) rfl) (by decide +kernel)
theorem tw_51 : Cond.classLink "WholeDesk" 16 "WholeDesk$Reckoner" ∈ zt := zk_2 (List.mem_of_getElem? (i := 11) rfl) (by decide +kernel)
theorem tw_52 : Cond.instantiable "WholeDesk$Reckoner" 9 ∈ zt := zk_2 (List.mem_of_getElem? (i := 12) rfl) (by decide +kernel)
theorem tw_53 : Cond.methodLink "WholeDesk" 18 ⟨"WholeDesk$Reckoner", "<init>", "()V"⟩ ∈ zt := zk_2 (List.mem_of_getElem? (i := 13) rfl) (by decide +kernel)
theorem tw_54 : Cond.instanceMethod ⟨"WholeDesk$Reckoner", "<init>", "()V"⟩ ∈ zt := zk_2 (List.mem_of_getElem? (i := 14) rfl) (by decide +kernel)
theorem tw_55 : Cond.code ⟨"WholeDesk$Reckoner", "<init>", "()V"⟩ prog_3_method_1_code 2 none ∈ zt := zk_2 (List.mem_of_getElem? (i := 15) rfl) (by decide +kernel)
theorem tw_56 : Cond.methodLink "WholeDesk$Reckoner" 3 ⟨"java/lang/Object", "<init>", "()V"⟩ ∈ zt := zk_2 (List.mem_of_getElem? (i := 16) rfl) (by decide +kernel)
theorem tw_57 : Cond.classLink "WholeDesk$Reckoner" 9 "WholeDesk$Whole" ∈ zt := zk_2 (List.mem_of_getElem? (i := 17) rfl) (by decide +kernel)
theorem tw_58 : Cond.methodLink "WholeDesk$Reckoner" 11 ⟨"WholeDesk$Whole", "<init>", "()V"⟩ ∈ zt := zk_2 (List.mem_of_getElem? (i := 18) rfl) (by decide +kernel)
theorem tw_59 : Cond.fieldLink "WholeDesk$Reckoner" 12 "WholeDesk$Reckoner" "quotient" "LWholeDesk$Whole;" ∈ zt := zk_2 (List.mem_of_getElem? (i := 19) rfl) (by decide +kernel)
theorem tw_60 : Cond.fieldLink "WholeDesk" 98 "WholeDesk$Reckoner" "quotient" "LWholeDesk$Whole;" ∈ zt := zk_3 (List.mem_of_getElem? (i := 0) rfl) (by decide +kernel)
theorem tw_61 : Cond.fieldLink "WholeDesk$Reckoner" 18 "WholeDesk$Reckoner" "rest" "LWholeDesk$Whole;" ∈ zt := zk_3 (List.mem_of_getElem? (i := 1) rfl) (by decide +kernel)
theorem tw_62 : Cond.fieldLink "WholeDesk" 102 "WholeDesk$Reckoner" "rest" "LWholeDesk$Whole;" ∈ zt := zk_3 (List.mem_of_getElem? (i := 2) rfl) (by decide +kernel)
theorem tw_63 : Cond.fieldLink "WholeDesk$Reckoner" 21 "WholeDesk$Reckoner" "answer" "LWholeDesk$Whole;" ∈ zt := zk_3 (List.mem_of_getElem? (i := 3) rfl) (by decide +kernel)
theorem tw_64 : Cond.fieldLink "WholeDesk$Reckoner" 24 "WholeDesk$Reckoner" "spare" "LWholeDesk$Whole;" ∈ zt := zk_3 (List.mem_of_getElem? (i := 4) rfl) (by decide +kernel)
theorem tw_65 : Cond.fieldLink "WholeDesk$Reckoner" 27 "WholeDesk$Reckoner" "first" "LWholeDesk$Whole;" ∈ zt := zk_3 (List.mem_of_getElem? (i := 5) rfl) (by decide +kernel)
theorem tw_66 : Cond.fieldLink "WholeDesk$Reckoner" 30 "WholeDesk$Reckoner" "second" "LWholeDesk$Whole;" ∈ zt := zk_3 (List.mem_of_getElem? (i := 6) rfl) (by decide +kernel)
theorem tw_67 : Cond.fieldLink "WholeDesk$Reckoner" 33 "WholeDesk$Reckoner" "third" "LWholeDesk$Whole;" ∈ zt := zk_3 (List.mem_of_getElem? (i := 7) rfl) (by decide +kernel)
theorem tw_68 : Cond.fieldLink "WholeDesk$Reckoner" 36 "WholeDesk$Reckoner" "fourth" "LWholeDesk$Whole;" ∈ zt := zk_3 (List.mem_of_getElem? (i := 8) rfl) (by decide +kernel)
theorem tw_69 : Cond.fieldLink "WholeDesk$Reckoner" 39 "WholeDesk$Reckoner" "powers" "[LWholeDesk$Whole;" ∈ zt := zk_3 (List.mem_of_getElem? (i := 9) rfl) (by decide +kernel)
theorem tw_70 : Cond.laysFinal "WholeDesk$Reckoner" "WholeDesk$Reckoner" "quotient" "LWholeDesk$Whole;" ∈ zt := zk_3 (List.mem_of_getElem? (i := 10) rfl) (by decide +kernel)
theorem tw_72 : Cond.laysFinal "WholeDesk$Reckoner" "WholeDesk$Reckoner" "rest" "LWholeDesk$Whole;" ∈ zt := zk_3 (List.mem_of_getElem? (i := 12) rfl) (by decide +kernel)
theorem tw_74 : Cond.lays "WholeDesk$Reckoner" "WholeDesk$Reckoner" "answer" "LWholeDesk$Whole;" ∈ zt := zk_3 (List.mem_of_getElem? (i := 14) rfl) (by decide +kernel)
theorem tw_76 : Cond.lays "WholeDesk$Reckoner" "WholeDesk$Reckoner" "spare" "LWholeDesk$Whole;" ∈ zt := zk_3 (List.mem_of_getElem? (i := 16) rfl) (by decide +kernel)
theorem tw_78 : Cond.laysFinal "WholeDesk$Reckoner" "WholeDesk$Reckoner" "first" "LWholeDesk$Whole;" ∈ zt := zk_3 (List.mem_of_getElem? (i := 18) rfl) (by decide +kernel)
theorem tw_80 : Cond.laysFinal "WholeDesk$Reckoner" "WholeDesk$Reckoner" "second" "LWholeDesk$Whole;" ∈ zt := zk_4 (List.mem_of_getElem? (i := 0) rfl) (by decide +kernel)
theorem tw_82 : Cond.laysFinal "WholeDesk$Reckoner" "WholeDesk$Reckoner" "third" "LWholeDesk$Whole;" ∈ zt := zk_4 (List.mem_of_getElem? (i := 2) rfl) (by decide +kernel)
theorem tw_84 : Cond.laysFinal "WholeDesk$Reckoner" "WholeDesk$Reckoner" "fourth" "LWholeDesk$Whole;" ∈ zt := zk_4 (List.mem_of_getElem? (i := 4) rfl) (by decide +kernel)
theorem tw_86 : Cond.laysFinal "WholeDesk$Reckoner" "WholeDesk$Reckoner" "powers" "[LWholeDesk$Whole;" ∈ zt := zk_4 (List.mem_of_getElem? (i := 6) rfl) (by decide +kernel)
theorem tw_89 : Cond.classLink "WholeDesk" 23 "WholeDesk$Draft" ∈ zt := zk_4 (List.mem_of_getElem? (i := 9) rfl) (by decide +kernel)
theorem tw_90 : Cond.instantiable "WholeDesk$Draft" 3 ∈ zt := zk_4 (List.mem_of_getElem? (i := 10) rfl) (by decide +kernel)
theorem tw_91 : Cond.methodLink "WholeDesk" 25 ⟨"WholeDesk$Draft", "<init>", "()V"⟩ ∈ zt := zk_4 (List.mem_of_getElem? (i := 11) rfl) (by decide +kernel)
theorem tw_92 : Cond.instanceMethod ⟨"WholeDesk$Draft", "<init>", "()V"⟩ ∈ zt := zk_4 (List.mem_of_getElem? (i := 12) rfl) (by decide +kernel)
theorem tw_93 : Cond.code ⟨"WholeDesk$Draft", "<init>", "()V"⟩ prog_2_method_1_code 1 none ∈ zt := zk_4 (List.mem_of_getElem? (i := 13) rfl) (by decide +kernel)
theorem tw_94 : Cond.methodLink "WholeDesk$Draft" 5 ⟨"java/lang/Object", "<init>", "()V"⟩ ∈ zt := zk_4 (List.mem_of_getElem? (i := 14) rfl) (by decide +kernel)
theorem tw_95 : Cond.classLink "WholeDesk$Draft" 1 "WholeDesk$Whole" ∈ zt := zk_4 (List.mem_of_getElem? (i := 15) rfl) (by decide +kernel)
theorem tw_96 : Cond.methodLink "WholeDesk$Draft" 17 ⟨"WholeDesk$Whole", "<init>", "()V"⟩ ∈ zt := zk_4 (List.mem_of_getElem? (i := 16) rfl) (by decide +kernel)
theorem tw_97 : Cond.fieldLink "WholeDesk$Draft" 22 "WholeDesk$Draft" "count" "I" ∈ zt := zk_4 (List.mem_of_getElem? (i := 17) rfl) (by decide +kernel)
theorem tw_98 : Cond.fieldLink "WholeDesk" 48 "WholeDesk$Draft" "count" "I" ∈ zt := zk_4 (List.mem_of_getElem? (i := 18) rfl) (by decide +kernel)
theorem tw_99 : Cond.fieldLink "WholeDesk$Draft" 11 "WholeDesk$Draft" "characters" "[B" ∈ zt := zk_4 (List.mem_of_getElem? (i := 19) rfl) (by decide +kernel)
theorem tw_100 : Cond.fieldLink "WholeDesk$Draft" 18 "WholeDesk$Draft" "value" "LWholeDesk$Whole;" ∈ zt := zk_5 (List.mem_of_getElem? (i := 0) rfl) (by decide +kernel)
theorem tw_101 : Cond.lays "WholeDesk$Draft" "WholeDesk$Draft" "count" "I" ∈ zt := zk_5 (List.mem_of_getElem? (i := 1) rfl) (by decide +kernel)
theorem tw_103 : Cond.laysFinal "WholeDesk$Draft" "WholeDesk$Draft" "characters" "[B" ∈ zt := zk_5 (List.mem_of_getElem? (i := 3) rfl) (by decide +kernel)
theorem tw_105 : Cond.laysFinal "WholeDesk$Draft" "WholeDesk$Draft" "value" "LWholeDesk$Whole;" ∈ zt := zk_5 (List.mem_of_getElem? (i := 5) rfl) (by decide +kernel)
theorem tw_108 : Cond.arrayClass FieldType.byte ∈ zt := zk_5 (List.mem_of_getElem? (i := 8) rfl) (by decide +kernel)
theorem tw_109 : Cond.classLink "WholeDesk" 30 "WholeDesk$Writing" ∈ zt := zk_5 (List.mem_of_getElem? (i := 9) rfl) (by decide +kernel)
theorem tw_110 : Cond.instantiable "WholeDesk$Writing" 3 ∈ zt := zk_5 (List.mem_of_getElem? (i := 10) rfl) (by decide +kernel)
theorem tw_111 : Cond.methodLink "WholeDesk" 32 ⟨"WholeDesk$Writing", "<init>", "()V"⟩ ∈ zt := zk_5 (List.mem_of_getElem? (i := 11) rfl) (by decide +kernel)
theorem tw_112 : Cond.instanceMethod ⟨"WholeDesk$Writing", "<init>", "()V"⟩ ∈ zt := zk_5 (List.mem_of_getElem? (i := 12) rfl) (by decide +kernel)
theorem tw_113 : Cond.code ⟨"WholeDesk$Writing", "<init>", "()V"⟩ prog_5_method_1_code 1 none ∈ zt := zk_5 (List.mem_of_getElem? (i := 13) rfl) (by decide +kernel)
theorem tw_114 : Cond.methodLink "WholeDesk$Writing" 3 ⟨"java/lang/Object", "<init>", "()V"⟩ ∈ zt := zk_5 (List.mem_of_getElem? (i := 14) rfl) (by decide +kernel)
theorem tw_115 : Cond.classLink "WholeDesk$Writing" 19 "WholeDesk$Whole" ∈ zt := zk_5 (List.mem_of_getElem? (i := 15) rfl) (by decide +kernel)
theorem tw_116 : Cond.methodLink "WholeDesk$Writing" 21 ⟨"WholeDesk$Whole", "<init>", "()V"⟩ ∈ zt := zk_5 (List.mem_of_getElem? (i := 16) rfl) (by decide +kernel)
theorem tw_117 : Cond.fieldLink "WholeDesk$Writing" 11 "WholeDesk$Writing" "row" "[B" ∈ zt := zk_5 (List.mem_of_getElem? (i := 17) rfl) (by decide +kernel)
theorem tw_118 : Cond.fieldLink "WholeDesk$Writing" 15 "WholeDesk$Writing" "start" "I" ∈ zt := zk_5 (List.mem_of_getElem? (i := 18) rfl) (by decide +kernel)
theorem tw_119 : Cond.fieldLink "WholeDesk$Writing" 22 "WholeDesk$Writing" "left" "LWholeDesk$Whole;" ∈ zt := zk_5 (List.mem_of_getElem? (i := 19) rfl) (by decide +kernel)
theorem tw_120 : Cond.laysFinal "WholeDesk$Writing" "WholeDesk$Writing" "row" "[B" ∈ zt := zk_6 (List.mem_of_getElem? (i := 0) rfl) (by decide +kernel)
theorem tw_122 : Cond.lays "WholeDesk$Writing" "WholeDesk$Writing" "start" "I" ∈ zt := zk_6 (List.mem_of_getElem? (i := 2) rfl) (by decide +kernel)
theorem tw_124 : Cond.laysFinal "WholeDesk$Writing" "WholeDesk$Writing" "left" "LWholeDesk$Whole;" ∈ zt := zk_6 (List.mem_of_getElem? (i := 4) rfl) (by decide +kernel)
theorem tw_127 : Cond.fieldLink "WholeDesk" 11 "WholeDesk" "registers" "[LWholeDesk$Whole;" ∈ zt := zk_6 (List.mem_of_getElem? (i := 7) rfl) (by decide +kernel)
theorem tw_128 : Cond.fieldLink "WholeDesk" 19 "WholeDesk" "reckoner" "LWholeDesk$Reckoner;" ∈ zt := zk_6 (List.mem_of_getElem? (i := 8) rfl) (by decide +kernel)
theorem tw_129 : Cond.fieldLink "WholeDesk" 26 "WholeDesk" "draft" "LWholeDesk$Draft;" ∈ zt := zk_6 (List.mem_of_getElem? (i := 9) rfl) (by decide +kernel)
theorem tw_130 : Cond.fieldLink "WholeDesk" 33 "WholeDesk" "writing" "LWholeDesk$Writing;" ∈ zt := zk_6 (List.mem_of_getElem? (i := 10) rfl) (by decide +kernel)
theorem tw_131 : Cond.laysFinal "WholeDesk" "WholeDesk" "registers" "[LWholeDesk$Whole;" ∈ zt := zk_6 (List.mem_of_getElem? (i := 11) rfl) (by decide +kernel)
theorem tw_133 : Cond.laysFinal "WholeDesk" "WholeDesk" "reckoner" "LWholeDesk$Reckoner;" ∈ zt := zk_6 (List.mem_of_getElem? (i := 13) rfl) (by decide +kernel)
theorem tw_135 : Cond.laysFinal "WholeDesk" "WholeDesk" "draft" "LWholeDesk$Draft;" ∈ zt := zk_6 (List.mem_of_getElem? (i := 15) rfl) (by decide +kernel)
theorem tw_137 : Cond.laysFinal "WholeDesk" "WholeDesk" "writing" "LWholeDesk$Writing;" ∈ zt := zk_6 (List.mem_of_getElem? (i := 17) rfl) (by decide +kernel)
theorem tw_140 : Cond.methodLink "WholeDeskLaw" 93 ⟨"WholeDesk", "wipe", "()I"⟩ ∈ zt := zk_7 (List.mem_of_getElem? (i := 0) rfl) (by decide +kernel)
theorem tw_141 : Cond.instanceMethod ⟨"WholeDesk", "wipe", "()I"⟩ ∈ zt := zk_7 (List.mem_of_getElem? (i := 1) rfl) (by decide +kernel)
theorem tw_142 : Cond.selects "WholeDesk" ⟨"WholeDesk", "wipe", "()I"⟩ ⟨"WholeDesk", "wipe", "()I"⟩ ∈ zt := zk_7 (List.mem_of_getElem? (i := 2) rfl) (by decide +kernel)
theorem tw_143 : Cond.code ⟨"WholeDesk", "wipe", "()I"⟩ prog_1_method_3_code 2 (some .int) ∈ zt := zk_7 (List.mem_of_getElem? (i := 3) rfl) (by decide +kernel)
theorem tw_144 : Cond.methodLink "WholeDeskLaw" 154 ⟨"WholeDesk", "text", "(I)J"⟩ ∈ zt := zk_7 (List.mem_of_getElem? (i := 4) rfl) (by decide +kernel)
theorem tw_145 : Cond.instanceMethod ⟨"WholeDesk", "text", "(I)J"⟩ ∈ zt := zk_7 (List.mem_of_getElem? (i := 5) rfl) (by decide +kernel)
theorem tw_146 : Cond.selects "WholeDesk" ⟨"WholeDesk", "text", "(I)J"⟩ ⟨"WholeDesk", "text", "(I)J"⟩ ∈ zt := zk_7 (List.mem_of_getElem? (i := 6) rfl) (by decide +kernel)
theorem tw_147 : Cond.code ⟨"WholeDesk", "text", "(I)J"⟩ prog_1_method_21_code 2 (some .long) ∈ zt := zk_7 (List.mem_of_getElem? (i := 7) rfl) (by decide +kernel)
theorem tw_148 : Cond.methodLink "WholeDesk" 197 ⟨"WholeDesk$Writing", "eightFrom", "(I)J"⟩ ∈ zt := zk_7 (List.mem_of_getElem? (i := 8) rfl) (by decide +kernel)
theorem tw_149 : Cond.instanceMethod ⟨"WholeDesk$Writing", "eightFrom", "(I)J"⟩ ∈ zt := zk_7 (List.mem_of_getElem? (i := 9) rfl) (by decide +kernel)
theorem tw_150 : Cond.selects "WholeDesk$Writing" ⟨"WholeDesk$Writing", "eightFrom", "(I)J"⟩ ⟨"WholeDesk$Writing", "eightFrom", "(I)J"⟩ ∈ zt := zk_7 (List.mem_of_getElem? (i := 10) rfl) (by decide +kernel)
theorem tw_151 : Cond.code ⟨"WholeDesk$Writing", "eightFrom", "(I)J"⟩ prog_5_method_6_code 5 (some .long) ∈ zt := zk_7 (List.mem_of_getElem? (i := 11) rfl) (by decide +kernel)
theorem tw_152 : Cond.methodLink "WholeDesk$Writing" 55 ⟨"WholeDesk$Writing", "characterAt", "(J)I"⟩ ∈ zt := zk_7 (List.mem_of_getElem? (i := 12) rfl) (by decide +kernel)
theorem tw_154 : Cond.instanceMethod ⟨"WholeDesk$Writing", "characterAt", "(J)I"⟩ ∈ zt := zk_7 (List.mem_of_getElem? (i := 14) rfl) (by decide +kernel)
theorem tw_155 : Cond.code ⟨"WholeDesk$Writing", "characterAt", "(J)I"⟩ prog_5_method_7_code 3 (some .int) ∈ zt := zk_7 (List.mem_of_getElem? (i := 15) rfl) (by decide +kernel)
theorem tw_156 : Cond.methodLink "WholeDeskLaw" 83 ⟨"WholeDeskLaw", "write", "(LWholeDesk;IJ[J)I"⟩ ∈ zt := zk_7 (List.mem_of_getElem? (i := 16) rfl) (by decide +kernel)
theorem tw_157 : Cond.static ⟨"WholeDeskLaw", "write", "(LWholeDesk;IJ[J)I"⟩ ∈ zt := zk_7 (List.mem_of_getElem? (i := 17) rfl) (by decide +kernel)
theorem tw_158 : Cond.codeWith ⟨"WholeDeskLaw", "write", "(LWholeDesk;IJ[J)I"⟩ method_3_code 6 (some .int) [(0, 11, 14, 13)] ∈ zt := zk_7 (List.mem_of_getElem? (i := 18) rfl) (by decide +kernel)
theorem tw_159 : Cond.classLink "WholeDeskLaw" 13 "java/lang/IllegalArgumentException" ∈ zt := zk_7 (List.mem_of_getElem? (i := 19) rfl) (by decide +kernel)
theorem tw_160 : Cond.methodLink "WholeDeskLaw" 7 ⟨"WholeDesk", "write", "(IJ)I"⟩ ∈ zt := zk_8 (List.mem_of_getElem? (i := 0) rfl) (by decide +kernel)
theorem tw_161 : Cond.instanceMethod ⟨"WholeDesk", "write", "(IJ)I"⟩ ∈ zt := zk_8 (List.mem_of_getElem? (i := 1) rfl) (by decide +kernel)
theorem tw_162 : Cond.selects "WholeDesk" ⟨"WholeDesk", "write", "(IJ)I"⟩ ⟨"WholeDesk", "write", "(IJ)I"⟩ ∈ zt := zk_8 (List.mem_of_getElem? (i := 2) rfl) (by decide +kernel)
theorem tw_163 : Cond.code ⟨"WholeDesk", "write", "(IJ)I"⟩ prog_1_method_2_code 4 (some .int) ∈ zt := zk_8 (List.mem_of_getElem? (i := 3) rfl) (by decide +kernel)
theorem tw_164 : Cond.classLink "WholeDesk" 37 "java/lang/IllegalArgumentException" ∈ zt := zk_8 (List.mem_of_getElem? (i := 4) rfl) (by decide +kernel)
theorem tw_165 : Cond.instantiable "java/lang/IllegalArgumentException" 6 ∈ zt := zk_8 (List.mem_of_getElem? (i := 5) rfl) (by decide +kernel)
theorem tw_173 : Cond.selects "java/lang/IllegalArgumentException" ⟨"java/lang/Throwable", "fillInStackTrace", "(I)Ljava/lang/Throwable;"⟩ ⟨"java/lang/Throwable", "fillInStackTrace", "(I)Ljava/lang/Throwable;"⟩ ∈ zt := zk_8 (List.mem_of_getElem? (i := 13) rfl) (by decide +kernel)
theorem tw_174 : Cond.selects "java/lang/IllegalArgumentException" ⟨"java/lang/Throwable", "fillInStackTrace", "()Ljava/lang/Throwable;"⟩ ⟨"java/lang/Throwable", "fillInStackTrace", "()Ljava/lang/Throwable;"⟩ ∈ zt := zk_8 (List.mem_of_getElem? (i := 14) rfl) (by decide +kernel)
theorem tw_175 : Cond.lays "java/lang/IllegalArgumentException" "java/lang/Throwable" "cause" "Ljava/lang/Throwable;" ∈ zt := zk_8 (List.mem_of_getElem? (i := 15) rfl) (by decide +kernel)
theorem tw_176 : Cond.lays "java/lang/Throwable" "java/lang/Throwable" "cause" "Ljava/lang/Throwable;" ∈ zt := zk_8 (List.mem_of_getElem? (i := 16) rfl) (by decide +kernel)
theorem tw_177 : Cond.lays "java/lang/IllegalArgumentException" "java/lang/Throwable" "stackTrace" "[Ljava/lang/StackTraceElement;" ∈ zt := zk_8 (List.mem_of_getElem? (i := 17) rfl) (by decide +kernel)
theorem tw_178 : Cond.lays "java/lang/Throwable" "java/lang/Throwable" "stackTrace" "[Ljava/lang/StackTraceElement;" ∈ zt := zk_8 (List.mem_of_getElem? (i := 18) rfl) (by decide +kernel)
theorem tw_179 : Cond.lays "java/lang/IllegalArgumentException" "java/lang/Throwable" "suppressedExceptions" "Ljava/util/List;" ∈ zt := zk_8 (List.mem_of_getElem? (i := 19) rfl) (by decide +kernel)
theorem tw_180 : Cond.lays "java/lang/Throwable" "java/lang/Throwable" "suppressedExceptions" "Ljava/util/List;" ∈ zt := zk_9 (List.mem_of_getElem? (i := 0) rfl) (by decide +kernel)
theorem tw_181 : Cond.lays "java/lang/IllegalArgumentException" "java/lang/Throwable" "detailMessage" "Ljava/lang/String;" ∈ zt := zk_9 (List.mem_of_getElem? (i := 1) rfl) (by decide +kernel)
theorem tw_182 : Cond.lays "java/lang/Throwable" "java/lang/Throwable" "detailMessage" "Ljava/lang/String;" ∈ zt := zk_9 (List.mem_of_getElem? (i := 2) rfl) (by decide +kernel)
theorem tw_183 : Cond.lays "java/lang/IllegalArgumentException" "java/lang/Throwable" "backtrace" "Ljava/lang/Object;" ∈ zt := zk_9 (List.mem_of_getElem? (i := 3) rfl) (by decide +kernel)
theorem tw_184 : Cond.lays "java/lang/Throwable" "java/lang/Throwable" "backtrace" "Ljava/lang/Object;" ∈ zt := zk_9 (List.mem_of_getElem? (i := 4) rfl) (by decide +kernel)
theorem tw_185 : Cond.fieldLink "java/lang/Throwable" 198 "java/lang/Throwable" "backtrace" "Ljava/lang/Object;" ∈ zt := zk_9 (List.mem_of_getElem? (i := 5) rfl) (by decide +kernel)
theorem tw_187 : Cond.instanceMethod ⟨"java/lang/Throwable", "<init>", "()V"⟩ ∈ zt := zk_9 (List.mem_of_getElem? (i := 7) rfl) (by decide +kernel)
theorem tw_188 : Cond.code ⟨"java/lang/Throwable", "<init>", "()V"⟩ prog_17_method_1_code 1 none ∈ zt := zk_9 (List.mem_of_getElem? (i := 8) rfl) (by decide +kernel)
theorem tw_189 : Cond.methodLink "java/lang/Throwable" 1 ⟨"java/lang/Object", "<init>", "()V"⟩ ∈ zt := zk_9 (List.mem_of_getElem? (i := 9) rfl) (by decide +kernel)
theorem tw_190 : Cond.fieldLink "java/lang/Throwable" 13 "java/lang/Throwable" "UNASSIGNED_STACK" "[Ljava/lang/StackTraceElement;" ∈ zt := zk_9 (List.mem_of_getElem? (i := 10) rfl) (by decide +kernel)
theorem tw_192 : Cond.fieldLink "java/lang/Throwable" 20 "java/lang/Throwable" "SUPPRESSED_SENTINEL" "Ljava/util/List;" ∈ zt := zk_9 (List.mem_of_getElem? (i := 12) rfl) (by decide +kernel)
theorem tw_194 : Cond.methodLink "java/lang/Throwable" 27 ⟨"java/lang/Throwable", "fillInStackTrace", "()Ljava/lang/Throwable;"⟩ ∈ zt := zk_9 (List.mem_of_getElem? (i := 14) rfl) (by decide +kernel)
theorem tw_195 : Cond.instanceMethod ⟨"java/lang/Throwable", "fillInStackTrace", "()Ljava/lang/Throwable;"⟩ ∈ zt := zk_9 (List.mem_of_getElem? (i := 15) rfl) (by decide +kernel)
theorem tw_197 : Cond.selects "java/lang/ArithmeticException" ⟨"java/lang/Throwable", "fillInStackTrace", "()Ljava/lang/Throwable;"⟩ ⟨"java/lang/Throwable", "fillInStackTrace", "()Ljava/lang/Throwable;"⟩ ∈ zt := zk_9 (List.mem_of_getElem? (i := 17) rfl) (by decide +kernel)
theorem tw_198 : Cond.selects "java/lang/IllegalStateException" ⟨"java/lang/Throwable", "fillInStackTrace", "()Ljava/lang/Throwable;"⟩ ⟨"java/lang/Throwable", "fillInStackTrace", "()Ljava/lang/Throwable;"⟩ ∈ zt := zk_9 (List.mem_of_getElem? (i := 18) rfl) (by decide +kernel)
theorem tw_200 : Cond.methodLink "java/lang/Throwable" 202 ⟨"java/lang/Throwable", "fillInStackTrace", "(I)Ljava/lang/Throwable;"⟩ ∈ zt := zk_10 (List.mem_of_getElem? (i := 0) rfl) (by decide +kernel)
theorem tw_202 : Cond.instanceMethod ⟨"java/lang/Throwable", "fillInStackTrace", "(I)Ljava/lang/Throwable;"⟩ ∈ zt := zk_10 (List.mem_of_getElem? (i := 2) rfl) (by decide +kernel)
theorem tw_203 : Cond.instantiable "java/lang/Throwable" 6 ∈ zt := zk_10 (List.mem_of_getElem? (i := 3) rfl) (by decide +kernel)
theorem tw_204 : Cond.native ⟨"java/lang/Throwable", "fillInStackTrace", "(I)Ljava/lang/Throwable;"⟩ ∈ zt := zk_10 (List.mem_of_getElem? (i := 4) rfl) (by decide +kernel)
theorem tw_206 : Cond.methodLink "WholeDesk" 41 ⟨"java/lang/IllegalArgumentException", "<init>", "(Ljava/lang/String;)V"⟩ ∈ zt := zk_10 (List.mem_of_getElem? (i := 6) rfl) (by decide +kernel)
theorem tw_207 : Cond.instanceMethod ⟨"java/lang/IllegalArgumentException", "<init>", "(Ljava/lang/String;)V"⟩ ∈ zt := zk_10 (List.mem_of_getElem? (i := 7) rfl) (by decide +kernel)
theorem tw_208 : Cond.code ⟨"java/lang/IllegalArgumentException", "<init>", "(Ljava/lang/String;)V"⟩ prog_10_method_2_code 2 none ∈ zt := zk_10 (List.mem_of_getElem? (i := 8) rfl) (by decide +kernel)
theorem tw_209 : Cond.methodLink "java/lang/IllegalArgumentException" 7 ⟨"java/lang/RuntimeException", "<init>", "(Ljava/lang/String;)V"⟩ ∈ zt := zk_10 (List.mem_of_getElem? (i := 9) rfl) (by decide +kernel)
theorem tw_210 : Cond.instanceMethod ⟨"java/lang/RuntimeException", "<init>", "(Ljava/lang/String;)V"⟩ ∈ zt := zk_10 (List.mem_of_getElem? (i := 10) rfl) (by decide +kernel)
theorem tw_211 : Cond.code ⟨"java/lang/RuntimeException", "<init>", "(Ljava/lang/String;)V"⟩ prog_14_method_2_code 2 none ∈ zt := zk_10 (List.mem_of_getElem? (i := 11) rfl) (by decide +kernel)
theorem tw_212 : Cond.methodLink "java/lang/RuntimeException" 7 ⟨"java/lang/Exception", "<init>", "(Ljava/lang/String;)V"⟩ ∈ zt := zk_10 (List.mem_of_getElem? (i := 12) rfl) (by decide +kernel)
theorem tw_213 : Cond.instanceMethod ⟨"java/lang/Exception", "<init>", "(Ljava/lang/String;)V"⟩ ∈ zt := zk_10 (List.mem_of_getElem? (i := 13) rfl) (by decide +kernel)
theorem tw_214 : Cond.code ⟨"java/lang/Exception", "<init>", "(Ljava/lang/String;)V"⟩ prog_9_method_2_code 2 none ∈ zt := zk_10 (List.mem_of_getElem? (i := 14) rfl) (by decide +kernel)
theorem tw_215 : Cond.methodLink "java/lang/Exception" 7 ⟨"java/lang/Throwable", "<init>", "(Ljava/lang/String;)V"⟩ ∈ zt := zk_10 (List.mem_of_getElem? (i := 15) rfl) (by decide +kernel)
theorem tw_216 : Cond.instanceMethod ⟨"java/lang/Throwable", "<init>", "(Ljava/lang/String;)V"⟩ ∈ zt := zk_10 (List.mem_of_getElem? (i := 16) rfl) (by decide +kernel)
theorem tw_217 : Cond.code ⟨"java/lang/Throwable", "<init>", "(Ljava/lang/String;)V"⟩ prog_17_method_2_code 2 none ∈ zt := zk_10 (List.mem_of_getElem? (i := 17) rfl) (by decide +kernel)
theorem tw_218 : Cond.fieldLink "java/lang/Throwable" 198 "java/lang/Throwable" "backtrace" "Ljava/lang/Object;" ∈ zt := zk_10 (List.mem_of_getElem? (i := 18) rfl) (by decide +kernel)
theorem tw_219 : Cond.fieldLink "java/lang/Throwable" 31 "java/lang/Throwable" "detailMessage" "Ljava/lang/String;" ∈ zt := zk_10 (List.mem_of_getElem? (i := 19) rfl) (by decide +kernel)
theorem tw_220 : Cond.fieldLink "java/lang/Throwable" 7 "java/lang/Throwable" "cause" "Ljava/lang/Throwable;" ∈ zt := zk_11 (List.mem_of_getElem? (i := 0) rfl) (by decide +kernel)
theorem tw_221 : Cond.fieldLink "java/lang/Throwable" 17 "java/lang/Throwable" "stackTrace" "[Ljava/lang/StackTraceElement;" ∈ zt := zk_11 (List.mem_of_getElem? (i := 1) rfl) (by decide +kernel)
theorem tw_222 : Cond.fieldLink "java/lang/Throwable" 24 "java/lang/Throwable" "suppressedExceptions" "Ljava/util/List;" ∈ zt := zk_11 (List.mem_of_getElem? (i := 2) rfl) (by decide +kernel)
theorem tw_227 : Cond.lays "java/lang/IllegalArgumentException" "java/lang/Throwable" "depth" "I" ∈ zt := zk_11 (List.mem_of_getElem? (i := 7) rfl) (by decide +kernel)
theorem tw_231 : Cond.methodLink "WholeDesk" 44 ⟨"WholeDesk$Draft", "append", "(IJ)Z"⟩ ∈ zt := zk_11 (List.mem_of_getElem? (i := 11) rfl) (by decide +kernel)
theorem tw_232 : Cond.instanceMethod ⟨"WholeDesk$Draft", "append", "(IJ)Z"⟩ ∈ zt := zk_11 (List.mem_of_getElem? (i := 12) rfl) (by decide +kernel)
theorem tw_233 : Cond.selects "WholeDesk$Draft" ⟨"WholeDesk$Draft", "append", "(IJ)Z"⟩ ⟨"WholeDesk$Draft", "append", "(IJ)Z"⟩ ∈ zt := zk_11 (List.mem_of_getElem? (i := 13) rfl) (by decide +kernel)
theorem tw_234 : Cond.code ⟨"WholeDesk$Draft", "append", "(IJ)Z"⟩ prog_2_method_2_code 5 (some .boolean) ∈ zt := zk_11 (List.mem_of_getElem? (i := 14) rfl) (by decide +kernel)
theorem tw_235 : Cond.methodLink "WholeDeskLaw" 97 ⟨"WholeDeskLaw", "read", "(LWholeDesk;II)I"⟩ ∈ zt := zk_11 (List.mem_of_getElem? (i := 15) rfl) (by decide +kernel)
theorem tw_236 : Cond.static ⟨"WholeDeskLaw", "read", "(LWholeDesk;II)I"⟩ ∈ zt := zk_11 (List.mem_of_getElem? (i := 16) rfl) (by decide +kernel)
theorem tw_237 : Cond.codeWith ⟨"WholeDeskLaw", "read", "(LWholeDesk;II)I"⟩ method_4_code 4 (some .int) [(0, 6, 9, 13), (0, 6, 12, 19), (0, 6, 15, 21)] ∈ zt := zk_11 (List.mem_of_getElem? (i := 17) rfl) (by decide +kernel)
theorem tw_238 : Cond.classLink "WholeDeskLaw" 19 "java/lang/IllegalStateException" ∈ zt := zk_11 (List.mem_of_getElem? (i := 18) rfl) (by decide +kernel)
theorem tw_239 : Cond.classLink "WholeDeskLaw" 21 "java/lang/ArithmeticException" ∈ zt := zk_11 (List.mem_of_getElem? (i := 19) rfl) (by decide +kernel)
theorem tw_240 : Cond.methodLink "WholeDeskLaw" 15 ⟨"WholeDesk", "read", "(II)V"⟩ ∈ zt := zk_12 (List.mem_of_getElem? (i := 0) rfl) (by decide +kernel)
theorem tw_241 : Cond.instanceMethod ⟨"WholeDesk", "read", "(II)V"⟩ ∈ zt := zk_12 (List.mem_of_getElem? (i := 1) rfl) (by decide +kernel)
theorem tw_242 : Cond.selects "WholeDesk" ⟨"WholeDesk", "read", "(II)V"⟩ ⟨"WholeDesk", "read", "(II)V"⟩ ∈ zt := zk_12 (List.mem_of_getElem? (i := 2) rfl) (by decide +kernel)
theorem tw_243 : Cond.code ⟨"WholeDesk", "read", "(II)V"⟩ prog_1_method_4_code 3 none ∈ zt := zk_12 (List.mem_of_getElem? (i := 3) rfl) (by decide +kernel)
theorem tw_244 : Cond.methodLink "WholeDesk" 52 ⟨"WholeDesk", "testRegister", "(I)V"⟩ ∈ zt := zk_12 (List.mem_of_getElem? (i := 4) rfl) (by decide +kernel)
theorem tw_245 : Cond.static ⟨"WholeDesk", "testRegister", "(I)V"⟩ ∈ zt := zk_12 (List.mem_of_getElem? (i := 5) rfl) (by decide +kernel)
theorem tw_246 : Cond.code ⟨"WholeDesk", "testRegister", "(I)V"⟩ prog_1_method_22_code 1 none ∈ zt := zk_12 (List.mem_of_getElem? (i := 6) rfl) (by decide +kernel)
theorem tw_248 : Cond.methodLink "WholeDesk" 56 ⟨"WholeDesk", "testBase", "(I)V"⟩ ∈ zt := zk_12 (List.mem_of_getElem? (i := 8) rfl) (by decide +kernel)
theorem tw_249 : Cond.static ⟨"WholeDesk", "testBase", "(I)V"⟩ ∈ zt := zk_12 (List.mem_of_getElem? (i := 9) rfl) (by decide +kernel)
theorem tw_250 : Cond.code ⟨"WholeDesk", "testBase", "(I)V"⟩ prog_1_method_23_code 1 none ∈ zt := zk_12 (List.mem_of_getElem? (i := 10) rfl) (by decide +kernel)
theorem tw_252 : Cond.methodLink "WholeDesk" 59 ⟨"WholeDesk$Draft", "isNumber", "(I)Z"⟩ ∈ zt := zk_12 (List.mem_of_getElem? (i := 12) rfl) (by decide +kernel)
theorem tw_253 : Cond.instanceMethod ⟨"WholeDesk$Draft", "isNumber", "(I)Z"⟩ ∈ zt := zk_12 (List.mem_of_getElem? (i := 13) rfl) (by decide +kernel)
theorem tw_254 : Cond.selects "WholeDesk$Draft" ⟨"WholeDesk$Draft", "isNumber", "(I)Z"⟩ ⟨"WholeDesk$Draft", "isNumber", "(I)Z"⟩ ∈ zt := zk_12 (List.mem_of_getElem? (i := 14) rfl) (by decide +kernel)
theorem tw_255 : Cond.code ⟨"WholeDesk$Draft", "isNumber", "(I)Z"⟩ prog_2_method_5_code 3 (some .boolean) ∈ zt := zk_12 (List.mem_of_getElem? (i := 15) rfl) (by decide +kernel)
theorem tw_256 : Cond.methodLink "WholeDesk$Draft" 30 ⟨"WholeDesk$Draft", "start", "()I"⟩ ∈ zt := zk_12 (List.mem_of_getElem? (i := 16) rfl) (by decide +kernel)
theorem tw_258 : Cond.instanceMethod ⟨"WholeDesk$Draft", "start", "()I"⟩ ∈ zt := zk_12 (List.mem_of_getElem? (i := 18) rfl) (by decide +kernel)
theorem tw_259 : Cond.code ⟨"WholeDesk$Draft", "start", "()I"⟩ prog_2_method_4_code 1 (some .int) ∈ zt := zk_12 (List.mem_of_getElem? (i := 19) rfl) (by decide +kernel)
theorem tw_260 : Cond.methodLink "WholeDesk$Draft" 26 ⟨"WholeDesk$Draft", "startsWith", "(C)Z"⟩ ∈ zt := zk_13 (List.mem_of_getElem? (i := 0) rfl) (by decide +kernel)
theorem tw_262 : Cond.instanceMethod ⟨"WholeDesk$Draft", "startsWith", "(C)Z"⟩ ∈ zt := zk_13 (List.mem_of_getElem? (i := 2) rfl) (by decide +kernel)
theorem tw_263 : Cond.code ⟨"WholeDesk$Draft", "startsWith", "(C)Z"⟩ prog_2_method_3_code 2 (some .boolean) ∈ zt := zk_13 (List.mem_of_getElem? (i := 3) rfl) (by decide +kernel)
theorem tw_264 : Cond.methodLink "WholeDesk$Draft" 34 ⟨"WholeDesk$Draft", "digitOf", "(B)I"⟩ ∈ zt := zk_13 (List.mem_of_getElem? (i := 4) rfl) (by decide +kernel)
theorem tw_265 : Cond.static ⟨"WholeDesk$Draft", "digitOf", "(B)I"⟩ ∈ zt := zk_13 (List.mem_of_getElem? (i := 5) rfl) (by decide +kernel)
theorem tw_266 : Cond.code ⟨"WholeDesk$Draft", "digitOf", "(B)I"⟩ prog_2_method_6_code 1 (some .int) ∈ zt := zk_13 (List.mem_of_getElem? (i := 6) rfl) (by decide +kernel)
theorem tw_267 : Cond.classLink "WholeDesk" 63 "java/lang/IllegalStateException" ∈ zt := zk_13 (List.mem_of_getElem? (i := 7) rfl) (by decide +kernel)
theorem tw_268 : Cond.instantiable "java/lang/IllegalStateException" 6 ∈ zt := zk_13 (List.mem_of_getElem? (i := 8) rfl) (by decide +kernel)
theorem tw_270 : Cond.selects "java/lang/IllegalStateException" ⟨"java/lang/Throwable", "fillInStackTrace", "(I)Ljava/lang/Throwable;"⟩ ⟨"java/lang/Throwable", "fillInStackTrace", "(I)Ljava/lang/Throwable;"⟩ ∈ zt := zk_13 (List.mem_of_getElem? (i := 10) rfl) (by decide +kernel)
theorem tw_271 : Cond.lays "java/lang/IllegalStateException" "java/lang/Throwable" "cause" "Ljava/lang/Throwable;" ∈ zt := zk_13 (List.mem_of_getElem? (i := 11) rfl) (by decide +kernel)
theorem tw_272 : Cond.lays "java/lang/IllegalStateException" "java/lang/Throwable" "stackTrace" "[Ljava/lang/StackTraceElement;" ∈ zt := zk_13 (List.mem_of_getElem? (i := 12) rfl) (by decide +kernel)
theorem tw_273 : Cond.lays "java/lang/IllegalStateException" "java/lang/Throwable" "suppressedExceptions" "Ljava/util/List;" ∈ zt := zk_13 (List.mem_of_getElem? (i := 13) rfl) (by decide +kernel)
theorem tw_274 : Cond.lays "java/lang/IllegalStateException" "java/lang/Throwable" "detailMessage" "Ljava/lang/String;" ∈ zt := zk_13 (List.mem_of_getElem? (i := 14) rfl) (by decide +kernel)
theorem tw_275 : Cond.lays "java/lang/IllegalStateException" "java/lang/Throwable" "backtrace" "Ljava/lang/Object;" ∈ zt := zk_13 (List.mem_of_getElem? (i := 15) rfl) (by decide +kernel)
theorem tw_277 : Cond.methodLink "WholeDesk" 67 ⟨"java/lang/IllegalStateException", "<init>", "(Ljava/lang/String;)V"⟩ ∈ zt := zk_13 (List.mem_of_getElem? (i := 17) rfl) (by decide +kernel)
theorem tw_278 : Cond.instanceMethod ⟨"java/lang/IllegalStateException", "<init>", "(Ljava/lang/String;)V"⟩ ∈ zt := zk_13 (List.mem_of_getElem? (i := 18) rfl) (by decide +kernel)
theorem tw_279 : Cond.code ⟨"java/lang/IllegalStateException", "<init>", "(Ljava/lang/String;)V"⟩ prog_11_method_2_code 2 none ∈ zt := zk_13 (List.mem_of_getElem? (i := 19) rfl) (by decide +kernel)
theorem tw_280 : Cond.methodLink "java/lang/IllegalStateException" 7 ⟨"java/lang/RuntimeException", "<init>", "(Ljava/lang/String;)V"⟩ ∈ zt := zk_14 (List.mem_of_getElem? (i := 0) rfl) (by decide +kernel)
theorem tw_281 : Cond.lays "java/lang/IllegalStateException" "java/lang/Throwable" "depth" "I" ∈ zt := zk_14 (List.mem_of_getElem? (i := 1) rfl) (by decide +kernel)
theorem tw_283 : Cond.methodLink "WholeDesk" 68 ⟨"WholeDesk$Draft", "parsed", "(I)LWholeDesk$Whole;"⟩ ∈ zt := zk_14 (List.mem_of_getElem? (i := 3) rfl) (by decide +kernel)
theorem tw_284 : Cond.instanceMethod ⟨"WholeDesk$Draft", "parsed", "(I)LWholeDesk$Whole;"⟩ ∈ zt := zk_14 (List.mem_of_getElem? (i := 4) rfl) (by decide +kernel)
theorem tw_285 : Cond.selects "WholeDesk$Draft" ⟨"WholeDesk$Draft", "parsed", "(I)LWholeDesk$Whole;"⟩ ⟨"WholeDesk$Draft", "parsed", "(I)LWholeDesk$Whole;"⟩ ∈ zt := zk_14 (List.mem_of_getElem? (i := 5) rfl) (by decide +kernel)
theorem tw_286 : Cond.code ⟨"WholeDesk$Draft", "parsed", "(I)LWholeDesk$Whole;"⟩ prog_2_method_7_code 7 (some (FieldType.object "WholeDesk$Whole")) ∈ zt := zk_14 (List.mem_of_getElem? (i := 6) rfl) (by decide +kernel)
theorem tw_287 : Cond.methodLink "WholeDesk$Draft" 38 ⟨"WholeDesk$Whole", "become", "(J)V"⟩ ∈ zt := zk_14 (List.mem_of_getElem? (i := 7) rfl) (by decide +kernel)
theorem tw_288 : Cond.instanceMethod ⟨"WholeDesk$Whole", "become", "(J)V"⟩ ∈ zt := zk_14 (List.mem_of_getElem? (i := 8) rfl) (by decide +kernel)
theorem tw_289 : Cond.selects "WholeDesk$Whole" ⟨"WholeDesk$Whole", "become", "(J)V"⟩ ⟨"WholeDesk$Whole", "become", "(J)V"⟩ ∈ zt := zk_14 (List.mem_of_getElem? (i := 9) rfl) (by decide +kernel)
theorem tw_290 : Cond.code ⟨"WholeDesk$Whole", "become", "(J)V"⟩ prog_4_method_2_code 5 none ∈ zt := zk_14 (List.mem_of_getElem? (i := 10) rfl) (by decide +kernel)
theorem tw_291 : Cond.constantLong "WholeDesk$Whole" 15 268435455 ∈ zt := zk_14 (List.mem_of_getElem? (i := 11) rfl) (by decide +kernel)
theorem tw_292 : Cond.methodLink "WholeDesk$Whole" 25 ⟨"WholeDesk$Whole", "trim", "()V"⟩ ∈ zt := zk_14 (List.mem_of_getElem? (i := 12) rfl) (by decide +kernel)
theorem tw_293 : Cond.instanceMethod ⟨"WholeDesk$Whole", "trim", "()V"⟩ ∈ zt := zk_14 (List.mem_of_getElem? (i := 13) rfl) (by decide +kernel)
theorem tw_294 : Cond.selects "WholeDesk$Whole" ⟨"WholeDesk$Whole", "trim", "()V"⟩ ⟨"WholeDesk$Whole", "trim", "()V"⟩ ∈ zt := zk_14 (List.mem_of_getElem? (i := 14) rfl) (by decide +kernel)
theorem tw_295 : Cond.code ⟨"WholeDesk$Whole", "trim", "()V"⟩ prog_4_method_6_code 1 none ∈ zt := zk_14 (List.mem_of_getElem? (i := 15) rfl) (by decide +kernel)
theorem tw_296 : Cond.constantLong "WholeDesk$Draft" 43 268435455 ∈ zt := zk_14 (List.mem_of_getElem? (i := 16) rfl) (by decide +kernel)
theorem tw_297 : Cond.methodLink "WholeDesk$Draft" 45 ⟨"WholeDesk$Whole", "scale", "(JJ)V"⟩ ∈ zt := zk_14 (List.mem_of_getElem? (i := 17) rfl) (by decide +kernel)
theorem tw_298 : Cond.instanceMethod ⟨"WholeDesk$Whole", "scale", "(JJ)V"⟩ ∈ zt := zk_14 (List.mem_of_getElem? (i := 18) rfl) (by decide +kernel)
theorem tw_299 : Cond.selects "WholeDesk$Whole" ⟨"WholeDesk$Whole", "scale", "(JJ)V"⟩ ⟨"WholeDesk$Whole", "scale", "(JJ)V"⟩ ∈ zt := zk_14 (List.mem_of_getElem? (i := 19) rfl) (by decide +kernel)
theorem tw_300 : Cond.code ⟨"WholeDesk$Whole", "scale", "(JJ)V"⟩ prog_4_method_26_code 10 none ∈ zt := zk_15 (List.mem_of_getElem? (i := 0) rfl) (by decide +kernel)
theorem tw_301 : Cond.methodLink "WholeDesk$Whole" 28 ⟨"WholeDesk$Whole", "stretch", "(I)V"⟩ ∈ zt := zk_15 (List.mem_of_getElem? (i := 1) rfl) (by decide +kernel)
theorem tw_302 : Cond.instanceMethod ⟨"WholeDesk$Whole", "stretch", "(I)V"⟩ ∈ zt := zk_15 (List.mem_of_getElem? (i := 2) rfl) (by decide +kernel)
theorem tw_303 : Cond.selects "WholeDesk$Whole" ⟨"WholeDesk$Whole", "stretch", "(I)V"⟩ ⟨"WholeDesk$Whole", "stretch", "(I)V"⟩ ∈ zt := zk_15 (List.mem_of_getElem? (i := 3) rfl) (by decide +kernel)
theorem tw_304 : Cond.code ⟨"WholeDesk$Whole", "stretch", "(I)V"⟩ prog_4_method_5_code 4 none ∈ zt := zk_15 (List.mem_of_getElem? (i := 4) rfl) (by decide +kernel)
theorem tw_305 : Cond.methodLink "WholeDesk$Whole" 32 ⟨"java/lang/Math", "min", "(II)I"⟩ ∈ zt := zk_15 (List.mem_of_getElem? (i := 5) rfl) (by decide +kernel)
theorem tw_306 : Cond.static ⟨"java/lang/Math", "min", "(II)I"⟩ ∈ zt := zk_15 (List.mem_of_getElem? (i := 6) rfl) (by decide +kernel)
theorem tw_307 : Cond.code ⟨"java/lang/Math", "min", "(II)I"⟩ prog_13_method_69_code 2 (some .int) ∈ zt := zk_15 (List.mem_of_getElem? (i := 7) rfl) (by decide +kernel)
theorem tw_308 : Cond.methodLink "WholeDesk$Whole" 44 ⟨"java/lang/Math", "max", "(II)I"⟩ ∈ zt := zk_15 (List.mem_of_getElem? (i := 8) rfl) (by decide +kernel)
theorem tw_309 : Cond.static ⟨"java/lang/Math", "max", "(II)I"⟩ ∈ zt := zk_15 (List.mem_of_getElem? (i := 9) rfl) (by decide +kernel)
theorem tw_310 : Cond.code ⟨"java/lang/Math", "max", "(II)I"⟩ prog_13_method_65_code 2 (some .int) ∈ zt := zk_15 (List.mem_of_getElem? (i := 10) rfl) (by decide +kernel)
theorem tw_311 : Cond.methodLink "WholeDesk" 72 ⟨"WholeDesk", "keep", "(LWholeDesk$Whole;I)V"⟩ ∈ zt := zk_15 (List.mem_of_getElem? (i := 11) rfl) (by decide +kernel)
theorem tw_313 : Cond.instanceMethod ⟨"WholeDesk", "keep", "(LWholeDesk$Whole;I)V"⟩ ∈ zt := zk_15 (List.mem_of_getElem? (i := 13) rfl) (by decide +kernel)
theorem tw_314 : Cond.code ⟨"WholeDesk", "keep", "(LWholeDesk$Whole;I)V"⟩ prog_1_method_25_code 3 none ∈ zt := zk_15 (List.mem_of_getElem? (i := 14) rfl) (by decide +kernel)
theorem tw_315 : Cond.methodLink "WholeDesk" 114 ⟨"WholeDesk$Whole", "bits", "()I"⟩ ∈ zt := zk_15 (List.mem_of_getElem? (i := 15) rfl) (by decide +kernel)
theorem tw_316 : Cond.instanceMethod ⟨"WholeDesk$Whole", "bits", "()I"⟩ ∈ zt := zk_15 (List.mem_of_getElem? (i := 16) rfl) (by decide +kernel)
theorem tw_317 : Cond.selects "WholeDesk$Whole" ⟨"WholeDesk$Whole", "bits", "()I"⟩ ⟨"WholeDesk$Whole", "bits", "()I"⟩ ∈ zt := zk_15 (List.mem_of_getElem? (i := 17) rfl) (by decide +kernel)
theorem tw_318 : Cond.code ⟨"WholeDesk$Whole", "bits", "()I"⟩ prog_4_method_9_code 1 (some .int) ∈ zt := zk_15 (List.mem_of_getElem? (i := 18) rfl) (by decide +kernel)
theorem tw_319 : Cond.methodLink "WholeDesk$Whole" 47 ⟨"WholeDesk$Whole", "limb", "(I)J"⟩ ∈ zt := zk_15 (List.mem_of_getElem? (i := 19) rfl) (by decide +kernel)
theorem tw_320 : Cond.instanceMethod ⟨"WholeDesk$Whole", "limb", "(I)J"⟩ ∈ zt := zk_16 (List.mem_of_getElem? (i := 0) rfl) (by decide +kernel)
theorem tw_321 : Cond.selects "WholeDesk$Whole" ⟨"WholeDesk$Whole", "limb", "(I)J"⟩ ⟨"WholeDesk$Whole", "limb", "(I)J"⟩ ∈ zt := zk_16 (List.mem_of_getElem? (i := 1) rfl) (by decide +kernel)
theorem tw_322 : Cond.code ⟨"WholeDesk$Whole", "limb", "(I)J"⟩ prog_4_method_7_code 2 (some .long) ∈ zt := zk_16 (List.mem_of_getElem? (i := 2) rfl) (by decide +kernel)
theorem tw_323 : Cond.methodLink "WholeDesk$Whole" 51 ⟨"WholeDesk$Whole", "digitsOf", "(J)I"⟩ ∈ zt := zk_16 (List.mem_of_getElem? (i := 3) rfl) (by decide +kernel)
theorem tw_324 : Cond.static ⟨"WholeDesk$Whole", "digitsOf", "(J)I"⟩ ∈ zt := zk_16 (List.mem_of_getElem? (i := 4) rfl) (by decide +kernel)
theorem tw_325 : Cond.code ⟨"WholeDesk$Whole", "digitsOf", "(J)I"⟩ prog_4_method_10_code 5 (some .int) ∈ zt := zk_16 (List.mem_of_getElem? (i := 5) rfl) (by decide +kernel)
theorem tw_326 : Cond.classLink "WholeDesk" 89 "java/lang/ArithmeticException" ∈ zt := zk_16 (List.mem_of_getElem? (i := 6) rfl) (by decide +kernel)
theorem tw_327 : Cond.instantiable "java/lang/ArithmeticException" 6 ∈ zt := zk_16 (List.mem_of_getElem? (i := 7) rfl) (by decide +kernel)
theorem tw_329 : Cond.selects "java/lang/ArithmeticException" ⟨"java/lang/Throwable", "fillInStackTrace", "(I)Ljava/lang/Throwable;"⟩ ⟨"java/lang/Throwable", "fillInStackTrace", "(I)Ljava/lang/Throwable;"⟩ ∈ zt := zk_16 (List.mem_of_getElem? (i := 9) rfl) (by decide +kernel)
theorem tw_330 : Cond.lays "java/lang/ArithmeticException" "java/lang/Throwable" "cause" "Ljava/lang/Throwable;" ∈ zt := zk_16 (List.mem_of_getElem? (i := 10) rfl) (by decide +kernel)
theorem tw_331 : Cond.lays "java/lang/ArithmeticException" "java/lang/Throwable" "stackTrace" "[Ljava/lang/StackTraceElement;" ∈ zt := zk_16 (List.mem_of_getElem? (i := 11) rfl) (by decide +kernel)
theorem tw_332 : Cond.lays "java/lang/ArithmeticException" "java/lang/Throwable" "suppressedExceptions" "Ljava/util/List;" ∈ zt := zk_16 (List.mem_of_getElem? (i := 12) rfl) (by decide +kernel)
theorem tw_333 : Cond.lays "java/lang/ArithmeticException" "java/lang/Throwable" "detailMessage" "Ljava/lang/String;" ∈ zt := zk_16 (List.mem_of_getElem? (i := 13) rfl) (by decide +kernel)
theorem tw_334 : Cond.lays "java/lang/ArithmeticException" "java/lang/Throwable" "backtrace" "Ljava/lang/Object;" ∈ zt := zk_16 (List.mem_of_getElem? (i := 14) rfl) (by decide +kernel)
theorem tw_336 : Cond.methodLink "WholeDesk" 93 ⟨"java/lang/ArithmeticException", "<init>", "(Ljava/lang/String;)V"⟩ ∈ zt := zk_16 (List.mem_of_getElem? (i := 16) rfl) (by decide +kernel)
theorem tw_337 : Cond.instanceMethod ⟨"java/lang/ArithmeticException", "<init>", "(Ljava/lang/String;)V"⟩ ∈ zt := zk_16 (List.mem_of_getElem? (i := 17) rfl) (by decide +kernel)
theorem tw_338 : Cond.code ⟨"java/lang/ArithmeticException", "<init>", "(Ljava/lang/String;)V"⟩ prog_8_method_2_code 2 none ∈ zt := zk_16 (List.mem_of_getElem? (i := 18) rfl) (by decide +kernel)
theorem tw_339 : Cond.methodLink "java/lang/ArithmeticException" 7 ⟨"java/lang/RuntimeException", "<init>", "(Ljava/lang/String;)V"⟩ ∈ zt := zk_16 (List.mem_of_getElem? (i := 19) rfl) (by decide +kernel)
theorem tw_340 : Cond.lays "java/lang/ArithmeticException" "java/lang/Throwable" "depth" "I" ∈ zt := zk_17 (List.mem_of_getElem? (i := 0) rfl) (by decide +kernel)
theorem tw_342 : Cond.methodLink "WholeDesk" 140 ⟨"WholeDesk$Whole", "copy", "(LWholeDesk$Whole;)V"⟩ ∈ zt := zk_17 (List.mem_of_getElem? (i := 2) rfl) (by decide +kernel)
theorem tw_343 : Cond.instanceMethod ⟨"WholeDesk$Whole", "copy", "(LWholeDesk$Whole;)V"⟩ ∈ zt := zk_17 (List.mem_of_getElem? (i := 3) rfl) (by decide +kernel)
theorem tw_344 : Cond.selects "WholeDesk$Whole" ⟨"WholeDesk$Whole", "copy", "(LWholeDesk$Whole;)V"⟩ ⟨"WholeDesk$Whole", "copy", "(LWholeDesk$Whole;)V"⟩ ∈ zt := zk_17 (List.mem_of_getElem? (i := 4) rfl) (by decide +kernel)
theorem tw_345 : Cond.code ⟨"WholeDesk$Whole", "copy", "(LWholeDesk$Whole;)V"⟩ prog_4_method_4_code 3 none ∈ zt := zk_17 (List.mem_of_getElem? (i := 5) rfl) (by decide +kernel)
theorem tw_346 : Cond.methodLink "WholeDesk$Whole" 38 ⟨"java/lang/System", "arraycopy", "(Ljava/lang/Object;ILjava/lang/Object;II)V"⟩ ∈ zt := zk_17 (List.mem_of_getElem? (i := 6) rfl) (by decide +kernel)
theorem tw_347 : Cond.static ⟨"java/lang/System", "arraycopy", "(Ljava/lang/Object;ILjava/lang/Object;II)V"⟩ ∈ zt := zk_17 (List.mem_of_getElem? (i := 7) rfl) (by decide +kernel)
theorem tw_348 : Cond.native ⟨"java/lang/System", "arraycopy", "(Ljava/lang/Object;ILjava/lang/Object;II)V"⟩ ∈ zt := zk_17 (List.mem_of_getElem? (i := 8) rfl) (by decide +kernel)
theorem tw_349 : Cond.methodLink "WholeDeskLaw" 101 ⟨"WholeDeskLaw", "put", "(LWholeDesk;IJ)I"⟩ ∈ zt := zk_17 (List.mem_of_getElem? (i := 9) rfl) (by decide +kernel)
theorem tw_350 : Cond.static ⟨"WholeDeskLaw", "put", "(LWholeDesk;IJ)I"⟩ ∈ zt := zk_17 (List.mem_of_getElem? (i := 10) rfl) (by decide +kernel)
theorem tw_351 : Cond.codeWith ⟨"WholeDeskLaw", "put", "(LWholeDesk;IJ)I"⟩ method_5_code 5 (some .int) [(0, 6, 9, 13)] ∈ zt := zk_17 (List.mem_of_getElem? (i := 11) rfl) (by decide +kernel)
theorem tw_352 : Cond.methodLink "WholeDeskLaw" 23 ⟨"WholeDesk", "put", "(IJ)V"⟩ ∈ zt := zk_17 (List.mem_of_getElem? (i := 12) rfl) (by decide +kernel)
theorem tw_353 : Cond.instanceMethod ⟨"WholeDesk", "put", "(IJ)V"⟩ ∈ zt := zk_17 (List.mem_of_getElem? (i := 13) rfl) (by decide +kernel)
theorem tw_354 : Cond.selects "WholeDesk" ⟨"WholeDesk", "put", "(IJ)V"⟩ ⟨"WholeDesk", "put", "(IJ)V"⟩ ∈ zt := zk_17 (List.mem_of_getElem? (i := 14) rfl) (by decide +kernel)
theorem tw_355 : Cond.code ⟨"WholeDesk", "put", "(IJ)V"⟩ prog_1_method_5_code 4 none ∈ zt := zk_17 (List.mem_of_getElem? (i := 15) rfl) (by decide +kernel)
theorem tw_356 : Cond.methodLink "WholeDesk" 76 ⟨"WholeDesk$Whole", "become", "(J)V"⟩ ∈ zt := zk_17 (List.mem_of_getElem? (i := 16) rfl) (by decide +kernel)
theorem tw_357 : Cond.methodLink "WholeDeskLaw" 105 ⟨"WholeDeskLaw", "add", "(LWholeDesk;IIIZ)I"⟩ ∈ zt := zk_17 (List.mem_of_getElem? (i := 17) rfl) (by decide +kernel)
theorem tw_358 : Cond.static ⟨"WholeDeskLaw", "add", "(LWholeDesk;IIIZ)I"⟩ ∈ zt := zk_17 (List.mem_of_getElem? (i := 18) rfl) (by decide +kernel)
theorem tw_359 : Cond.codeWith ⟨"WholeDeskLaw", "add", "(LWholeDesk;IIIZ)I"⟩ method_6_code 6 (some .int) [(0, 9, 12, 13), (0, 9, 16, 21)] ∈ zt := zk_17 (List.mem_of_getElem? (i := 19) rfl) (by decide +kernel)
theorem tw_360 : Cond.methodLink "WholeDeskLaw" 27 ⟨"WholeDesk", "add", "(IIIZ)V"⟩ ∈ zt := zk_18 (List.mem_of_getElem? (i := 0) rfl) (by decide +kernel)
theorem tw_361 : Cond.instanceMethod ⟨"WholeDesk", "add", "(IIIZ)V"⟩ ∈ zt := zk_18 (List.mem_of_getElem? (i := 1) rfl) (by decide +kernel)
theorem tw_362 : Cond.selects "WholeDesk" ⟨"WholeDesk", "add", "(IIIZ)V"⟩ ⟨"WholeDesk", "add", "(IIIZ)V"⟩ ∈ zt := zk_18 (List.mem_of_getElem? (i := 2) rfl) (by decide +kernel)
theorem tw_363 : Cond.code ⟨"WholeDesk", "add", "(IIIZ)V"⟩ prog_1_method_6_code 5 none ∈ zt := zk_18 (List.mem_of_getElem? (i := 3) rfl) (by decide +kernel)
theorem tw_364 : Cond.methodLink "WholeDesk" 80 ⟨"WholeDesk$Reckoner", "sum", "(LWholeDesk$Whole;LWholeDesk$Whole;Z)LWholeDesk$Whole;"⟩ ∈ zt := zk_18 (List.mem_of_getElem? (i := 4) rfl) (by decide +kernel)
theorem tw_365 : Cond.instanceMethod ⟨"WholeDesk$Reckoner", "sum", "(LWholeDesk$Whole;LWholeDesk$Whole;Z)LWholeDesk$Whole;"⟩ ∈ zt := zk_18 (List.mem_of_getElem? (i := 5) rfl) (by decide +kernel)
theorem tw_366 : Cond.selects "WholeDesk$Reckoner" ⟨"WholeDesk$Reckoner", "sum", "(LWholeDesk$Whole;LWholeDesk$Whole;Z)LWholeDesk$Whole;"⟩ ⟨"WholeDesk$Reckoner", "sum", "(LWholeDesk$Whole;LWholeDesk$Whole;Z)LWholeDesk$Whole;"⟩ ∈ zt := zk_18 (List.mem_of_getElem? (i := 6) rfl) (by decide +kernel)
theorem tw_367 : Cond.code ⟨"WholeDesk$Reckoner", "sum", "(LWholeDesk$Whole;LWholeDesk$Whole;Z)LWholeDesk$Whole;"⟩ prog_3_method_2_code 5 (some (FieldType.object "WholeDesk$Whole")) ∈ zt := zk_18 (List.mem_of_getElem? (i := 7) rfl) (by decide +kernel)
theorem tw_368 : Cond.methodLink "WholeDesk$Reckoner" 47 ⟨"WholeDesk$Whole", "copy", "(LWholeDesk$Whole;)V"⟩ ∈ zt := zk_18 (List.mem_of_getElem? (i := 8) rfl) (by decide +kernel)
theorem tw_369 : Cond.methodLink "WholeDesk$Reckoner" 55 ⟨"java/lang/Math", "max", "(II)I"⟩ ∈ zt := zk_18 (List.mem_of_getElem? (i := 9) rfl) (by decide +kernel)
theorem tw_370 : Cond.methodLink "WholeDesk$Reckoner" 61 ⟨"WholeDesk$Whole", "stretch", "(I)V"⟩ ∈ zt := zk_18 (List.mem_of_getElem? (i := 10) rfl) (by decide +kernel)
theorem tw_371 : Cond.methodLink "WholeDesk$Reckoner" 65 ⟨"WholeDesk$Whole", "mix", "(LWholeDesk$Whole;JI)J"⟩ ∈ zt := zk_18 (List.mem_of_getElem? (i := 11) rfl) (by decide +kernel)
theorem tw_372 : Cond.instanceMethod ⟨"WholeDesk$Whole", "mix", "(LWholeDesk$Whole;JI)J"⟩ ∈ zt := zk_18 (List.mem_of_getElem? (i := 12) rfl) (by decide +kernel)
theorem tw_373 : Cond.selects "WholeDesk$Whole" ⟨"WholeDesk$Whole", "mix", "(LWholeDesk$Whole;JI)J"⟩ ⟨"WholeDesk$Whole", "mix", "(LWholeDesk$Whole;JI)J"⟩ ∈ zt := zk_18 (List.mem_of_getElem? (i := 13) rfl) (by decide +kernel)
theorem tw_374 : Cond.code ⟨"WholeDesk$Whole", "mix", "(LWholeDesk$Whole;JI)J"⟩ prog_4_method_20_code 14 (some .long) ∈ zt := zk_18 (List.mem_of_getElem? (i := 14) rfl) (by decide +kernel)
theorem tw_375 : Cond.methodLink "WholeDesk$Reckoner" 69 ⟨"WholeDesk$Whole", "sizeAgainst", "(LWholeDesk$Whole;)I"⟩ ∈ zt := zk_18 (List.mem_of_getElem? (i := 15) rfl) (by decide +kernel)
theorem tw_376 : Cond.instanceMethod ⟨"WholeDesk$Whole", "sizeAgainst", "(LWholeDesk$Whole;)I"⟩ ∈ zt := zk_18 (List.mem_of_getElem? (i := 16) rfl) (by decide +kernel)
theorem tw_377 : Cond.selects "WholeDesk$Whole" ⟨"WholeDesk$Whole", "sizeAgainst", "(LWholeDesk$Whole;)I"⟩ ⟨"WholeDesk$Whole", "sizeAgainst", "(LWholeDesk$Whole;)I"⟩ ∈ zt := zk_18 (List.mem_of_getElem? (i := 17) rfl) (by decide +kernel)
theorem tw_378 : Cond.code ⟨"WholeDesk$Whole", "sizeAgainst", "(LWholeDesk$Whole;)I"⟩ prog_4_method_12_code 3 (some .int) ∈ zt := zk_18 (List.mem_of_getElem? (i := 18) rfl) (by decide +kernel)
theorem tw_379 : Cond.constantLong "WholeDesk$Reckoner" 73 (-1) ∈ zt := zk_18 (List.mem_of_getElem? (i := 19) rfl) (by decide +kernel)
theorem tw_380 : Cond.methodLink "WholeDesk$Reckoner" 75 ⟨"WholeDesk$Whole", "becomeLackTo", "(LWholeDesk$Whole;)V"⟩ ∈ zt := zk_19 (List.mem_of_getElem? (i := 0) rfl) (by decide +kernel)
theorem tw_381 : Cond.instanceMethod ⟨"WholeDesk$Whole", "becomeLackTo", "(LWholeDesk$Whole;)V"⟩ ∈ zt := zk_19 (List.mem_of_getElem? (i := 1) rfl) (by decide +kernel)
theorem tw_382 : Cond.selects "WholeDesk$Whole" ⟨"WholeDesk$Whole", "becomeLackTo", "(LWholeDesk$Whole;)V"⟩ ⟨"WholeDesk$Whole", "becomeLackTo", "(LWholeDesk$Whole;)V"⟩ ∈ zt := zk_19 (List.mem_of_getElem? (i := 2) rfl) (by decide +kernel)
theorem tw_383 : Cond.code ⟨"WholeDesk$Whole", "becomeLackTo", "(LWholeDesk$Whole;)V"⟩ prog_4_method_23_code 7 none ∈ zt := zk_19 (List.mem_of_getElem? (i := 3) rfl) (by decide +kernel)
theorem tw_384 : Cond.methodLink "WholeDesk$Reckoner" 78 ⟨"WholeDesk$Whole", "trim", "()V"⟩ ∈ zt := zk_19 (List.mem_of_getElem? (i := 4) rfl) (by decide +kernel)
theorem tw_385 : Cond.methodLink "WholeDeskLaw" 109 ⟨"WholeDeskLaw", "multiply", "(LWholeDesk;III)I"⟩ ∈ zt := zk_19 (List.mem_of_getElem? (i := 5) rfl) (by decide +kernel)
theorem tw_386 : Cond.static ⟨"WholeDeskLaw", "multiply", "(LWholeDesk;III)I"⟩ ∈ zt := zk_19 (List.mem_of_getElem? (i := 6) rfl) (by decide +kernel)
theorem tw_387 : Cond.codeWith ⟨"WholeDeskLaw", "multiply", "(LWholeDesk;III)I"⟩ method_7_code 5 (some .int) [(0, 7, 10, 13), (0, 7, 14, 21)] ∈ zt := zk_19 (List.mem_of_getElem? (i := 7) rfl) (by decide +kernel)
theorem tw_388 : Cond.methodLink "WholeDeskLaw" 31 ⟨"WholeDesk", "multiply", "(III)V"⟩ ∈ zt := zk_19 (List.mem_of_getElem? (i := 8) rfl) (by decide +kernel)
theorem tw_389 : Cond.instanceMethod ⟨"WholeDesk", "multiply", "(III)V"⟩ ∈ zt := zk_19 (List.mem_of_getElem? (i := 9) rfl) (by decide +kernel)
theorem tw_390 : Cond.selects "WholeDesk" ⟨"WholeDesk", "multiply", "(III)V"⟩ ⟨"WholeDesk", "multiply", "(III)V"⟩ ∈ zt := zk_19 (List.mem_of_getElem? (i := 10) rfl) (by decide +kernel)
theorem tw_391 : Cond.code ⟨"WholeDesk", "multiply", "(III)V"⟩ prog_1_method_7_code 4 none ∈ zt := zk_19 (List.mem_of_getElem? (i := 11) rfl) (by decide +kernel)
theorem tw_392 : Cond.methodLink "WholeDesk" 84 ⟨"WholeDesk$Reckoner", "product", "(LWholeDesk$Whole;LWholeDesk$Whole;)LWholeDesk$Whole;"⟩ ∈ zt := zk_19 (List.mem_of_getElem? (i := 12) rfl) (by decide +kernel)
theorem tw_393 : Cond.instanceMethod ⟨"WholeDesk$Reckoner", "product", "(LWholeDesk$Whole;LWholeDesk$Whole;)LWholeDesk$Whole;"⟩ ∈ zt := zk_19 (List.mem_of_getElem? (i := 13) rfl) (by decide +kernel)
theorem tw_394 : Cond.selects "WholeDesk$Reckoner" ⟨"WholeDesk$Reckoner", "product", "(LWholeDesk$Whole;LWholeDesk$Whole;)LWholeDesk$Whole;"⟩ ⟨"WholeDesk$Reckoner", "product", "(LWholeDesk$Whole;LWholeDesk$Whole;)LWholeDesk$Whole;"⟩ ∈ zt := zk_19 (List.mem_of_getElem? (i := 14) rfl) (by decide +kernel)
theorem tw_395 : Cond.code ⟨"WholeDesk$Reckoner", "product", "(LWholeDesk$Whole;LWholeDesk$Whole;)LWholeDesk$Whole;"⟩ prog_3_method_3_code 3 (some (FieldType.object "WholeDesk$Whole")) ∈ zt := zk_19 (List.mem_of_getElem? (i := 15) rfl) (by decide +kernel)
theorem tw_396 : Cond.methodLink "WholeDesk$Reckoner" 81 ⟨"WholeDesk$Whole", "becomeProduct", "(LWholeDesk$Whole;LWholeDesk$Whole;)V"⟩ ∈ zt := zk_19 (List.mem_of_getElem? (i := 16) rfl) (by decide +kernel)
theorem tw_397 : Cond.instanceMethod ⟨"WholeDesk$Whole", "becomeProduct", "(LWholeDesk$Whole;LWholeDesk$Whole;)V"⟩ ∈ zt := zk_19 (List.mem_of_getElem? (i := 17) rfl) (by decide +kernel)
theorem tw_398 : Cond.selects "WholeDesk$Whole" ⟨"WholeDesk$Whole", "becomeProduct", "(LWholeDesk$Whole;LWholeDesk$Whole;)V"⟩ ⟨"WholeDesk$Whole", "becomeProduct", "(LWholeDesk$Whole;LWholeDesk$Whole;)V"⟩ ∈ zt := zk_19 (List.mem_of_getElem? (i := 18) rfl) (by decide +kernel)
theorem tw_399 : Cond.code ⟨"WholeDesk$Whole", "becomeProduct", "(LWholeDesk$Whole;LWholeDesk$Whole;)V"⟩ prog_4_method_21_code 13 none ∈ zt := zk_19 (List.mem_of_getElem? (i := 19) rfl) (by decide +kernel)
theorem tw_400 : Cond.methodLink "WholeDeskLaw" 113 ⟨"WholeDeskLaw", "divide", "(LWholeDesk;IIII)I"⟩ ∈ zt := zk_20 (List.mem_of_getElem? (i := 0) rfl) (by decide +kernel)
theorem tw_401 : Cond.static ⟨"WholeDeskLaw", "divide", "(LWholeDesk;IIII)I"⟩ ∈ zt := zk_20 (List.mem_of_getElem? (i := 1) rfl) (by decide +kernel)
theorem tw_402 : Cond.codeWith ⟨"WholeDeskLaw", "divide", "(LWholeDesk;IIII)I"⟩ method_8_code 6 (some .int) [(0, 9, 12, 13), (0, 9, 16, 21)] ∈ zt := zk_20 (List.mem_of_getElem? (i := 2) rfl) (by decide +kernel)
theorem tw_403 : Cond.methodLink "WholeDeskLaw" 35 ⟨"WholeDesk", "divide", "(IIII)V"⟩ ∈ zt := zk_20 (List.mem_of_getElem? (i := 3) rfl) (by decide +kernel)
theorem tw_404 : Cond.instanceMethod ⟨"WholeDesk", "divide", "(IIII)V"⟩ ∈ zt := zk_20 (List.mem_of_getElem? (i := 4) rfl) (by decide +kernel)
theorem tw_405 : Cond.selects "WholeDesk" ⟨"WholeDesk", "divide", "(IIII)V"⟩ ⟨"WholeDesk", "divide", "(IIII)V"⟩ ∈ zt := zk_20 (List.mem_of_getElem? (i := 5) rfl) (by decide +kernel)
theorem tw_406 : Cond.code ⟨"WholeDesk", "divide", "(IIII)V"⟩ prog_1_method_8_code 5 none ∈ zt := zk_20 (List.mem_of_getElem? (i := 6) rfl) (by decide +kernel)
theorem tw_408 : Cond.methodLink "WholeDesk" 94 ⟨"WholeDesk$Reckoner", "separate", "(LWholeDesk$Whole;LWholeDesk$Whole;)V"⟩ ∈ zt := zk_20 (List.mem_of_getElem? (i := 8) rfl) (by decide +kernel)
theorem tw_409 : Cond.instanceMethod ⟨"WholeDesk$Reckoner", "separate", "(LWholeDesk$Whole;LWholeDesk$Whole;)V"⟩ ∈ zt := zk_20 (List.mem_of_getElem? (i := 9) rfl) (by decide +kernel)
theorem tw_410 : Cond.selects "WholeDesk$Reckoner" ⟨"WholeDesk$Reckoner", "separate", "(LWholeDesk$Whole;LWholeDesk$Whole;)V"⟩ ⟨"WholeDesk$Reckoner", "separate", "(LWholeDesk$Whole;LWholeDesk$Whole;)V"⟩ ∈ zt := zk_20 (List.mem_of_getElem? (i := 10) rfl) (by decide +kernel)
theorem tw_411 : Cond.code ⟨"WholeDesk$Reckoner", "separate", "(LWholeDesk$Whole;LWholeDesk$Whole;)V"⟩ prog_3_method_4_code 3 none ∈ zt := zk_20 (List.mem_of_getElem? (i := 11) rfl) (by decide +kernel)
theorem tw_412 : Cond.methodLink "WholeDesk$Reckoner" 85 ⟨"WholeDesk$Whole", "divideOut", "(LWholeDesk$Whole;LWholeDesk$Whole;)V"⟩ ∈ zt := zk_20 (List.mem_of_getElem? (i := 12) rfl) (by decide +kernel)
theorem tw_413 : Cond.instanceMethod ⟨"WholeDesk$Whole", "divideOut", "(LWholeDesk$Whole;LWholeDesk$Whole;)V"⟩ ∈ zt := zk_20 (List.mem_of_getElem? (i := 13) rfl) (by decide +kernel)
theorem tw_414 : Cond.selects "WholeDesk$Whole" ⟨"WholeDesk$Whole", "divideOut", "(LWholeDesk$Whole;LWholeDesk$Whole;)V"⟩ ⟨"WholeDesk$Whole", "divideOut", "(LWholeDesk$Whole;LWholeDesk$Whole;)V"⟩ ∈ zt := zk_20 (List.mem_of_getElem? (i := 14) rfl) (by decide +kernel)
theorem tw_415 : Cond.code ⟨"WholeDesk$Whole", "divideOut", "(LWholeDesk$Whole;LWholeDesk$Whole;)V"⟩ prog_4_method_24_code 12 none ∈ zt := zk_20 (List.mem_of_getElem? (i := 15) rfl) (by decide +kernel)
theorem tw_416 : Cond.methodLink "WholeDesk$Whole" 75 ⟨"WholeDesk$Whole", "limbShifted", "(II)J"⟩ ∈ zt := zk_20 (List.mem_of_getElem? (i := 16) rfl) (by decide +kernel)
theorem tw_417 : Cond.instanceMethod ⟨"WholeDesk$Whole", "limbShifted", "(II)J"⟩ ∈ zt := zk_20 (List.mem_of_getElem? (i := 17) rfl) (by decide +kernel)
theorem tw_418 : Cond.selects "WholeDesk$Whole" ⟨"WholeDesk$Whole", "limbShifted", "(II)J"⟩ ⟨"WholeDesk$Whole", "limbShifted", "(II)J"⟩ ∈ zt := zk_20 (List.mem_of_getElem? (i := 18) rfl) (by decide +kernel)
theorem tw_419 : Cond.code ⟨"WholeDesk$Whole", "limbShifted", "(II)J"⟩ prog_4_method_8_code 7 (some .long) ∈ zt := zk_20 (List.mem_of_getElem? (i := 19) rfl) (by decide +kernel)
theorem tw_420 : Cond.methodLink "WholeDesk$Whole" 79 ⟨"WholeDesk$Whole", "guess", "(IIJJ)J"⟩ ∈ zt := zk_21 (List.mem_of_getElem? (i := 0) rfl) (by decide +kernel)
theorem tw_422 : Cond.instanceMethod ⟨"WholeDesk$Whole", "guess", "(IIJJ)J"⟩ ∈ zt := zk_21 (List.mem_of_getElem? (i := 2) rfl) (by decide +kernel)
theorem tw_423 : Cond.code ⟨"WholeDesk$Whole", "guess", "(IIJJ)J"⟩ prog_4_method_25_code 16 (some .long) ∈ zt := zk_21 (List.mem_of_getElem? (i := 3) rfl) (by decide +kernel)
theorem tw_424 : Cond.methodLink "WholeDesk$Whole" 71 ⟨"WholeDesk$Whole", "mix", "(LWholeDesk$Whole;JI)J"⟩ ∈ zt := zk_21 (List.mem_of_getElem? (i := 4) rfl) (by decide +kernel)
theorem tw_425 : Cond.methodLink "WholeDeskLaw" 117 ⟨"WholeDeskLaw", "modulo", "(LWholeDesk;III)I"⟩ ∈ zt := zk_21 (List.mem_of_getElem? (i := 5) rfl) (by decide +kernel)
theorem tw_426 : Cond.static ⟨"WholeDeskLaw", "modulo", "(LWholeDesk;III)I"⟩ ∈ zt := zk_21 (List.mem_of_getElem? (i := 6) rfl) (by decide +kernel)
theorem tw_427 : Cond.codeWith ⟨"WholeDeskLaw", "modulo", "(LWholeDesk;III)I"⟩ method_9_code 5 (some .int) [(0, 7, 10, 13), (0, 7, 14, 21)] ∈ zt := zk_21 (List.mem_of_getElem? (i := 7) rfl) (by decide +kernel)
theorem tw_428 : Cond.methodLink "WholeDeskLaw" 39 ⟨"WholeDesk", "modulo", "(III)V"⟩ ∈ zt := zk_21 (List.mem_of_getElem? (i := 8) rfl) (by decide +kernel)
theorem tw_429 : Cond.instanceMethod ⟨"WholeDesk", "modulo", "(III)V"⟩ ∈ zt := zk_21 (List.mem_of_getElem? (i := 9) rfl) (by decide +kernel)
theorem tw_430 : Cond.selects "WholeDesk" ⟨"WholeDesk", "modulo", "(III)V"⟩ ⟨"WholeDesk", "modulo", "(III)V"⟩ ∈ zt := zk_21 (List.mem_of_getElem? (i := 10) rfl) (by decide +kernel)
theorem tw_431 : Cond.code ⟨"WholeDesk", "modulo", "(III)V"⟩ prog_1_method_9_code 4 none ∈ zt := zk_21 (List.mem_of_getElem? (i := 11) rfl) (by decide +kernel)
theorem tw_432 : Cond.methodLink "WholeDesk" 105 ⟨"WholeDesk", "testModulus", "(LWholeDesk$Whole;)V"⟩ ∈ zt := zk_21 (List.mem_of_getElem? (i := 12) rfl) (by decide +kernel)
theorem tw_433 : Cond.static ⟨"WholeDesk", "testModulus", "(LWholeDesk$Whole;)V"⟩ ∈ zt := zk_21 (List.mem_of_getElem? (i := 13) rfl) (by decide +kernel)
theorem tw_434 : Cond.code ⟨"WholeDesk", "testModulus", "(LWholeDesk$Whole;)V"⟩ prog_1_method_24_code 1 none ∈ zt := zk_21 (List.mem_of_getElem? (i := 14) rfl) (by decide +kernel)
theorem tw_435 : Cond.methodLink "WholeDesk" 179 ⟨"WholeDesk$Whole", "sign", "()I"⟩ ∈ zt := zk_21 (List.mem_of_getElem? (i := 15) rfl) (by decide +kernel)
theorem tw_436 : Cond.instanceMethod ⟨"WholeDesk$Whole", "sign", "()I"⟩ ∈ zt := zk_21 (List.mem_of_getElem? (i := 16) rfl) (by decide +kernel)
theorem tw_437 : Cond.selects "WholeDesk$Whole" ⟨"WholeDesk$Whole", "sign", "()I"⟩ ⟨"WholeDesk$Whole", "sign", "()I"⟩ ∈ zt := zk_21 (List.mem_of_getElem? (i := 17) rfl) (by decide +kernel)
theorem tw_438 : Cond.code ⟨"WholeDesk$Whole", "sign", "()I"⟩ prog_4_method_11_code 1 (some .int) ∈ zt := zk_21 (List.mem_of_getElem? (i := 18) rfl) (by decide +kernel)
theorem tw_440 : Cond.methodLink "WholeDesk" 109 ⟨"WholeDesk$Reckoner", "residue", "(LWholeDesk$Whole;LWholeDesk$Whole;)LWholeDesk$Whole;"⟩ ∈ zt := zk_22 (List.mem_of_getElem? (i := 0) rfl) (by decide +kernel)
theorem tw_441 : Cond.instanceMethod ⟨"WholeDesk$Reckoner", "residue", "(LWholeDesk$Whole;LWholeDesk$Whole;)LWholeDesk$Whole;"⟩ ∈ zt := zk_22 (List.mem_of_getElem? (i := 1) rfl) (by decide +kernel)
theorem tw_442 : Cond.selects "WholeDesk$Reckoner" ⟨"WholeDesk$Reckoner", "residue", "(LWholeDesk$Whole;LWholeDesk$Whole;)LWholeDesk$Whole;"⟩ ⟨"WholeDesk$Reckoner", "residue", "(LWholeDesk$Whole;LWholeDesk$Whole;)LWholeDesk$Whole;"⟩ ∈ zt := zk_22 (List.mem_of_getElem? (i := 2) rfl) (by decide +kernel)
theorem tw_443 : Cond.code ⟨"WholeDesk$Reckoner", "residue", "(LWholeDesk$Whole;LWholeDesk$Whole;)LWholeDesk$Whole;"⟩ prog_3_method_5_code 3 (some (FieldType.object "WholeDesk$Whole")) ∈ zt := zk_22 (List.mem_of_getElem? (i := 3) rfl) (by decide +kernel)
theorem tw_444 : Cond.methodLink "WholeDeskLaw" 120 ⟨"WholeDeskLaw", "power", "(LWholeDesk;III)I"⟩ ∈ zt := zk_22 (List.mem_of_getElem? (i := 4) rfl) (by decide +kernel)
theorem tw_445 : Cond.static ⟨"WholeDeskLaw", "power", "(LWholeDesk;III)I"⟩ ∈ zt := zk_22 (List.mem_of_getElem? (i := 5) rfl) (by decide +kernel)
theorem tw_446 : Cond.codeWith ⟨"WholeDeskLaw", "power", "(LWholeDesk;III)I"⟩ method_10_code 5 (some .int) [(0, 7, 10, 13), (0, 7, 14, 21)] ∈ zt := zk_22 (List.mem_of_getElem? (i := 6) rfl) (by decide +kernel)
theorem tw_447 : Cond.methodLink "WholeDeskLaw" 42 ⟨"WholeDesk", "power", "(III)V"⟩ ∈ zt := zk_22 (List.mem_of_getElem? (i := 7) rfl) (by decide +kernel)
theorem tw_448 : Cond.instanceMethod ⟨"WholeDesk", "power", "(III)V"⟩ ∈ zt := zk_22 (List.mem_of_getElem? (i := 8) rfl) (by decide +kernel)
theorem tw_449 : Cond.selects "WholeDesk" ⟨"WholeDesk", "power", "(III)V"⟩ ⟨"WholeDesk", "power", "(III)V"⟩ ∈ zt := zk_22 (List.mem_of_getElem? (i := 9) rfl) (by decide +kernel)
theorem tw_450 : Cond.code ⟨"WholeDesk", "power", "(III)V"⟩ prog_1_method_10_code 5 none ∈ zt := zk_22 (List.mem_of_getElem? (i := 10) rfl) (by decide +kernel)
theorem tw_452 : Cond.constantLong "WholeDesk" 118 2048 ∈ zt := zk_22 (List.mem_of_getElem? (i := 12) rfl) (by decide +kernel)
theorem tw_454 : Cond.methodLink "WholeDesk" 122 ⟨"WholeDesk$Reckoner", "raised", "(LWholeDesk$Whole;I)LWholeDesk$Whole;"⟩ ∈ zt := zk_22 (List.mem_of_getElem? (i := 14) rfl) (by decide +kernel)
theorem tw_455 : Cond.instanceMethod ⟨"WholeDesk$Reckoner", "raised", "(LWholeDesk$Whole;I)LWholeDesk$Whole;"⟩ ∈ zt := zk_22 (List.mem_of_getElem? (i := 15) rfl) (by decide +kernel)
theorem tw_456 : Cond.selects "WholeDesk$Reckoner" ⟨"WholeDesk$Reckoner", "raised", "(LWholeDesk$Whole;I)LWholeDesk$Whole;"⟩ ⟨"WholeDesk$Reckoner", "raised", "(LWholeDesk$Whole;I)LWholeDesk$Whole;"⟩ ∈ zt := zk_22 (List.mem_of_getElem? (i := 16) rfl) (by decide +kernel)
theorem tw_457 : Cond.code ⟨"WholeDesk$Reckoner", "raised", "(LWholeDesk$Whole;I)LWholeDesk$Whole;"⟩ prog_3_method_6_code 4 (some (FieldType.object "WholeDesk$Whole")) ∈ zt := zk_22 (List.mem_of_getElem? (i := 17) rfl) (by decide +kernel)
theorem tw_458 : Cond.methodLink "WholeDesk$Reckoner" 88 ⟨"WholeDesk$Whole", "become", "(J)V"⟩ ∈ zt := zk_22 (List.mem_of_getElem? (i := 18) rfl) (by decide +kernel)
theorem tw_459 : Cond.methodLink "WholeDesk$Reckoner" 92 ⟨"WholeDesk$Reckoner", "times", "(LWholeDesk$Whole;)V"⟩ ∈ zt := zk_22 (List.mem_of_getElem? (i := 19) rfl) (by decide +kernel)
theorem tw_461 : Cond.instanceMethod ⟨"WholeDesk$Reckoner", "times", "(LWholeDesk$Whole;)V"⟩ ∈ zt := zk_23 (List.mem_of_getElem? (i := 1) rfl) (by decide +kernel)
theorem tw_462 : Cond.code ⟨"WholeDesk$Reckoner", "times", "(LWholeDesk$Whole;)V"⟩ prog_3_method_7_code 3 none ∈ zt := zk_23 (List.mem_of_getElem? (i := 2) rfl) (by decide +kernel)
theorem tw_463 : Cond.methodLink "WholeDeskLaw" 123 ⟨"WholeDeskLaw", "root", "(LWholeDesk;III)I"⟩ ∈ zt := zk_23 (List.mem_of_getElem? (i := 3) rfl) (by decide +kernel)
theorem tw_464 : Cond.static ⟨"WholeDeskLaw", "root", "(LWholeDesk;III)I"⟩ ∈ zt := zk_23 (List.mem_of_getElem? (i := 4) rfl) (by decide +kernel)
theorem tw_465 : Cond.codeWith ⟨"WholeDeskLaw", "root", "(LWholeDesk;III)I"⟩ method_11_code 5 (some .int) [(0, 7, 10, 13), (0, 7, 14, 21)] ∈ zt := zk_23 (List.mem_of_getElem? (i := 5) rfl) (by decide +kernel)
theorem tw_466 : Cond.methodLink "WholeDeskLaw" 45 ⟨"WholeDesk", "root", "(III)V"⟩ ∈ zt := zk_23 (List.mem_of_getElem? (i := 6) rfl) (by decide +kernel)
theorem tw_467 : Cond.instanceMethod ⟨"WholeDesk", "root", "(III)V"⟩ ∈ zt := zk_23 (List.mem_of_getElem? (i := 7) rfl) (by decide +kernel)
theorem tw_468 : Cond.selects "WholeDesk" ⟨"WholeDesk", "root", "(III)V"⟩ ⟨"WholeDesk", "root", "(III)V"⟩ ∈ zt := zk_23 (List.mem_of_getElem? (i := 8) rfl) (by decide +kernel)
theorem tw_469 : Cond.code ⟨"WholeDesk", "root", "(III)V"⟩ prog_1_method_11_code 4 none ∈ zt := zk_23 (List.mem_of_getElem? (i := 9) rfl) (by decide +kernel)
theorem tw_472 : Cond.methodLink "WholeDesk" 134 ⟨"WholeDesk$Reckoner", "rooted", "(LWholeDesk$Whole;I)LWholeDesk$Whole;"⟩ ∈ zt := zk_23 (List.mem_of_getElem? (i := 12) rfl) (by decide +kernel)
theorem tw_473 : Cond.instanceMethod ⟨"WholeDesk$Reckoner", "rooted", "(LWholeDesk$Whole;I)LWholeDesk$Whole;"⟩ ∈ zt := zk_23 (List.mem_of_getElem? (i := 13) rfl) (by decide +kernel)
theorem tw_474 : Cond.selects "WholeDesk$Reckoner" ⟨"WholeDesk$Reckoner", "rooted", "(LWholeDesk$Whole;I)LWholeDesk$Whole;"⟩ ⟨"WholeDesk$Reckoner", "rooted", "(LWholeDesk$Whole;I)LWholeDesk$Whole;"⟩ ∈ zt := zk_23 (List.mem_of_getElem? (i := 14) rfl) (by decide +kernel)
theorem tw_475 : Cond.code ⟨"WholeDesk$Reckoner", "rooted", "(LWholeDesk$Whole;I)LWholeDesk$Whole;"⟩ prog_3_method_8_code 7 (some (FieldType.object "WholeDesk$Whole")) ∈ zt := zk_23 (List.mem_of_getElem? (i := 15) rfl) (by decide +kernel)
theorem tw_476 : Cond.methodLink "WholeDesk$Reckoner" 95 ⟨"WholeDesk$Whole", "bits", "()I"⟩ ∈ zt := zk_23 (List.mem_of_getElem? (i := 16) rfl) (by decide +kernel)
theorem tw_477 : Cond.methodLink "WholeDesk$Reckoner" 99 ⟨"WholeDesk$Whole", "becomePowerOfTwo", "(I)V"⟩ ∈ zt := zk_23 (List.mem_of_getElem? (i := 17) rfl) (by decide +kernel)
theorem tw_478 : Cond.instanceMethod ⟨"WholeDesk$Whole", "becomePowerOfTwo", "(I)V"⟩ ∈ zt := zk_23 (List.mem_of_getElem? (i := 18) rfl) (by decide +kernel)
theorem tw_479 : Cond.selects "WholeDesk$Whole" ⟨"WholeDesk$Whole", "becomePowerOfTwo", "(I)V"⟩ ⟨"WholeDesk$Whole", "becomePowerOfTwo", "(I)V"⟩ ∈ zt := zk_23 (List.mem_of_getElem? (i := 19) rfl) (by decide +kernel)
theorem tw_480 : Cond.code ⟨"WholeDesk$Whole", "becomePowerOfTwo", "(I)V"⟩ prog_4_method_3_code 3 none ∈ zt := zk_24 (List.mem_of_getElem? (i := 0) rfl) (by decide +kernel)
theorem tw_481 : Cond.methodLink "WholeDesk$Reckoner" 102 ⟨"WholeDesk$Reckoner", "improve", "(LWholeDesk$Whole;ILWholeDesk$Whole;LWholeDesk$Whole;)V"⟩ ∈ zt := zk_24 (List.mem_of_getElem? (i := 1) rfl) (by decide +kernel)
theorem tw_483 : Cond.instanceMethod ⟨"WholeDesk$Reckoner", "improve", "(LWholeDesk$Whole;ILWholeDesk$Whole;LWholeDesk$Whole;)V"⟩ ∈ zt := zk_24 (List.mem_of_getElem? (i := 3) rfl) (by decide +kernel)
theorem tw_484 : Cond.code ⟨"WholeDesk$Reckoner", "improve", "(LWholeDesk$Whole;ILWholeDesk$Whole;LWholeDesk$Whole;)V"⟩ prog_3_method_9_code 5 none ∈ zt := zk_24 (List.mem_of_getElem? (i := 4) rfl) (by decide +kernel)
theorem tw_485 : Cond.methodLink "WholeDesk$Reckoner" 106 ⟨"WholeDesk$Reckoner", "raised", "(LWholeDesk$Whole;I)LWholeDesk$Whole;"⟩ ∈ zt := zk_24 (List.mem_of_getElem? (i := 5) rfl) (by decide +kernel)
theorem tw_486 : Cond.methodLink "WholeDesk$Reckoner" 110 ⟨"WholeDesk$Whole", "shrink", "(J)J"⟩ ∈ zt := zk_24 (List.mem_of_getElem? (i := 6) rfl) (by decide +kernel)
theorem tw_487 : Cond.instanceMethod ⟨"WholeDesk$Whole", "shrink", "(J)J"⟩ ∈ zt := zk_24 (List.mem_of_getElem? (i := 7) rfl) (by decide +kernel)
theorem tw_488 : Cond.selects "WholeDesk$Whole" ⟨"WholeDesk$Whole", "shrink", "(J)J"⟩ ⟨"WholeDesk$Whole", "shrink", "(J)J"⟩ ∈ zt := zk_24 (List.mem_of_getElem? (i := 8) rfl) (by decide +kernel)
theorem tw_489 : Cond.code ⟨"WholeDesk$Whole", "shrink", "(J)J"⟩ prog_4_method_27_code 8 (some .long) ∈ zt := zk_24 (List.mem_of_getElem? (i := 9) rfl) (by decide +kernel)
theorem tw_490 : Cond.methodLink "WholeDeskLaw" 126 ⟨"WholeDeskLaw", "common", "(LWholeDesk;III)I"⟩ ∈ zt := zk_24 (List.mem_of_getElem? (i := 10) rfl) (by decide +kernel)
theorem tw_491 : Cond.static ⟨"WholeDeskLaw", "common", "(LWholeDesk;III)I"⟩ ∈ zt := zk_24 (List.mem_of_getElem? (i := 11) rfl) (by decide +kernel)
theorem tw_492 : Cond.codeWith ⟨"WholeDeskLaw", "common", "(LWholeDesk;III)I"⟩ method_12_code 5 (some .int) [(0, 7, 10, 13)] ∈ zt := zk_24 (List.mem_of_getElem? (i := 12) rfl) (by decide +kernel)
theorem tw_493 : Cond.methodLink "WholeDeskLaw" 48 ⟨"WholeDesk", "common", "(III)V"⟩ ∈ zt := zk_24 (List.mem_of_getElem? (i := 13) rfl) (by decide +kernel)
theorem tw_494 : Cond.instanceMethod ⟨"WholeDesk", "common", "(III)V"⟩ ∈ zt := zk_24 (List.mem_of_getElem? (i := 14) rfl) (by decide +kernel)
theorem tw_495 : Cond.selects "WholeDesk" ⟨"WholeDesk", "common", "(III)V"⟩ ⟨"WholeDesk", "common", "(III)V"⟩ ∈ zt := zk_24 (List.mem_of_getElem? (i := 15) rfl) (by decide +kernel)
theorem tw_496 : Cond.code ⟨"WholeDesk", "common", "(III)V"⟩ prog_1_method_12_code 4 none ∈ zt := zk_24 (List.mem_of_getElem? (i := 16) rfl) (by decide +kernel)
theorem tw_497 : Cond.methodLink "WholeDesk" 137 ⟨"WholeDesk$Reckoner", "shared", "(LWholeDesk$Whole;LWholeDesk$Whole;)LWholeDesk$Whole;"⟩ ∈ zt := zk_24 (List.mem_of_getElem? (i := 17) rfl) (by decide +kernel)
theorem tw_498 : Cond.instanceMethod ⟨"WholeDesk$Reckoner", "shared", "(LWholeDesk$Whole;LWholeDesk$Whole;)LWholeDesk$Whole;"⟩ ∈ zt := zk_24 (List.mem_of_getElem? (i := 18) rfl) (by decide +kernel)
theorem tw_499 : Cond.selects "WholeDesk$Reckoner" ⟨"WholeDesk$Reckoner", "shared", "(LWholeDesk$Whole;LWholeDesk$Whole;)LWholeDesk$Whole;"⟩ ⟨"WholeDesk$Reckoner", "shared", "(LWholeDesk$Whole;LWholeDesk$Whole;)LWholeDesk$Whole;"⟩ ∈ zt := zk_24 (List.mem_of_getElem? (i := 19) rfl) (by decide +kernel)
theorem tw_500 : Cond.code ⟨"WholeDesk$Reckoner", "shared", "(LWholeDesk$Whole;LWholeDesk$Whole;)LWholeDesk$Whole;"⟩ prog_3_method_10_code 7 (some (FieldType.object "WholeDesk$Whole")) ∈ zt := zk_25 (List.mem_of_getElem? (i := 0) rfl) (by decide +kernel)
theorem tw_501 : Cond.methodLink "WholeDeskLaw" 129 ⟨"WholeDeskLaw", "inverse", "(LWholeDesk;III)I"⟩ ∈ zt := zk_25 (List.mem_of_getElem? (i := 1) rfl) (by decide +kernel)
theorem tw_502 : Cond.static ⟨"WholeDeskLaw", "inverse", "(LWholeDesk;III)I"⟩ ∈ zt := zk_25 (List.mem_of_getElem? (i := 2) rfl) (by decide +kernel)
theorem tw_503 : Cond.codeWith ⟨"WholeDeskLaw", "inverse", "(LWholeDesk;III)I"⟩ method_13_code 5 (some .int) [(0, 7, 10, 13), (0, 7, 14, 21)] ∈ zt := zk_25 (List.mem_of_getElem? (i := 3) rfl) (by decide +kernel)
theorem tw_504 : Cond.methodLink "WholeDeskLaw" 51 ⟨"WholeDesk", "inverse", "(III)V"⟩ ∈ zt := zk_25 (List.mem_of_getElem? (i := 4) rfl) (by decide +kernel)
theorem tw_505 : Cond.instanceMethod ⟨"WholeDesk", "inverse", "(III)V"⟩ ∈ zt := zk_25 (List.mem_of_getElem? (i := 5) rfl) (by decide +kernel)
theorem tw_506 : Cond.selects "WholeDesk" ⟨"WholeDesk", "inverse", "(III)V"⟩ ⟨"WholeDesk", "inverse", "(III)V"⟩ ∈ zt := zk_25 (List.mem_of_getElem? (i := 6) rfl) (by decide +kernel)
theorem tw_507 : Cond.code ⟨"WholeDesk", "inverse", "(III)V"⟩ prog_1_method_13_code 4 none ∈ zt := zk_25 (List.mem_of_getElem? (i := 7) rfl) (by decide +kernel)
theorem tw_508 : Cond.methodLink "WholeDesk" 143 ⟨"WholeDesk$Reckoner", "inverted", "(LWholeDesk$Whole;LWholeDesk$Whole;)LWholeDesk$Whole;"⟩ ∈ zt := zk_25 (List.mem_of_getElem? (i := 8) rfl) (by decide +kernel)
theorem tw_509 : Cond.instanceMethod ⟨"WholeDesk$Reckoner", "inverted", "(LWholeDesk$Whole;LWholeDesk$Whole;)LWholeDesk$Whole;"⟩ ∈ zt := zk_25 (List.mem_of_getElem? (i := 9) rfl) (by decide +kernel)
theorem tw_510 : Cond.selects "WholeDesk$Reckoner" ⟨"WholeDesk$Reckoner", "inverted", "(LWholeDesk$Whole;LWholeDesk$Whole;)LWholeDesk$Whole;"⟩ ⟨"WholeDesk$Reckoner", "inverted", "(LWholeDesk$Whole;LWholeDesk$Whole;)LWholeDesk$Whole;"⟩ ∈ zt := zk_25 (List.mem_of_getElem? (i := 10) rfl) (by decide +kernel)
theorem tw_511 : Cond.code ⟨"WholeDesk$Reckoner", "inverted", "(LWholeDesk$Whole;LWholeDesk$Whole;)LWholeDesk$Whole;"⟩ prog_3_method_11_code 11 (some (FieldType.object "WholeDesk$Whole")) ∈ zt := zk_25 (List.mem_of_getElem? (i := 11) rfl) (by decide +kernel)
theorem tw_512 : Cond.methodLink "WholeDesk$Reckoner" 114 ⟨"WholeDesk$Reckoner", "residue", "(LWholeDesk$Whole;LWholeDesk$Whole;)LWholeDesk$Whole;"⟩ ∈ zt := zk_25 (List.mem_of_getElem? (i := 12) rfl) (by decide +kernel)
theorem tw_513 : Cond.methodLink "WholeDesk$Reckoner" 118 ⟨"WholeDesk$Whole", "gather", "(LWholeDesk$Whole;LWholeDesk$Whole;)V"⟩ ∈ zt := zk_25 (List.mem_of_getElem? (i := 13) rfl) (by decide +kernel)
theorem tw_514 : Cond.instanceMethod ⟨"WholeDesk$Whole", "gather", "(LWholeDesk$Whole;LWholeDesk$Whole;)V"⟩ ∈ zt := zk_25 (List.mem_of_getElem? (i := 14) rfl) (by decide +kernel)
theorem tw_515 : Cond.selects "WholeDesk$Whole" ⟨"WholeDesk$Whole", "gather", "(LWholeDesk$Whole;LWholeDesk$Whole;)V"⟩ ⟨"WholeDesk$Whole", "gather", "(LWholeDesk$Whole;LWholeDesk$Whole;)V"⟩ ∈ zt := zk_25 (List.mem_of_getElem? (i := 15) rfl) (by decide +kernel)
theorem tw_516 : Cond.code ⟨"WholeDesk$Whole", "gather", "(LWholeDesk$Whole;LWholeDesk$Whole;)V"⟩ prog_4_method_22_code 4 none ∈ zt := zk_25 (List.mem_of_getElem? (i := 16) rfl) (by decide +kernel)
theorem tw_517 : Cond.methodLink "WholeDesk$Reckoner" 121 ⟨"WholeDesk$Whole", "isOne", "()Z"⟩ ∈ zt := zk_25 (List.mem_of_getElem? (i := 17) rfl) (by decide +kernel)
theorem tw_518 : Cond.instanceMethod ⟨"WholeDesk$Whole", "isOne", "()Z"⟩ ∈ zt := zk_25 (List.mem_of_getElem? (i := 18) rfl) (by decide +kernel)
theorem tw_519 : Cond.selects "WholeDesk$Whole" ⟨"WholeDesk$Whole", "isOne", "()Z"⟩ ⟨"WholeDesk$Whole", "isOne", "()Z"⟩ ∈ zt := zk_25 (List.mem_of_getElem? (i := 19) rfl) (by decide +kernel)
theorem tw_520 : Cond.code ⟨"WholeDesk$Whole", "isOne", "()Z"⟩ prog_4_method_14_code 1 (some .boolean) ∈ zt := zk_26 (List.mem_of_getElem? (i := 0) rfl) (by decide +kernel)
theorem tw_521 : Cond.classLink "WholeDesk$Reckoner" 125 "java/lang/ArithmeticException" ∈ zt := zk_26 (List.mem_of_getElem? (i := 1) rfl) (by decide +kernel)
theorem tw_523 : Cond.methodLink "WholeDesk$Reckoner" 129 ⟨"java/lang/ArithmeticException", "<init>", "(Ljava/lang/String;)V"⟩ ∈ zt := zk_26 (List.mem_of_getElem? (i := 3) rfl) (by decide +kernel)
theorem tw_524 : Cond.methodLink "WholeDeskLaw" 132 ⟨"WholeDeskLaw", "powerModulo", "(LWholeDesk;IIII)I"⟩ ∈ zt := zk_26 (List.mem_of_getElem? (i := 4) rfl) (by decide +kernel)
theorem tw_525 : Cond.static ⟨"WholeDeskLaw", "powerModulo", "(LWholeDesk;IIII)I"⟩ ∈ zt := zk_26 (List.mem_of_getElem? (i := 5) rfl) (by decide +kernel)
theorem tw_526 : Cond.codeWith ⟨"WholeDeskLaw", "powerModulo", "(LWholeDesk;IIII)I"⟩ method_14_code 6 (some .int) [(0, 9, 12, 13), (0, 9, 16, 21)] ∈ zt := zk_26 (List.mem_of_getElem? (i := 6) rfl) (by decide +kernel)
theorem tw_527 : Cond.methodLink "WholeDeskLaw" 54 ⟨"WholeDesk", "powerModulo", "(IIII)V"⟩ ∈ zt := zk_26 (List.mem_of_getElem? (i := 7) rfl) (by decide +kernel)
theorem tw_528 : Cond.instanceMethod ⟨"WholeDesk", "powerModulo", "(IIII)V"⟩ ∈ zt := zk_26 (List.mem_of_getElem? (i := 8) rfl) (by decide +kernel)
theorem tw_529 : Cond.selects "WholeDesk" ⟨"WholeDesk", "powerModulo", "(IIII)V"⟩ ⟨"WholeDesk", "powerModulo", "(IIII)V"⟩ ∈ zt := zk_26 (List.mem_of_getElem? (i := 9) rfl) (by decide +kernel)
theorem tw_530 : Cond.code ⟨"WholeDesk", "powerModulo", "(IIII)V"⟩ prog_1_method_14_code 5 none ∈ zt := zk_26 (List.mem_of_getElem? (i := 10) rfl) (by decide +kernel)
theorem tw_531 : Cond.methodLink "WholeDesk" 146 ⟨"WholeDesk$Reckoner", "raisedModulo", "(LWholeDesk$Whole;LWholeDesk$Whole;LWholeDesk$Whole;)LWholeDesk$Whole;"⟩ ∈ zt := zk_26 (List.mem_of_getElem? (i := 11) rfl) (by decide +kernel)
theorem tw_532 : Cond.instanceMethod ⟨"WholeDesk$Reckoner", "raisedModulo", "(LWholeDesk$Whole;LWholeDesk$Whole;LWholeDesk$Whole;)LWholeDesk$Whole;"⟩ ∈ zt := zk_26 (List.mem_of_getElem? (i := 12) rfl) (by decide +kernel)
theorem tw_533 : Cond.selects "WholeDesk$Reckoner" ⟨"WholeDesk$Reckoner", "raisedModulo", "(LWholeDesk$Whole;LWholeDesk$Whole;LWholeDesk$Whole;)LWholeDesk$Whole;"⟩ ⟨"WholeDesk$Reckoner", "raisedModulo", "(LWholeDesk$Whole;LWholeDesk$Whole;LWholeDesk$Whole;)LWholeDesk$Whole;"⟩ ∈ zt := zk_26 (List.mem_of_getElem? (i := 13) rfl) (by decide +kernel)
theorem tw_534 : Cond.code ⟨"WholeDesk$Reckoner", "raisedModulo", "(LWholeDesk$Whole;LWholeDesk$Whole;LWholeDesk$Whole;)LWholeDesk$Whole;"⟩ prog_3_method_12_code 7 (some (FieldType.object "WholeDesk$Whole")) ∈ zt := zk_26 (List.mem_of_getElem? (i := 14) rfl) (by decide +kernel)
theorem tw_535 : Cond.methodLink "WholeDesk$Reckoner" 132 ⟨"WholeDesk$Reckoner", "inverted", "(LWholeDesk$Whole;LWholeDesk$Whole;)LWholeDesk$Whole;"⟩ ∈ zt := zk_26 (List.mem_of_getElem? (i := 15) rfl) (by decide +kernel)
theorem tw_536 : Cond.methodLink "WholeDesk$Reckoner" 135 ⟨"WholeDesk$Reckoner", "fillPowers", "(LWholeDesk$Whole;LWholeDesk$Whole;)V"⟩ ∈ zt := zk_26 (List.mem_of_getElem? (i := 16) rfl) (by decide +kernel)
theorem tw_538 : Cond.instanceMethod ⟨"WholeDesk$Reckoner", "fillPowers", "(LWholeDesk$Whole;LWholeDesk$Whole;)V"⟩ ∈ zt := zk_26 (List.mem_of_getElem? (i := 18) rfl) (by decide +kernel)
theorem tw_539 : Cond.code ⟨"WholeDesk$Reckoner", "fillPowers", "(LWholeDesk$Whole;LWholeDesk$Whole;)V"⟩ prog_3_method_13_code 4 none ∈ zt := zk_26 (List.mem_of_getElem? (i := 19) rfl) (by decide +kernel)
theorem tw_540 : Cond.methodLink "WholeDesk$Reckoner" 138 ⟨"WholeDesk$Reckoner", "timesModulo", "(LWholeDesk$Whole;LWholeDesk$Whole;)V"⟩ ∈ zt := zk_27 (List.mem_of_getElem? (i := 0) rfl) (by decide +kernel)
theorem tw_542 : Cond.instanceMethod ⟨"WholeDesk$Reckoner", "timesModulo", "(LWholeDesk$Whole;LWholeDesk$Whole;)V"⟩ ∈ zt := zk_27 (List.mem_of_getElem? (i := 2) rfl) (by decide +kernel)
theorem tw_543 : Cond.code ⟨"WholeDesk$Reckoner", "timesModulo", "(LWholeDesk$Whole;LWholeDesk$Whole;)V"⟩ prog_3_method_14_code 3 none ∈ zt := zk_27 (List.mem_of_getElem? (i := 3) rfl) (by decide +kernel)
theorem tw_544 : Cond.methodLink "WholeDesk$Reckoner" 141 ⟨"WholeDesk$Whole", "limb", "(I)J"⟩ ∈ zt := zk_27 (List.mem_of_getElem? (i := 4) rfl) (by decide +kernel)
theorem tw_545 : Cond.methodLink "WholeDeskLaw" 135 ⟨"WholeDeskLaw", "combine", "(LWholeDesk;IIII)I"⟩ ∈ zt := zk_27 (List.mem_of_getElem? (i := 5) rfl) (by decide +kernel)
theorem tw_546 : Cond.static ⟨"WholeDeskLaw", "combine", "(LWholeDesk;IIII)I"⟩ ∈ zt := zk_27 (List.mem_of_getElem? (i := 6) rfl) (by decide +kernel)
theorem tw_547 : Cond.codeWith ⟨"WholeDeskLaw", "combine", "(LWholeDesk;IIII)I"⟩ method_15_code 6 (some .int) [(0, 9, 12, 13), (0, 9, 16, 21)] ∈ zt := zk_27 (List.mem_of_getElem? (i := 7) rfl) (by decide +kernel)
theorem tw_548 : Cond.methodLink "WholeDeskLaw" 57 ⟨"WholeDesk", "combine", "(IIII)V"⟩ ∈ zt := zk_27 (List.mem_of_getElem? (i := 8) rfl) (by decide +kernel)
theorem tw_549 : Cond.instanceMethod ⟨"WholeDesk", "combine", "(IIII)V"⟩ ∈ zt := zk_27 (List.mem_of_getElem? (i := 9) rfl) (by decide +kernel)
theorem tw_550 : Cond.selects "WholeDesk" ⟨"WholeDesk", "combine", "(IIII)V"⟩ ⟨"WholeDesk", "combine", "(IIII)V"⟩ ∈ zt := zk_27 (List.mem_of_getElem? (i := 10) rfl) (by decide +kernel)
theorem tw_551 : Cond.code ⟨"WholeDesk", "combine", "(IIII)V"⟩ prog_1_method_15_code 5 none ∈ zt := zk_27 (List.mem_of_getElem? (i := 11) rfl) (by decide +kernel)
theorem tw_553 : Cond.methodLink "WholeDesk" 152 ⟨"WholeDesk$Reckoner", "combined", "(LWholeDesk$Whole;LWholeDesk$Whole;I)LWholeDesk$Whole;"⟩ ∈ zt := zk_27 (List.mem_of_getElem? (i := 13) rfl) (by decide +kernel)
theorem tw_554 : Cond.instanceMethod ⟨"WholeDesk$Reckoner", "combined", "(LWholeDesk$Whole;LWholeDesk$Whole;I)LWholeDesk$Whole;"⟩ ∈ zt := zk_27 (List.mem_of_getElem? (i := 14) rfl) (by decide +kernel)
theorem tw_555 : Cond.selects "WholeDesk$Reckoner" ⟨"WholeDesk$Reckoner", "combined", "(LWholeDesk$Whole;LWholeDesk$Whole;I)LWholeDesk$Whole;"⟩ ⟨"WholeDesk$Reckoner", "combined", "(LWholeDesk$Whole;LWholeDesk$Whole;I)LWholeDesk$Whole;"⟩ ∈ zt := zk_27 (List.mem_of_getElem? (i := 15) rfl) (by decide +kernel)
theorem tw_556 : Cond.code ⟨"WholeDesk$Reckoner", "combined", "(LWholeDesk$Whole;LWholeDesk$Whole;I)LWholeDesk$Whole;"⟩ prog_3_method_15_code 6 (some (FieldType.object "WholeDesk$Whole")) ∈ zt := zk_27 (List.mem_of_getElem? (i := 16) rfl) (by decide +kernel)
theorem tw_557 : Cond.methodLink "WholeDesk$Reckoner" 145 ⟨"WholeDesk$Reckoner", "spread", "(LWholeDesk$Whole;ILWholeDesk$Whole;)V"⟩ ∈ zt := zk_27 (List.mem_of_getElem? (i := 17) rfl) (by decide +kernel)
theorem tw_558 : Cond.static ⟨"WholeDesk$Reckoner", "spread", "(LWholeDesk$Whole;ILWholeDesk$Whole;)V"⟩ ∈ zt := zk_27 (List.mem_of_getElem? (i := 18) rfl) (by decide +kernel)
theorem tw_559 : Cond.code ⟨"WholeDesk$Reckoner", "spread", "(LWholeDesk$Whole;ILWholeDesk$Whole;)V"⟩ prog_3_method_16_code 3 none ∈ zt := zk_27 (List.mem_of_getElem? (i := 19) rfl) (by decide +kernel)
theorem tw_560 : Cond.methodLink "WholeDesk$Reckoner" 157 ⟨"WholeDesk$Whole", "turn", "()V"⟩ ∈ zt := zk_28 (List.mem_of_getElem? (i := 0) rfl) (by decide +kernel)
theorem tw_561 : Cond.instanceMethod ⟨"WholeDesk$Whole", "turn", "()V"⟩ ∈ zt := zk_28 (List.mem_of_getElem? (i := 1) rfl) (by decide +kernel)
theorem tw_562 : Cond.selects "WholeDesk$Whole" ⟨"WholeDesk$Whole", "turn", "()V"⟩ ⟨"WholeDesk$Whole", "turn", "()V"⟩ ∈ zt := zk_28 (List.mem_of_getElem? (i := 2) rfl) (by decide +kernel)
theorem tw_563 : Cond.code ⟨"WholeDesk$Whole", "turn", "()V"⟩ prog_4_method_28_code 6 none ∈ zt := zk_28 (List.mem_of_getElem? (i := 3) rfl) (by decide +kernel)
theorem tw_564 : Cond.methodLink "WholeDesk$Reckoner" 153 ⟨"WholeDesk$Reckoner", "joined", "(JJI)J"⟩ ∈ zt := zk_28 (List.mem_of_getElem? (i := 4) rfl) (by decide +kernel)
theorem tw_565 : Cond.static ⟨"WholeDesk$Reckoner", "joined", "(JJI)J"⟩ ∈ zt := zk_28 (List.mem_of_getElem? (i := 5) rfl) (by decide +kernel)
theorem tw_566 : Cond.code ⟨"WholeDesk$Reckoner", "joined", "(JJI)J"⟩ prog_3_method_17_code 5 (some .long) ∈ zt := zk_28 (List.mem_of_getElem? (i := 6) rfl) (by decide +kernel)
theorem tw_567 : Cond.methodLink "WholeDeskLaw" 138 ⟨"WholeDeskLaw", "shift", "(LWholeDesk;III)I"⟩ ∈ zt := zk_28 (List.mem_of_getElem? (i := 7) rfl) (by decide +kernel)
theorem tw_568 : Cond.static ⟨"WholeDeskLaw", "shift", "(LWholeDesk;III)I"⟩ ∈ zt := zk_28 (List.mem_of_getElem? (i := 8) rfl) (by decide +kernel)
theorem tw_569 : Cond.codeWith ⟨"WholeDeskLaw", "shift", "(LWholeDesk;III)I"⟩ method_16_code 5 (some .int) [(0, 7, 10, 13), (0, 7, 14, 21)] ∈ zt := zk_28 (List.mem_of_getElem? (i := 9) rfl) (by decide +kernel)
theorem tw_570 : Cond.methodLink "WholeDeskLaw" 60 ⟨"WholeDesk", "shift", "(III)V"⟩ ∈ zt := zk_28 (List.mem_of_getElem? (i := 10) rfl) (by decide +kernel)
theorem tw_571 : Cond.instanceMethod ⟨"WholeDesk", "shift", "(III)V"⟩ ∈ zt := zk_28 (List.mem_of_getElem? (i := 11) rfl) (by decide +kernel)
theorem tw_572 : Cond.selects "WholeDesk" ⟨"WholeDesk", "shift", "(III)V"⟩ ⟨"WholeDesk", "shift", "(III)V"⟩ ∈ zt := zk_28 (List.mem_of_getElem? (i := 12) rfl) (by decide +kernel)
theorem tw_573 : Cond.code ⟨"WholeDesk", "shift", "(III)V"⟩ prog_1_method_16_code 5 none ∈ zt := zk_28 (List.mem_of_getElem? (i := 13) rfl) (by decide +kernel)
theorem tw_575 : Cond.methodLink "WholeDesk" 158 ⟨"WholeDesk$Reckoner", "shiftedUp", "(LWholeDesk$Whole;I)LWholeDesk$Whole;"⟩ ∈ zt := zk_28 (List.mem_of_getElem? (i := 15) rfl) (by decide +kernel)
theorem tw_576 : Cond.instanceMethod ⟨"WholeDesk$Reckoner", "shiftedUp", "(LWholeDesk$Whole;I)LWholeDesk$Whole;"⟩ ∈ zt := zk_28 (List.mem_of_getElem? (i := 16) rfl) (by decide +kernel)
theorem tw_577 : Cond.selects "WholeDesk$Reckoner" ⟨"WholeDesk$Reckoner", "shiftedUp", "(LWholeDesk$Whole;I)LWholeDesk$Whole;"⟩ ⟨"WholeDesk$Reckoner", "shiftedUp", "(LWholeDesk$Whole;I)LWholeDesk$Whole;"⟩ ∈ zt := zk_28 (List.mem_of_getElem? (i := 17) rfl) (by decide +kernel)
theorem tw_578 : Cond.code ⟨"WholeDesk$Reckoner", "shiftedUp", "(LWholeDesk$Whole;I)LWholeDesk$Whole;"⟩ prog_3_method_18_code 5 (some (FieldType.object "WholeDesk$Whole")) ∈ zt := zk_28 (List.mem_of_getElem? (i := 18) rfl) (by decide +kernel)
theorem tw_579 : Cond.methodLink "WholeDesk$Reckoner" 160 ⟨"WholeDesk$Whole", "limbShifted", "(II)J"⟩ ∈ zt := zk_28 (List.mem_of_getElem? (i := 19) rfl) (by decide +kernel)
theorem tw_580 : Cond.methodLink "WholeDesk" 161 ⟨"WholeDesk$Reckoner", "shiftedDown", "(LWholeDesk$Whole;J)LWholeDesk$Whole;"⟩ ∈ zt := zk_29 (List.mem_of_getElem? (i := 0) rfl) (by decide +kernel)
theorem tw_581 : Cond.instanceMethod ⟨"WholeDesk$Reckoner", "shiftedDown", "(LWholeDesk$Whole;J)LWholeDesk$Whole;"⟩ ∈ zt := zk_29 (List.mem_of_getElem? (i := 1) rfl) (by decide +kernel)
theorem tw_582 : Cond.selects "WholeDesk$Reckoner" ⟨"WholeDesk$Reckoner", "shiftedDown", "(LWholeDesk$Whole;J)LWholeDesk$Whole;"⟩ ⟨"WholeDesk$Reckoner", "shiftedDown", "(LWholeDesk$Whole;J)LWholeDesk$Whole;"⟩ ∈ zt := zk_29 (List.mem_of_getElem? (i := 2) rfl) (by decide +kernel)
theorem tw_583 : Cond.code ⟨"WholeDesk$Reckoner", "shiftedDown", "(LWholeDesk$Whole;J)LWholeDesk$Whole;"⟩ prog_3_method_19_code 7 (some (FieldType.object "WholeDesk$Whole")) ∈ zt := zk_29 (List.mem_of_getElem? (i := 3) rfl) (by decide +kernel)
theorem tw_584 : Cond.constantLong "WholeDesk$Reckoner" 164 2048 ∈ zt := zk_29 (List.mem_of_getElem? (i := 4) rfl) (by decide +kernel)
theorem tw_585 : Cond.methodLink "WholeDesk$Reckoner" 166 ⟨"java/lang/Math", "min", "(JJ)J"⟩ ∈ zt := zk_29 (List.mem_of_getElem? (i := 5) rfl) (by decide +kernel)
theorem tw_586 : Cond.static ⟨"java/lang/Math", "min", "(JJ)J"⟩ ∈ zt := zk_29 (List.mem_of_getElem? (i := 6) rfl) (by decide +kernel)
theorem tw_587 : Cond.code ⟨"java/lang/Math", "min", "(JJ)J"⟩ prog_13_method_70_code 4 (some .long) ∈ zt := zk_29 (List.mem_of_getElem? (i := 7) rfl) (by decide +kernel)
theorem tw_588 : Cond.methodLink "WholeDesk$Reckoner" 170 ⟨"WholeDesk$Whole", "lowestOne", "()I"⟩ ∈ zt := zk_29 (List.mem_of_getElem? (i := 8) rfl) (by decide +kernel)
theorem tw_589 : Cond.instanceMethod ⟨"WholeDesk$Whole", "lowestOne", "()I"⟩ ∈ zt := zk_29 (List.mem_of_getElem? (i := 9) rfl) (by decide +kernel)
theorem tw_590 : Cond.selects "WholeDesk$Whole" ⟨"WholeDesk$Whole", "lowestOne", "()I"⟩ ⟨"WholeDesk$Whole", "lowestOne", "()I"⟩ ∈ zt := zk_29 (List.mem_of_getElem? (i := 10) rfl) (by decide +kernel)
theorem tw_591 : Cond.code ⟨"WholeDesk$Whole", "lowestOne", "()I"⟩ prog_4_method_16_code 2 (some .int) ∈ zt := zk_29 (List.mem_of_getElem? (i := 11) rfl) (by decide +kernel)
theorem tw_592 : Cond.methodLink "WholeDesk$Whole" 59 ⟨"java/lang/Long", "bitCount", "(J)I"⟩ ∈ zt := zk_29 (List.mem_of_getElem? (i := 12) rfl) (by decide +kernel)
theorem tw_593 : Cond.static ⟨"java/lang/Long", "bitCount", "(J)I"⟩ ∈ zt := zk_29 (List.mem_of_getElem? (i := 13) rfl) (by decide +kernel)
theorem tw_594 : Cond.code ⟨"java/lang/Long", "bitCount", "(J)I"⟩ prog_12_method_50_code 2 (some .int) ∈ zt := zk_29 (List.mem_of_getElem? (i := 14) rfl) (by decide +kernel)
theorem tw_595 : Cond.constantLong "java/lang/Long" 314 6148914691236517205 ∈ zt := zk_29 (List.mem_of_getElem? (i := 15) rfl) (by decide +kernel)
theorem tw_596 : Cond.constantLong "java/lang/Long" 316 3689348814741910323 ∈ zt := zk_29 (List.mem_of_getElem? (i := 16) rfl) (by decide +kernel)
theorem tw_597 : Cond.constantLong "java/lang/Long" 318 1085102592571150095 ∈ zt := zk_29 (List.mem_of_getElem? (i := 17) rfl) (by decide +kernel)
theorem tw_598 : Cond.methodLink "WholeDesk$Reckoner" 173 ⟨"WholeDesk$Whole", "scale", "(JJ)V"⟩ ∈ zt := zk_29 (List.mem_of_getElem? (i := 18) rfl) (by decide +kernel)
theorem tw_599 : Cond.methodLink "WholeDeskLaw" 141 ⟨"WholeDeskLaw", "bit", "(LWholeDesk;II[J)I"⟩ ∈ zt := zk_29 (List.mem_of_getElem? (i := 19) rfl) (by decide +kernel)
theorem tw_600 : Cond.static ⟨"WholeDeskLaw", "bit", "(LWholeDesk;II[J)I"⟩ ∈ zt := zk_30 (List.mem_of_getElem? (i := 0) rfl) (by decide +kernel)
theorem tw_601 : Cond.codeWith ⟨"WholeDeskLaw", "bit", "(LWholeDesk;II[J)I"⟩ method_17_code 5 (some .int) [(0, 10, 13, 13)] ∈ zt := zk_30 (List.mem_of_getElem? (i := 1) rfl) (by decide +kernel)
theorem tw_602 : Cond.methodLink "WholeDeskLaw" 63 ⟨"WholeDesk", "bit", "(II)I"⟩ ∈ zt := zk_30 (List.mem_of_getElem? (i := 2) rfl) (by decide +kernel)
theorem tw_603 : Cond.instanceMethod ⟨"WholeDesk", "bit", "(II)I"⟩ ∈ zt := zk_30 (List.mem_of_getElem? (i := 3) rfl) (by decide +kernel)
theorem tw_604 : Cond.selects "WholeDesk" ⟨"WholeDesk", "bit", "(II)I"⟩ ⟨"WholeDesk", "bit", "(II)I"⟩ ∈ zt := zk_30 (List.mem_of_getElem? (i := 4) rfl) (by decide +kernel)
theorem tw_605 : Cond.code ⟨"WholeDesk", "bit", "(II)I"⟩ prog_1_method_17_code 3 (some .int) ∈ zt := zk_30 (List.mem_of_getElem? (i := 5) rfl) (by decide +kernel)
theorem tw_607 : Cond.methodLink "WholeDesk" 167 ⟨"WholeDesk$Whole", "bitAt", "(I)I"⟩ ∈ zt := zk_30 (List.mem_of_getElem? (i := 7) rfl) (by decide +kernel)
theorem tw_608 : Cond.instanceMethod ⟨"WholeDesk$Whole", "bitAt", "(I)I"⟩ ∈ zt := zk_30 (List.mem_of_getElem? (i := 8) rfl) (by decide +kernel)
theorem tw_609 : Cond.selects "WholeDesk$Whole" ⟨"WholeDesk$Whole", "bitAt", "(I)I"⟩ ⟨"WholeDesk$Whole", "bitAt", "(I)I"⟩ ∈ zt := zk_30 (List.mem_of_getElem? (i := 9) rfl) (by decide +kernel)
theorem tw_610 : Cond.code ⟨"WholeDesk$Whole", "bitAt", "(I)I"⟩ prog_4_method_17_code 3 (some .int) ∈ zt := zk_30 (List.mem_of_getElem? (i := 10) rfl) (by decide +kernel)
theorem tw_611 : Cond.methodLink "WholeDesk$Whole" 64 ⟨"WholeDesk$Whole", "lowestOne", "()I"⟩ ∈ zt := zk_30 (List.mem_of_getElem? (i := 11) rfl) (by decide +kernel)
theorem tw_612 : Cond.methodLink "WholeDeskLaw" 145 ⟨"WholeDeskLaw", "compare", "(LWholeDesk;II[J)I"⟩ ∈ zt := zk_30 (List.mem_of_getElem? (i := 12) rfl) (by decide +kernel)
theorem tw_613 : Cond.static ⟨"WholeDeskLaw", "compare", "(LWholeDesk;II[J)I"⟩ ∈ zt := zk_30 (List.mem_of_getElem? (i := 13) rfl) (by decide +kernel)
theorem tw_614 : Cond.codeWith ⟨"WholeDeskLaw", "compare", "(LWholeDesk;II[J)I"⟩ method_18_code 5 (some .int) [(0, 10, 13, 13)] ∈ zt := zk_30 (List.mem_of_getElem? (i := 14) rfl) (by decide +kernel)
theorem tw_615 : Cond.methodLink "WholeDeskLaw" 67 ⟨"WholeDesk", "compare", "(II)I"⟩ ∈ zt := zk_30 (List.mem_of_getElem? (i := 15) rfl) (by decide +kernel)
theorem tw_616 : Cond.instanceMethod ⟨"WholeDesk", "compare", "(II)I"⟩ ∈ zt := zk_30 (List.mem_of_getElem? (i := 16) rfl) (by decide +kernel)
theorem tw_617 : Cond.selects "WholeDesk" ⟨"WholeDesk", "compare", "(II)I"⟩ ⟨"WholeDesk", "compare", "(II)I"⟩ ∈ zt := zk_30 (List.mem_of_getElem? (i := 17) rfl) (by decide +kernel)
theorem tw_618 : Cond.code ⟨"WholeDesk", "compare", "(II)I"⟩ prog_1_method_18_code 3 (some .int) ∈ zt := zk_30 (List.mem_of_getElem? (i := 18) rfl) (by decide +kernel)
theorem tw_619 : Cond.methodLink "WholeDesk" 171 ⟨"WholeDesk$Whole", "against", "(LWholeDesk$Whole;)I"⟩ ∈ zt := zk_30 (List.mem_of_getElem? (i := 19) rfl) (by decide +kernel)
theorem tw_620 : Cond.instanceMethod ⟨"WholeDesk$Whole", "against", "(LWholeDesk$Whole;)I"⟩ ∈ zt := zk_31 (List.mem_of_getElem? (i := 0) rfl) (by decide +kernel)
theorem tw_621 : Cond.selects "WholeDesk$Whole" ⟨"WholeDesk$Whole", "against", "(LWholeDesk$Whole;)I"⟩ ⟨"WholeDesk$Whole", "against", "(LWholeDesk$Whole;)I"⟩ ∈ zt := zk_31 (List.mem_of_getElem? (i := 1) rfl) (by decide +kernel)
theorem tw_622 : Cond.code ⟨"WholeDesk$Whole", "against", "(LWholeDesk$Whole;)I"⟩ prog_4_method_13_code 2 (some .int) ∈ zt := zk_31 (List.mem_of_getElem? (i := 2) rfl) (by decide +kernel)
theorem tw_623 : Cond.methodLink "WholeDesk$Whole" 55 ⟨"WholeDesk$Whole", "sizeAgainst", "(LWholeDesk$Whole;)I"⟩ ∈ zt := zk_31 (List.mem_of_getElem? (i := 3) rfl) (by decide +kernel)
theorem tw_624 : Cond.methodLink "WholeDeskLaw" 148 ⟨"WholeDeskLaw", "told", "(LWholeDesk;II[J)I"⟩ ∈ zt := zk_31 (List.mem_of_getElem? (i := 4) rfl) (by decide +kernel)
theorem tw_625 : Cond.static ⟨"WholeDeskLaw", "told", "(LWholeDesk;II[J)I"⟩ ∈ zt := zk_31 (List.mem_of_getElem? (i := 5) rfl) (by decide +kernel)
theorem tw_626 : Cond.codeWith ⟨"WholeDeskLaw", "told", "(LWholeDesk;II[J)I"⟩ method_19_code 5 (some .int) [(0, 9, 12, 13)] ∈ zt := zk_31 (List.mem_of_getElem? (i := 6) rfl) (by decide +kernel)
theorem tw_627 : Cond.methodLink "WholeDeskLaw" 70 ⟨"WholeDesk", "told", "(II)J"⟩ ∈ zt := zk_31 (List.mem_of_getElem? (i := 7) rfl) (by decide +kernel)
theorem tw_628 : Cond.instanceMethod ⟨"WholeDesk", "told", "(II)J"⟩ ∈ zt := zk_31 (List.mem_of_getElem? (i := 8) rfl) (by decide +kernel)
theorem tw_629 : Cond.selects "WholeDesk" ⟨"WholeDesk", "told", "(II)J"⟩ ⟨"WholeDesk", "told", "(II)J"⟩ ∈ zt := zk_31 (List.mem_of_getElem? (i := 9) rfl) (by decide +kernel)
theorem tw_630 : Cond.code ⟨"WholeDesk", "told", "(II)J"⟩ prog_1_method_19_code 4 (some .long) ∈ zt := zk_31 (List.mem_of_getElem? (i := 10) rfl) (by decide +kernel)
theorem tw_631 : Cond.methodLink "WholeDesk" 175 ⟨"WholeDesk$Whole", "lowest64", "()J"⟩ ∈ zt := zk_31 (List.mem_of_getElem? (i := 11) rfl) (by decide +kernel)
theorem tw_632 : Cond.instanceMethod ⟨"WholeDesk$Whole", "lowest64", "()J"⟩ ∈ zt := zk_31 (List.mem_of_getElem? (i := 12) rfl) (by decide +kernel)
theorem tw_633 : Cond.selects "WholeDesk$Whole" ⟨"WholeDesk$Whole", "lowest64", "()J"⟩ ⟨"WholeDesk$Whole", "lowest64", "()J"⟩ ∈ zt := zk_31 (List.mem_of_getElem? (i := 13) rfl) (by decide +kernel)
theorem tw_634 : Cond.code ⟨"WholeDesk$Whole", "lowest64", "()J"⟩ prog_4_method_15_code 3 (some .long) ∈ zt := zk_31 (List.mem_of_getElem? (i := 14) rfl) (by decide +kernel)
theorem tw_635 : Cond.methodLink "WholeDesk" 182 ⟨"WholeDesk$Whole", "length", "()I"⟩ ∈ zt := zk_31 (List.mem_of_getElem? (i := 15) rfl) (by decide +kernel)
theorem tw_636 : Cond.instanceMethod ⟨"WholeDesk$Whole", "length", "()I"⟩ ∈ zt := zk_31 (List.mem_of_getElem? (i := 16) rfl) (by decide +kernel)
theorem tw_637 : Cond.selects "WholeDesk$Whole" ⟨"WholeDesk$Whole", "length", "()I"⟩ ⟨"WholeDesk$Whole", "length", "()I"⟩ ∈ zt := zk_31 (List.mem_of_getElem? (i := 17) rfl) (by decide +kernel)
theorem tw_638 : Cond.code ⟨"WholeDesk$Whole", "length", "()I"⟩ prog_4_method_18_code 2 (some .int) ∈ zt := zk_31 (List.mem_of_getElem? (i := 18) rfl) (by decide +kernel)
theorem tw_639 : Cond.methodLink "WholeDesk$Whole" 68 ⟨"WholeDesk$Whole", "bits", "()I"⟩ ∈ zt := zk_31 (List.mem_of_getElem? (i := 19) rfl) (by decide +kernel)
theorem tw_640 : Cond.methodLink "WholeDesk" 185 ⟨"WholeDesk$Whole", "unlikeBits", "()I"⟩ ∈ zt := zk_32 (List.mem_of_getElem? (i := 0) rfl) (by decide +kernel)
theorem tw_641 : Cond.instanceMethod ⟨"WholeDesk$Whole", "unlikeBits", "()I"⟩ ∈ zt := zk_32 (List.mem_of_getElem? (i := 1) rfl) (by decide +kernel)
theorem tw_642 : Cond.selects "WholeDesk$Whole" ⟨"WholeDesk$Whole", "unlikeBits", "()I"⟩ ⟨"WholeDesk$Whole", "unlikeBits", "()I"⟩ ∈ zt := zk_32 (List.mem_of_getElem? (i := 2) rfl) (by decide +kernel)
theorem tw_643 : Cond.code ⟨"WholeDesk$Whole", "unlikeBits", "()I"⟩ prog_4_method_19_code 3 (some .int) ∈ zt := zk_32 (List.mem_of_getElem? (i := 3) rfl) (by decide +kernel)
theorem tw_644 : Cond.methodLink "WholeDesk" 188 ⟨"WholeDesk$Whole", "lowestOne", "()I"⟩ ∈ zt := zk_32 (List.mem_of_getElem? (i := 4) rfl) (by decide +kernel)
theorem tw_646 : Cond.methodLink "WholeDeskLaw" 151 ⟨"WholeDeskLaw", "written", "(LWholeDesk;II[J)I"⟩ ∈ zt := zk_32 (List.mem_of_getElem? (i := 6) rfl) (by decide +kernel)
theorem tw_647 : Cond.static ⟨"WholeDeskLaw", "written", "(LWholeDesk;II[J)I"⟩ ∈ zt := zk_32 (List.mem_of_getElem? (i := 7) rfl) (by decide +kernel)
theorem tw_648 : Cond.codeWith ⟨"WholeDeskLaw", "written", "(LWholeDesk;II[J)I"⟩ method_20_code 5 (some .int) [(0, 10, 13, 13)] ∈ zt := zk_32 (List.mem_of_getElem? (i := 8) rfl) (by decide +kernel)
theorem tw_649 : Cond.methodLink "WholeDeskLaw" 74 ⟨"WholeDesk", "written", "(II)I"⟩ ∈ zt := zk_32 (List.mem_of_getElem? (i := 9) rfl) (by decide +kernel)
theorem tw_650 : Cond.instanceMethod ⟨"WholeDesk", "written", "(II)I"⟩ ∈ zt := zk_32 (List.mem_of_getElem? (i := 10) rfl) (by decide +kernel)
theorem tw_651 : Cond.selects "WholeDesk" ⟨"WholeDesk", "written", "(II)I"⟩ ⟨"WholeDesk", "written", "(II)I"⟩ ∈ zt := zk_32 (List.mem_of_getElem? (i := 11) rfl) (by decide +kernel)
theorem tw_652 : Cond.code ⟨"WholeDesk", "written", "(II)I"⟩ prog_1_method_20_code 3 (some .int) ∈ zt := zk_32 (List.mem_of_getElem? (i := 12) rfl) (by decide +kernel)
theorem tw_653 : Cond.methodLink "WholeDesk" 193 ⟨"WholeDesk$Writing", "fill", "(LWholeDesk$Whole;I)I"⟩ ∈ zt := zk_32 (List.mem_of_getElem? (i := 13) rfl) (by decide +kernel)
theorem tw_654 : Cond.instanceMethod ⟨"WholeDesk$Writing", "fill", "(LWholeDesk$Whole;I)I"⟩ ∈ zt := zk_32 (List.mem_of_getElem? (i := 14) rfl) (by decide +kernel)
theorem tw_655 : Cond.selects "WholeDesk$Writing" ⟨"WholeDesk$Writing", "fill", "(LWholeDesk$Whole;I)I"⟩ ⟨"WholeDesk$Writing", "fill", "(LWholeDesk$Whole;I)I"⟩ ∈ zt := zk_32 (List.mem_of_getElem? (i := 15) rfl) (by decide +kernel)
theorem tw_656 : Cond.code ⟨"WholeDesk$Writing", "fill", "(LWholeDesk$Whole;I)I"⟩ prog_5_method_2_code 9 (some .int) ∈ zt := zk_32 (List.mem_of_getElem? (i := 16) rfl) (by decide +kernel)
theorem tw_657 : Cond.methodLink "WholeDesk$Writing" 26 ⟨"WholeDesk$Writing", "digitsInLimb", "(I)I"⟩ ∈ zt := zk_32 (List.mem_of_getElem? (i := 17) rfl) (by decide +kernel)
theorem tw_658 : Cond.static ⟨"WholeDesk$Writing", "digitsInLimb", "(I)I"⟩ ∈ zt := zk_32 (List.mem_of_getElem? (i := 18) rfl) (by decide +kernel)
theorem tw_659 : Cond.code ⟨"WholeDesk$Writing", "digitsInLimb", "(I)I"⟩ prog_5_method_3_code 4 (some .int) ∈ zt := zk_32 (List.mem_of_getElem? (i := 19) rfl) (by decide +kernel)
theorem tw_660 : Cond.constantLong "WholeDesk$Writing" 53 268435455 ∈ zt := zk_33 (List.mem_of_getElem? (i := 0) rfl) (by decide +kernel)
theorem tw_661 : Cond.methodLink "WholeDesk$Writing" 30 ⟨"WholeDesk$Whole", "copy", "(LWholeDesk$Whole;)V"⟩ ∈ zt := zk_33 (List.mem_of_getElem? (i := 1) rfl) (by decide +kernel)
theorem tw_662 : Cond.methodLink "WholeDesk$Writing" 37 ⟨"WholeDesk$Whole", "shrink", "(J)J"⟩ ∈ zt := zk_33 (List.mem_of_getElem? (i := 2) rfl) (by decide +kernel)
theorem tw_663 : Cond.methodLink "WholeDesk$Writing" 41 ⟨"WholeDesk$Writing", "prependDigits", "(JII)V"⟩ ∈ zt := zk_33 (List.mem_of_getElem? (i := 3) rfl) (by decide +kernel)
theorem tw_665 : Cond.instanceMethod ⟨"WholeDesk$Writing", "prependDigits", "(JII)V"⟩ ∈ zt := zk_33 (List.mem_of_getElem? (i := 5) rfl) (by decide +kernel)
theorem tw_666 : Cond.code ⟨"WholeDesk$Writing", "prependDigits", "(JII)V"⟩ prog_5_method_4_code 9 none ∈ zt := zk_33 (List.mem_of_getElem? (i := 6) rfl) (by decide +kernel)
theorem tw_667 : Cond.methodLink "WholeDesk$Writing" 49 ⟨"WholeDesk$Writing", "prepend", "(C)V"⟩ ∈ zt := zk_33 (List.mem_of_getElem? (i := 7) rfl) (by decide +kernel)
theorem tw_669 : Cond.instanceMethod ⟨"WholeDesk$Writing", "prepend", "(C)V"⟩ ∈ zt := zk_33 (List.mem_of_getElem? (i := 9) rfl) (by decide +kernel)
theorem tw_670 : Cond.code ⟨"WholeDesk$Writing", "prepend", "(C)V"⟩ prog_5_method_5_code 2 none ∈ zt := zk_33 (List.mem_of_getElem? (i := 10) rfl) (by decide +kernel)
theorem tw_671 : Cond.classLink "WholeDeskLaw" 78 "WholeDeskModel" ∈ zt := zk_33 (List.mem_of_getElem? (i := 11) rfl) (by decide +kernel)
theorem tw_672 : Cond.instantiable "WholeDeskModel" 21 ∈ zt := zk_33 (List.mem_of_getElem? (i := 12) rfl) (by decide +kernel)
theorem tw_673 : Cond.methodLink "WholeDeskLaw" 80 ⟨"WholeDeskModel", "<init>", "()V"⟩ ∈ zt := zk_33 (List.mem_of_getElem? (i := 13) rfl) (by decide +kernel)
theorem tw_674 : Cond.instanceMethod ⟨"WholeDeskModel", "<init>", "()V"⟩ ∈ zt := zk_33 (List.mem_of_getElem? (i := 14) rfl) (by decide +kernel)
theorem tw_675 : Cond.code ⟨"WholeDeskModel", "<init>", "()V"⟩ prog_7_method_1_code 1 none ∈ zt := zk_33 (List.mem_of_getElem? (i := 15) rfl) (by decide +kernel)
theorem tw_676 : Cond.methodLink "WholeDeskModel" 1 ⟨"java/lang/Object", "<init>", "()V"⟩ ∈ zt := zk_33 (List.mem_of_getElem? (i := 16) rfl) (by decide +kernel)
theorem tw_677 : Cond.fieldLink "WholeDeskModel" 53 "WholeDeskModel" "thrown" "I" ∈ zt := zk_33 (List.mem_of_getElem? (i := 17) rfl) (by decide +kernel)
theorem tw_678 : Cond.fieldLink "WholeDeskModel" 79 "WholeDeskModel" "fault" "I" ∈ zt := zk_33 (List.mem_of_getElem? (i := 18) rfl) (by decide +kernel)
theorem tw_679 : Cond.fieldLink "WholeDeskModel" 7 "WholeDeskModel" "draft" "[I" ∈ zt := zk_33 (List.mem_of_getElem? (i := 19) rfl) (by decide +kernel)
theorem tw_680 : Cond.fieldLink "WholeDeskModel" 86 "WholeDeskModel" "length" "I" ∈ zt := zk_34 (List.mem_of_getElem? (i := 0) rfl) (by decide +kernel)
theorem tw_681 : Cond.fieldLink "WholeDeskModel" 13 "WholeDeskModel" "kept" "[I" ∈ zt := zk_34 (List.mem_of_getElem? (i := 1) rfl) (by decide +kernel)
theorem tw_682 : Cond.fieldLink "WholeDeskModel" 16 "WholeDeskModel" "minus" "[Z" ∈ zt := zk_34 (List.mem_of_getElem? (i := 2) rfl) (by decide +kernel)
theorem tw_683 : Cond.fieldLink "WholeDeskModel" 20 "WholeDeskModel" "row" "[I" ∈ zt := zk_34 (List.mem_of_getElem? (i := 3) rfl) (by decide +kernel)
theorem tw_684 : Cond.fieldLink "WholeDeskModel" 82 "WholeDeskModel" "below" "Z" ∈ zt := zk_34 (List.mem_of_getElem? (i := 4) rfl) (by decide +kernel)
theorem tw_685 : Cond.fieldLink "WholeDeskModel" 23 "WholeDeskModel" "other" "[I" ∈ zt := zk_34 (List.mem_of_getElem? (i := 5) rfl) (by decide +kernel)
theorem tw_686 : Cond.fieldLink "WholeDeskModel" 26 "WholeDeskModel" "product" "[I" ∈ zt := zk_34 (List.mem_of_getElem? (i := 6) rfl) (by decide +kernel)
theorem tw_687 : Cond.fieldLink "WholeDeskModel" 29 "WholeDeskModel" "rest" "[I" ∈ zt := zk_34 (List.mem_of_getElem? (i := 7) rfl) (by decide +kernel)
theorem tw_688 : Cond.fieldLink "WholeDeskModel" 32 "WholeDeskModel" "quotient" "[I" ∈ zt := zk_34 (List.mem_of_getElem? (i := 8) rfl) (by decide +kernel)
theorem tw_689 : Cond.fieldLink "WholeDeskModel" 35 "WholeDeskModel" "one" "[I" ∈ zt := zk_34 (List.mem_of_getElem? (i := 9) rfl) (by decide +kernel)
theorem tw_690 : Cond.fieldLink "WholeDeskModel" 38 "WholeDeskModel" "two" "[I" ∈ zt := zk_34 (List.mem_of_getElem? (i := 10) rfl) (by decide +kernel)
theorem tw_691 : Cond.fieldLink "WholeDeskModel" 41 "WholeDeskModel" "first" "[I" ∈ zt := zk_34 (List.mem_of_getElem? (i := 11) rfl) (by decide +kernel)
theorem tw_692 : Cond.fieldLink "WholeDeskModel" 44 "WholeDeskModel" "second" "[I" ∈ zt := zk_34 (List.mem_of_getElem? (i := 12) rfl) (by decide +kernel)
theorem tw_693 : Cond.fieldLink "WholeDeskModel" 137 "WholeDeskModel" "firstBelow" "Z" ∈ zt := zk_34 (List.mem_of_getElem? (i := 13) rfl) (by decide +kernel)
theorem tw_694 : Cond.fieldLink "WholeDeskModel" 140 "WholeDeskModel" "secondBelow" "Z" ∈ zt := zk_34 (List.mem_of_getElem? (i := 14) rfl) (by decide +kernel)
theorem tw_695 : Cond.fieldLink "WholeDeskModel" 47 "WholeDeskModel" "modulus" "[I" ∈ zt := zk_34 (List.mem_of_getElem? (i := 15) rfl) (by decide +kernel)
theorem tw_696 : Cond.fieldLink "WholeDeskModel" 50 "WholeDeskModel" "paper" "[I" ∈ zt := zk_34 (List.mem_of_getElem? (i := 16) rfl) (by decide +kernel)
theorem tw_697 : Cond.fieldLink "WholeDeskModel" 155 "WholeDeskModel" "printed" "I" ∈ zt := zk_34 (List.mem_of_getElem? (i := 17) rfl) (by decide +kernel)
theorem tw_698 : Cond.lays "WholeDeskModel" "WholeDeskModel" "thrown" "I" ∈ zt := zk_34 (List.mem_of_getElem? (i := 18) rfl) (by decide +kernel)
theorem tw_700 : Cond.lays "WholeDeskModel" "WholeDeskModel" "fault" "I" ∈ zt := zk_35 (List.mem_of_getElem? (i := 0) rfl) (by decide +kernel)
theorem tw_702 : Cond.laysFinal "WholeDeskModel" "WholeDeskModel" "draft" "[I" ∈ zt := zk_35 (List.mem_of_getElem? (i := 2) rfl) (by decide +kernel)
theorem tw_704 : Cond.lays "WholeDeskModel" "WholeDeskModel" "length" "I" ∈ zt := zk_35 (List.mem_of_getElem? (i := 4) rfl) (by decide +kernel)
theorem tw_706 : Cond.laysFinal "WholeDeskModel" "WholeDeskModel" "kept" "[I" ∈ zt := zk_35 (List.mem_of_getElem? (i := 6) rfl) (by decide +kernel)
theorem tw_708 : Cond.laysFinal "WholeDeskModel" "WholeDeskModel" "minus" "[Z" ∈ zt := zk_35 (List.mem_of_getElem? (i := 8) rfl) (by decide +kernel)
theorem tw_710 : Cond.laysFinal "WholeDeskModel" "WholeDeskModel" "row" "[I" ∈ zt := zk_35 (List.mem_of_getElem? (i := 10) rfl) (by decide +kernel)
theorem tw_712 : Cond.lays "WholeDeskModel" "WholeDeskModel" "below" "Z" ∈ zt := zk_35 (List.mem_of_getElem? (i := 12) rfl) (by decide +kernel)
theorem tw_714 : Cond.laysFinal "WholeDeskModel" "WholeDeskModel" "other" "[I" ∈ zt := zk_35 (List.mem_of_getElem? (i := 14) rfl) (by decide +kernel)
theorem tw_716 : Cond.laysFinal "WholeDeskModel" "WholeDeskModel" "product" "[I" ∈ zt := zk_35 (List.mem_of_getElem? (i := 16) rfl) (by decide +kernel)
theorem tw_718 : Cond.laysFinal "WholeDeskModel" "WholeDeskModel" "rest" "[I" ∈ zt := zk_35 (List.mem_of_getElem? (i := 18) rfl) (by decide +kernel)
theorem tw_720 : Cond.laysFinal "WholeDeskModel" "WholeDeskModel" "quotient" "[I" ∈ zt := zk_36 (List.mem_of_getElem? (i := 0) rfl) (by decide +kernel)
theorem tw_722 : Cond.laysFinal "WholeDeskModel" "WholeDeskModel" "one" "[I" ∈ zt := zk_36 (List.mem_of_getElem? (i := 2) rfl) (by decide +kernel)
theorem tw_724 : Cond.laysFinal "WholeDeskModel" "WholeDeskModel" "two" "[I" ∈ zt := zk_36 (List.mem_of_getElem? (i := 4) rfl) (by decide +kernel)
theorem tw_726 : Cond.laysFinal "WholeDeskModel" "WholeDeskModel" "first" "[I" ∈ zt := zk_36 (List.mem_of_getElem? (i := 6) rfl) (by decide +kernel)
theorem tw_728 : Cond.laysFinal "WholeDeskModel" "WholeDeskModel" "second" "[I" ∈ zt := zk_36 (List.mem_of_getElem? (i := 8) rfl) (by decide +kernel)
theorem tw_730 : Cond.lays "WholeDeskModel" "WholeDeskModel" "firstBelow" "Z" ∈ zt := zk_36 (List.mem_of_getElem? (i := 10) rfl) (by decide +kernel)
theorem tw_732 : Cond.lays "WholeDeskModel" "WholeDeskModel" "secondBelow" "Z" ∈ zt := zk_36 (List.mem_of_getElem? (i := 12) rfl) (by decide +kernel)
theorem tw_734 : Cond.laysFinal "WholeDeskModel" "WholeDeskModel" "modulus" "[I" ∈ zt := zk_36 (List.mem_of_getElem? (i := 14) rfl) (by decide +kernel)
theorem tw_736 : Cond.laysFinal "WholeDeskModel" "WholeDeskModel" "paper" "[I" ∈ zt := zk_36 (List.mem_of_getElem? (i := 16) rfl) (by decide +kernel)
theorem tw_738 : Cond.lays "WholeDeskModel" "WholeDeskModel" "printed" "I" ∈ zt := zk_36 (List.mem_of_getElem? (i := 18) rfl) (by decide +kernel)
theorem tw_741 : Cond.arrayClass FieldType.int ∈ zt := zk_37 (List.mem_of_getElem? (i := 1) rfl) (by decide +kernel)
theorem tw_742 : Cond.arrayClass FieldType.boolean ∈ zt := zk_37 (List.mem_of_getElem? (i := 2) rfl) (by decide +kernel)
theorem tw_743 : Cond.methodLink "WholeDeskLaw" 89 ⟨"WholeDeskModel", "thrown", "()I"⟩ ∈ zt := zk_37 (List.mem_of_getElem? (i := 3) rfl) (by decide +kernel)
theorem tw_744 : Cond.instanceMethod ⟨"WholeDeskModel", "thrown", "()I"⟩ ∈ zt := zk_37 (List.mem_of_getElem? (i := 4) rfl) (by decide +kernel)
theorem tw_745 : Cond.selects "WholeDeskModel" ⟨"WholeDeskModel", "thrown", "()I"⟩ ⟨"WholeDeskModel", "thrown", "()I"⟩ ∈ zt := zk_37 (List.mem_of_getElem? (i := 5) rfl) (by decide +kernel)
theorem tw_746 : Cond.code ⟨"WholeDeskModel", "thrown", "()I"⟩ prog_7_method_2_code 1 (some .int) ∈ zt := zk_37 (List.mem_of_getElem? (i := 6) rfl) (by decide +kernel)
theorem tw_747 : Cond.methodLink "WholeDeskLaw" 88 ⟨"WholeDeskModel", "write", "(IJ)I"⟩ ∈ zt := zk_37 (List.mem_of_getElem? (i := 7) rfl) (by decide +kernel)
theorem tw_748 : Cond.instanceMethod ⟨"WholeDeskModel", "write", "(IJ)I"⟩ ∈ zt := zk_37 (List.mem_of_getElem? (i := 8) rfl) (by decide +kernel)
theorem tw_749 : Cond.selects "WholeDeskModel" ⟨"WholeDeskModel", "write", "(IJ)I"⟩ ⟨"WholeDeskModel", "write", "(IJ)I"⟩ ∈ zt := zk_37 (List.mem_of_getElem? (i := 9) rfl) (by decide +kernel)
theorem tw_750 : Cond.code ⟨"WholeDeskModel", "write", "(IJ)I"⟩ prog_7_method_16_code 5 (some .int) ∈ zt := zk_37 (List.mem_of_getElem? (i := 10) rfl) (by decide +kernel)
theorem tw_751 : Cond.constantLong "WholeDeskModel" 89 255 ∈ zt := zk_37 (List.mem_of_getElem? (i := 11) rfl) (by decide +kernel)
theorem tw_752 : Cond.methodLink "WholeDeskLaw" 96 ⟨"WholeDeskModel", "wipe", "()I"⟩ ∈ zt := zk_37 (List.mem_of_getElem? (i := 12) rfl) (by decide +kernel)
theorem tw_753 : Cond.instanceMethod ⟨"WholeDeskModel", "wipe", "()I"⟩ ∈ zt := zk_37 (List.mem_of_getElem? (i := 13) rfl) (by decide +kernel)
theorem tw_754 : Cond.selects "WholeDeskModel" ⟨"WholeDeskModel", "wipe", "()I"⟩ ⟨"WholeDeskModel", "wipe", "()I"⟩ ∈ zt := zk_37 (List.mem_of_getElem? (i := 14) rfl) (by decide +kernel)
theorem tw_755 : Cond.code ⟨"WholeDeskModel", "wipe", "()I"⟩ prog_7_method_17_code 2 (some .int) ∈ zt := zk_37 (List.mem_of_getElem? (i := 15) rfl) (by decide +kernel)
theorem tw_756 : Cond.methodLink "WholeDeskLaw" 100 ⟨"WholeDeskModel", "read", "(II)V"⟩ ∈ zt := zk_37 (List.mem_of_getElem? (i := 16) rfl) (by decide +kernel)
theorem tw_757 : Cond.instanceMethod ⟨"WholeDeskModel", "read", "(II)V"⟩ ∈ zt := zk_37 (List.mem_of_getElem? (i := 17) rfl) (by decide +kernel)
theorem tw_758 : Cond.selects "WholeDeskModel" ⟨"WholeDeskModel", "read", "(II)V"⟩ ⟨"WholeDeskModel", "read", "(II)V"⟩ ∈ zt := zk_37 (List.mem_of_getElem? (i := 18) rfl) (by decide +kernel)
theorem tw_759 : Cond.code ⟨"WholeDeskModel", "read", "(II)V"⟩ prog_7_method_19_code 5 none ∈ zt := zk_37 (List.mem_of_getElem? (i := 19) rfl) (by decide +kernel)
theorem tw_760 : Cond.methodLink "WholeDeskModel" 91 ⟨"WholeDeskModel", "no", "(I)Z"⟩ ∈ zt := zk_38 (List.mem_of_getElem? (i := 0) rfl) (by decide +kernel)
theorem tw_761 : Cond.static ⟨"WholeDeskModel", "no", "(I)Z"⟩ ∈ zt := zk_38 (List.mem_of_getElem? (i := 1) rfl) (by decide +kernel)
theorem tw_762 : Cond.code ⟨"WholeDeskModel", "no", "(I)Z"⟩ prog_7_method_3_code 1 (some .boolean) ∈ zt := zk_38 (List.mem_of_getElem? (i := 2) rfl) (by decide +kernel)
theorem tw_763 : Cond.methodLink "WholeDeskModel" 95 ⟨"WholeDeskModel", "digit", "(I)I"⟩ ∈ zt := zk_38 (List.mem_of_getElem? (i := 3) rfl) (by decide +kernel)
theorem tw_764 : Cond.static ⟨"WholeDeskModel", "digit", "(I)I"⟩ ∈ zt := zk_38 (List.mem_of_getElem? (i := 4) rfl) (by decide +kernel)
theorem tw_765 : Cond.code ⟨"WholeDeskModel", "digit", "(I)I"⟩ prog_7_method_18_code 1 (some .int) ∈ zt := zk_38 (List.mem_of_getElem? (i := 5) rfl) (by decide +kernel)
theorem tw_766 : Cond.methodLink "WholeDeskModel" 63 ⟨"WholeDeskModel", "clear", "([I)V"⟩ ∈ zt := zk_38 (List.mem_of_getElem? (i := 6) rfl) (by decide +kernel)
theorem tw_767 : Cond.static ⟨"WholeDeskModel", "clear", "([I)V"⟩ ∈ zt := zk_38 (List.mem_of_getElem? (i := 7) rfl) (by decide +kernel)
theorem tw_768 : Cond.code ⟨"WholeDeskModel", "clear", "([I)V"⟩ prog_7_method_4_code 2 none ∈ zt := zk_38 (List.mem_of_getElem? (i := 8) rfl) (by decide +kernel)
theorem tw_769 : Cond.methodLink "WholeDeskModel" 99 ⟨"WholeDeskModel", "grow", "([III)V"⟩ ∈ zt := zk_38 (List.mem_of_getElem? (i := 9) rfl) (by decide +kernel)
theorem tw_770 : Cond.static ⟨"WholeDeskModel", "grow", "([III)V"⟩ ∈ zt := zk_38 (List.mem_of_getElem? (i := 10) rfl) (by decide +kernel)
theorem tw_771 : Cond.code ⟨"WholeDeskModel", "grow", "([III)V"⟩ prog_7_method_11_code 7 none ∈ zt := zk_38 (List.mem_of_getElem? (i := 11) rfl) (by decide +kernel)
theorem tw_772 : Cond.methodLink "WholeDeskModel" 59 ⟨"WholeDeskModel", "size", "([I)I"⟩ ∈ zt := zk_38 (List.mem_of_getElem? (i := 12) rfl) (by decide +kernel)
theorem tw_773 : Cond.static ⟨"WholeDeskModel", "size", "([I)I"⟩ ∈ zt := zk_38 (List.mem_of_getElem? (i := 13) rfl) (by decide +kernel)
theorem tw_774 : Cond.code ⟨"WholeDeskModel", "size", "([I)I"⟩ prog_7_method_7_code 2 (some .int) ∈ zt := zk_38 (List.mem_of_getElem? (i := 14) rfl) (by decide +kernel)
theorem tw_775 : Cond.constantLong "WholeDeskModel" 57 65535 ∈ zt := zk_38 (List.mem_of_getElem? (i := 15) rfl) (by decide +kernel)
theorem tw_776 : Cond.methodLink "WholeDeskModel" 103 ⟨"WholeDeskModel", "store", "(I)V"⟩ ∈ zt := zk_38 (List.mem_of_getElem? (i := 16) rfl) (by decide +kernel)
theorem tw_778 : Cond.instanceMethod ⟨"WholeDeskModel", "store", "(I)V"⟩ ∈ zt := zk_38 (List.mem_of_getElem? (i := 18) rfl) (by decide +kernel)
theorem tw_779 : Cond.code ⟨"WholeDeskModel", "store", "(I)V"⟩ prog_7_method_15_code 4 none ∈ zt := zk_38 (List.mem_of_getElem? (i := 19) rfl) (by decide +kernel)
theorem tw_780 : Cond.methodLink "WholeDeskLaw" 104 ⟨"WholeDeskModel", "put", "(IJ)V"⟩ ∈ zt := zk_39 (List.mem_of_getElem? (i := 0) rfl) (by decide +kernel)
theorem tw_781 : Cond.instanceMethod ⟨"WholeDeskModel", "put", "(IJ)V"⟩ ∈ zt := zk_39 (List.mem_of_getElem? (i := 1) rfl) (by decide +kernel)
theorem tw_782 : Cond.selects "WholeDeskModel" ⟨"WholeDeskModel", "put", "(IJ)V"⟩ ⟨"WholeDeskModel", "put", "(IJ)V"⟩ ∈ zt := zk_39 (List.mem_of_getElem? (i := 2) rfl) (by decide +kernel)
theorem tw_783 : Cond.code ⟨"WholeDeskModel", "put", "(IJ)V"⟩ prog_7_method_20_code 7 none ∈ zt := zk_39 (List.mem_of_getElem? (i := 3) rfl) (by decide +kernel)
theorem tw_784 : Cond.methodLink "WholeDeskLaw" 108 ⟨"WholeDeskModel", "add", "(IIIZ)V"⟩ ∈ zt := zk_39 (List.mem_of_getElem? (i := 4) rfl) (by decide +kernel)
theorem tw_785 : Cond.instanceMethod ⟨"WholeDeskModel", "add", "(IIIZ)V"⟩ ∈ zt := zk_39 (List.mem_of_getElem? (i := 5) rfl) (by decide +kernel)
theorem tw_786 : Cond.selects "WholeDeskModel" ⟨"WholeDeskModel", "add", "(IIIZ)V"⟩ ⟨"WholeDeskModel", "add", "(IIIZ)V"⟩ ∈ zt := zk_39 (List.mem_of_getElem? (i := 6) rfl) (by decide +kernel)
theorem tw_787 : Cond.code ⟨"WholeDeskModel", "add", "(IIIZ)V"⟩ prog_7_method_22_code 5 none ∈ zt := zk_39 (List.mem_of_getElem? (i := 7) rfl) (by decide +kernel)
theorem tw_788 : Cond.methodLink "WholeDeskModel" 107 ⟨"WholeDeskModel", "take", "(I[I)V"⟩ ∈ zt := zk_39 (List.mem_of_getElem? (i := 8) rfl) (by decide +kernel)
theorem tw_790 : Cond.instanceMethod ⟨"WholeDeskModel", "take", "(I[I)V"⟩ ∈ zt := zk_39 (List.mem_of_getElem? (i := 10) rfl) (by decide +kernel)
theorem tw_791 : Cond.code ⟨"WholeDeskModel", "take", "(I[I)V"⟩ prog_7_method_6_code 4 none ∈ zt := zk_39 (List.mem_of_getElem? (i := 11) rfl) (by decide +kernel)
theorem tw_792 : Cond.methodLink "WholeDeskModel" 111 ⟨"WholeDeskModel", "sum", "([IZ[IZ)V"⟩ ∈ zt := zk_39 (List.mem_of_getElem? (i := 12) rfl) (by decide +kernel)
theorem tw_794 : Cond.instanceMethod ⟨"WholeDeskModel", "sum", "([IZ[IZ)V"⟩ ∈ zt := zk_39 (List.mem_of_getElem? (i := 14) rfl) (by decide +kernel)
theorem tw_795 : Cond.code ⟨"WholeDeskModel", "sum", "([IZ[IZ)V"⟩ prog_7_method_21_code 5 none ∈ zt := zk_39 (List.mem_of_getElem? (i := 15) rfl) (by decide +kernel)
theorem tw_796 : Cond.methodLink "WholeDeskModel" 67 ⟨"WholeDeskModel", "copy", "([I[I)V"⟩ ∈ zt := zk_39 (List.mem_of_getElem? (i := 16) rfl) (by decide +kernel)
theorem tw_797 : Cond.static ⟨"WholeDeskModel", "copy", "([I[I)V"⟩ ∈ zt := zk_39 (List.mem_of_getElem? (i := 17) rfl) (by decide +kernel)
theorem tw_798 : Cond.code ⟨"WholeDeskModel", "copy", "([I[I)V"⟩ prog_7_method_5_code 3 none ∈ zt := zk_39 (List.mem_of_getElem? (i := 18) rfl) (by decide +kernel)
theorem tw_799 : Cond.methodLink "WholeDeskModel" 75 ⟨"WholeDeskModel", "join", "([I[IIJZ)V"⟩ ∈ zt := zk_39 (List.mem_of_getElem? (i := 19) rfl) (by decide +kernel)
theorem tw_800 : Cond.static ⟨"WholeDeskModel", "join", "([I[IIJZ)V"⟩ ∈ zt := zk_40 (List.mem_of_getElem? (i := 0) rfl) (by decide +kernel)
theorem tw_801 : Cond.code ⟨"WholeDeskModel", "join", "([I[IIJZ)V"⟩ prog_7_method_10_code 11 none ∈ zt := zk_40 (List.mem_of_getElem? (i := 1) rfl) (by decide +kernel)
theorem tw_802 : Cond.methodLink "WholeDeskModel" 71 ⟨"WholeDeskModel", "compareRows", "([I[I)I"⟩ ∈ zt := zk_40 (List.mem_of_getElem? (i := 2) rfl) (by decide +kernel)
theorem tw_803 : Cond.static ⟨"WholeDeskModel", "compareRows", "([I[I)I"⟩ ∈ zt := zk_40 (List.mem_of_getElem? (i := 3) rfl) (by decide +kernel)
theorem tw_804 : Cond.code ⟨"WholeDeskModel", "compareRows", "([I[I)I"⟩ prog_7_method_9_code 3 (some .int) ∈ zt := zk_40 (List.mem_of_getElem? (i := 4) rfl) (by decide +kernel)
theorem tw_805 : Cond.methodLink "WholeDeskLaw" 112 ⟨"WholeDeskModel", "multiply", "(III)V"⟩ ∈ zt := zk_40 (List.mem_of_getElem? (i := 5) rfl) (by decide +kernel)
theorem tw_806 : Cond.instanceMethod ⟨"WholeDeskModel", "multiply", "(III)V"⟩ ∈ zt := zk_40 (List.mem_of_getElem? (i := 6) rfl) (by decide +kernel)
theorem tw_807 : Cond.selects "WholeDeskModel" ⟨"WholeDeskModel", "multiply", "(III)V"⟩ ⟨"WholeDeskModel", "multiply", "(III)V"⟩ ∈ zt := zk_40 (List.mem_of_getElem? (i := 7) rfl) (by decide +kernel)
theorem tw_808 : Cond.code ⟨"WholeDeskModel", "multiply", "(III)V"⟩ prog_7_method_23_code 4 none ∈ zt := zk_40 (List.mem_of_getElem? (i := 8) rfl) (by decide +kernel)
theorem tw_809 : Cond.methodLink "WholeDeskModel" 115 ⟨"WholeDeskModel", "multiplyRows", "([I[I[I)V"⟩ ∈ zt := zk_40 (List.mem_of_getElem? (i := 9) rfl) (by decide +kernel)
theorem tw_811 : Cond.instanceMethod ⟨"WholeDeskModel", "multiplyRows", "([I[I[I)V"⟩ ∈ zt := zk_40 (List.mem_of_getElem? (i := 11) rfl) (by decide +kernel)
theorem tw_812 : Cond.code ⟨"WholeDeskModel", "multiplyRows", "([I[I[I)V"⟩ prog_7_method_13_code 10 none ∈ zt := zk_40 (List.mem_of_getElem? (i := 12) rfl) (by decide +kernel)
theorem tw_813 : Cond.methodLink "WholeDeskLaw" 116 ⟨"WholeDeskModel", "divide", "(IIII)V"⟩ ∈ zt := zk_40 (List.mem_of_getElem? (i := 13) rfl) (by decide +kernel)
theorem tw_814 : Cond.instanceMethod ⟨"WholeDeskModel", "divide", "(IIII)V"⟩ ∈ zt := zk_40 (List.mem_of_getElem? (i := 14) rfl) (by decide +kernel)
theorem tw_815 : Cond.selects "WholeDeskModel" ⟨"WholeDeskModel", "divide", "(IIII)V"⟩ ⟨"WholeDeskModel", "divide", "(IIII)V"⟩ ∈ zt := zk_40 (List.mem_of_getElem? (i := 15) rfl) (by decide +kernel)
theorem tw_816 : Cond.code ⟨"WholeDeskModel", "divide", "(IIII)V"⟩ prog_7_method_24_code 7 none ∈ zt := zk_40 (List.mem_of_getElem? (i := 16) rfl) (by decide +kernel)
theorem tw_817 : Cond.methodLink "WholeDeskModel" 119 ⟨"WholeDeskModel", "isZero", "(I)Z"⟩ ∈ zt := zk_40 (List.mem_of_getElem? (i := 17) rfl) (by decide +kernel)
theorem tw_819 : Cond.instanceMethod ⟨"WholeDeskModel", "isZero", "(I)Z"⟩ ∈ zt := zk_40 (List.mem_of_getElem? (i := 19) rfl) (by decide +kernel)
theorem tw_820 : Cond.code ⟨"WholeDeskModel", "isZero", "(I)Z"⟩ prog_7_method_8_code 4 (some .boolean) ∈ zt := zk_41 (List.mem_of_getElem? (i := 0) rfl) (by decide +kernel)
theorem tw_821 : Cond.methodLink "WholeDeskModel" 122 ⟨"WholeDeskModel", "divideRows", "([I[I)V"⟩ ∈ zt := zk_41 (List.mem_of_getElem? (i := 1) rfl) (by decide +kernel)
theorem tw_823 : Cond.instanceMethod ⟨"WholeDeskModel", "divideRows", "([I[I)V"⟩ ∈ zt := zk_41 (List.mem_of_getElem? (i := 3) rfl) (by decide +kernel)
theorem tw_824 : Cond.code ⟨"WholeDeskModel", "divideRows", "([I[I)V"⟩ prog_7_method_14_code 13 none ∈ zt := zk_41 (List.mem_of_getElem? (i := 4) rfl) (by decide +kernel)
theorem tw_825 : Cond.methodLink "WholeDeskLaw" 119 ⟨"WholeDeskModel", "modulo", "(III)V"⟩ ∈ zt := zk_41 (List.mem_of_getElem? (i := 5) rfl) (by decide +kernel)
theorem tw_826 : Cond.instanceMethod ⟨"WholeDeskModel", "modulo", "(III)V"⟩ ∈ zt := zk_41 (List.mem_of_getElem? (i := 6) rfl) (by decide +kernel)
theorem tw_827 : Cond.selects "WholeDeskModel" ⟨"WholeDeskModel", "modulo", "(III)V"⟩ ⟨"WholeDeskModel", "modulo", "(III)V"⟩ ∈ zt := zk_41 (List.mem_of_getElem? (i := 7) rfl) (by decide +kernel)
theorem tw_828 : Cond.code ⟨"WholeDeskModel", "modulo", "(III)V"⟩ prog_7_method_27_code 4 none ∈ zt := zk_41 (List.mem_of_getElem? (i := 8) rfl) (by decide +kernel)
theorem tw_829 : Cond.methodLink "WholeDeskModel" 125 ⟨"WholeDeskModel", "isAbove0", "(I)Z"⟩ ∈ zt := zk_41 (List.mem_of_getElem? (i := 9) rfl) (by decide +kernel)
theorem tw_831 : Cond.instanceMethod ⟨"WholeDeskModel", "isAbove0", "(I)Z"⟩ ∈ zt := zk_41 (List.mem_of_getElem? (i := 11) rfl) (by decide +kernel)
theorem tw_832 : Cond.code ⟨"WholeDeskModel", "isAbove0", "(I)Z"⟩ prog_7_method_25_code 2 (some .boolean) ∈ zt := zk_41 (List.mem_of_getElem? (i := 12) rfl) (by decide +kernel)
theorem tw_833 : Cond.methodLink "WholeDeskModel" 128 ⟨"WholeDeskModel", "reduce", "(I[I)V"⟩ ∈ zt := zk_41 (List.mem_of_getElem? (i := 13) rfl) (by decide +kernel)
theorem tw_835 : Cond.instanceMethod ⟨"WholeDeskModel", "reduce", "(I[I)V"⟩ ∈ zt := zk_41 (List.mem_of_getElem? (i := 15) rfl) (by decide +kernel)
theorem tw_836 : Cond.code ⟨"WholeDeskModel", "reduce", "(I[I)V"⟩ prog_7_method_26_code 3 none ∈ zt := zk_41 (List.mem_of_getElem? (i := 16) rfl) (by decide +kernel)
theorem tw_837 : Cond.methodLink "WholeDeskLaw" 122 ⟨"WholeDeskModel", "power", "(III)V"⟩ ∈ zt := zk_41 (List.mem_of_getElem? (i := 17) rfl) (by decide +kernel)
theorem tw_838 : Cond.instanceMethod ⟨"WholeDeskModel", "power", "(III)V"⟩ ∈ zt := zk_41 (List.mem_of_getElem? (i := 18) rfl) (by decide +kernel)
theorem tw_839 : Cond.selects "WholeDeskModel" ⟨"WholeDeskModel", "power", "(III)V"⟩ ⟨"WholeDeskModel", "power", "(III)V"⟩ ∈ zt := zk_41 (List.mem_of_getElem? (i := 19) rfl) (by decide +kernel)
theorem tw_840 : Cond.code ⟨"WholeDeskModel", "power", "(III)V"⟩ prog_7_method_29_code 7 none ∈ zt := zk_42 (List.mem_of_getElem? (i := 0) rfl) (by decide +kernel)
theorem tw_841 : Cond.methodLink "WholeDeskModel" 131 ⟨"WholeDeskModel", "setOne", "([I)V"⟩ ∈ zt := zk_42 (List.mem_of_getElem? (i := 1) rfl) (by decide +kernel)
theorem tw_843 : Cond.instanceMethod ⟨"WholeDeskModel", "setOne", "([I)V"⟩ ∈ zt := zk_42 (List.mem_of_getElem? (i := 3) rfl) (by decide +kernel)
theorem tw_844 : Cond.code ⟨"WholeDeskModel", "setOne", "([I)V"⟩ prog_7_method_28_code 2 none ∈ zt := zk_42 (List.mem_of_getElem? (i := 4) rfl) (by decide +kernel)
theorem tw_845 : Cond.methodLink "WholeDeskLaw" 125 ⟨"WholeDeskModel", "root", "(III)V"⟩ ∈ zt := zk_42 (List.mem_of_getElem? (i := 5) rfl) (by decide +kernel)
theorem tw_846 : Cond.instanceMethod ⟨"WholeDeskModel", "root", "(III)V"⟩ ∈ zt := zk_42 (List.mem_of_getElem? (i := 6) rfl) (by decide +kernel)
theorem tw_847 : Cond.selects "WholeDeskModel" ⟨"WholeDeskModel", "root", "(III)V"⟩ ⟨"WholeDeskModel", "root", "(III)V"⟩ ∈ zt := zk_42 (List.mem_of_getElem? (i := 7) rfl) (by decide +kernel)
theorem tw_848 : Cond.code ⟨"WholeDeskModel", "root", "(III)V"⟩ prog_7_method_31_code 5 none ∈ zt := zk_42 (List.mem_of_getElem? (i := 8) rfl) (by decide +kernel)
theorem tw_849 : Cond.methodLink "WholeDeskModel" 134 ⟨"WholeDeskModel", "fits", "(I)Z"⟩ ∈ zt := zk_42 (List.mem_of_getElem? (i := 9) rfl) (by decide +kernel)
theorem tw_851 : Cond.instanceMethod ⟨"WholeDeskModel", "fits", "(I)Z"⟩ ∈ zt := zk_42 (List.mem_of_getElem? (i := 11) rfl) (by decide +kernel)
theorem tw_852 : Cond.code ⟨"WholeDeskModel", "fits", "(I)Z"⟩ prog_7_method_30_code 3 (some .boolean) ∈ zt := zk_42 (List.mem_of_getElem? (i := 12) rfl) (by decide +kernel)
theorem tw_853 : Cond.methodLink "WholeDeskLaw" 128 ⟨"WholeDeskModel", "common", "(III)V"⟩ ∈ zt := zk_42 (List.mem_of_getElem? (i := 13) rfl) (by decide +kernel)
theorem tw_854 : Cond.instanceMethod ⟨"WholeDeskModel", "common", "(III)V"⟩ ∈ zt := zk_42 (List.mem_of_getElem? (i := 14) rfl) (by decide +kernel)
theorem tw_855 : Cond.selects "WholeDeskModel" ⟨"WholeDeskModel", "common", "(III)V"⟩ ⟨"WholeDeskModel", "common", "(III)V"⟩ ∈ zt := zk_42 (List.mem_of_getElem? (i := 15) rfl) (by decide +kernel)
theorem tw_856 : Cond.code ⟨"WholeDeskModel", "common", "(III)V"⟩ prog_7_method_32_code 4 none ∈ zt := zk_42 (List.mem_of_getElem? (i := 16) rfl) (by decide +kernel)
theorem tw_857 : Cond.methodLink "WholeDeskLaw" 131 ⟨"WholeDeskModel", "inverse", "(III)V"⟩ ∈ zt := zk_42 (List.mem_of_getElem? (i := 17) rfl) (by decide +kernel)
theorem tw_858 : Cond.instanceMethod ⟨"WholeDeskModel", "inverse", "(III)V"⟩ ∈ zt := zk_42 (List.mem_of_getElem? (i := 18) rfl) (by decide +kernel)
theorem tw_859 : Cond.selects "WholeDeskModel" ⟨"WholeDeskModel", "inverse", "(III)V"⟩ ⟨"WholeDeskModel", "inverse", "(III)V"⟩ ∈ zt := zk_42 (List.mem_of_getElem? (i := 19) rfl) (by decide +kernel)
theorem tw_860 : Cond.code ⟨"WholeDeskModel", "inverse", "(III)V"⟩ prog_7_method_34_code 4 none ∈ zt := zk_43 (List.mem_of_getElem? (i := 0) rfl) (by decide +kernel)
theorem tw_861 : Cond.methodLink "WholeDeskModel" 143 ⟨"WholeDeskModel", "inverts", "()Z"⟩ ∈ zt := zk_43 (List.mem_of_getElem? (i := 1) rfl) (by decide +kernel)
theorem tw_863 : Cond.instanceMethod ⟨"WholeDeskModel", "inverts", "()Z"⟩ ∈ zt := zk_43 (List.mem_of_getElem? (i := 3) rfl) (by decide +kernel)
theorem tw_864 : Cond.code ⟨"WholeDeskModel", "inverts", "()Z"⟩ prog_7_method_33_code 1 (some .boolean) ∈ zt := zk_43 (List.mem_of_getElem? (i := 4) rfl) (by decide +kernel)
theorem tw_865 : Cond.methodLink "WholeDeskLaw" 134 ⟨"WholeDeskModel", "powerModulo", "(IIII)V"⟩ ∈ zt := zk_43 (List.mem_of_getElem? (i := 5) rfl) (by decide +kernel)
theorem tw_866 : Cond.instanceMethod ⟨"WholeDeskModel", "powerModulo", "(IIII)V"⟩ ∈ zt := zk_43 (List.mem_of_getElem? (i := 6) rfl) (by decide +kernel)
theorem tw_867 : Cond.selects "WholeDeskModel" ⟨"WholeDeskModel", "powerModulo", "(IIII)V"⟩ ⟨"WholeDeskModel", "powerModulo", "(IIII)V"⟩ ∈ zt := zk_43 (List.mem_of_getElem? (i := 7) rfl) (by decide +kernel)
theorem tw_868 : Cond.code ⟨"WholeDeskModel", "powerModulo", "(IIII)V"⟩ prog_7_method_35_code 7 none ∈ zt := zk_43 (List.mem_of_getElem? (i := 8) rfl) (by decide +kernel)
theorem tw_869 : Cond.methodLink "WholeDeskLaw" 137 ⟨"WholeDeskModel", "combine", "(IIII)V"⟩ ∈ zt := zk_43 (List.mem_of_getElem? (i := 9) rfl) (by decide +kernel)
theorem tw_870 : Cond.instanceMethod ⟨"WholeDeskModel", "combine", "(IIII)V"⟩ ∈ zt := zk_43 (List.mem_of_getElem? (i := 10) rfl) (by decide +kernel)
theorem tw_871 : Cond.selects "WholeDeskModel" ⟨"WholeDeskModel", "combine", "(IIII)V"⟩ ⟨"WholeDeskModel", "combine", "(IIII)V"⟩ ∈ zt := zk_43 (List.mem_of_getElem? (i := 11) rfl) (by decide +kernel)
theorem tw_872 : Cond.code ⟨"WholeDeskModel", "combine", "(IIII)V"⟩ prog_7_method_37_code 8 none ∈ zt := zk_43 (List.mem_of_getElem? (i := 12) rfl) (by decide +kernel)
theorem tw_873 : Cond.methodLink "WholeDeskModel" 148 ⟨"WholeDeskModel", "limb", "(II)I"⟩ ∈ zt := zk_43 (List.mem_of_getElem? (i := 13) rfl) (by decide +kernel)
theorem tw_875 : Cond.instanceMethod ⟨"WholeDeskModel", "limb", "(II)I"⟩ ∈ zt := zk_43 (List.mem_of_getElem? (i := 15) rfl) (by decide +kernel)
theorem tw_876 : Cond.code ⟨"WholeDeskModel", "limb", "(II)I"⟩ prog_7_method_36_code 5 (some .int) ∈ zt := zk_43 (List.mem_of_getElem? (i := 16) rfl) (by decide +kernel)
theorem tw_877 : Cond.constant "WholeDeskModel" 147 65535 ∈ zt := zk_43 (List.mem_of_getElem? (i := 17) rfl) (by decide +kernel)
theorem tw_878 : Cond.constant "WholeDeskModel" 152 32768 ∈ zt := zk_43 (List.mem_of_getElem? (i := 18) rfl) (by decide +kernel)
theorem tw_879 : Cond.methodLink "WholeDeskLaw" 140 ⟨"WholeDeskModel", "shift", "(III)V"⟩ ∈ zt := zk_43 (List.mem_of_getElem? (i := 19) rfl) (by decide +kernel)
theorem tw_880 : Cond.instanceMethod ⟨"WholeDeskModel", "shift", "(III)V"⟩ ∈ zt := zk_44 (List.mem_of_getElem? (i := 0) rfl) (by decide +kernel)
theorem tw_881 : Cond.selects "WholeDeskModel" ⟨"WholeDeskModel", "shift", "(III)V"⟩ ⟨"WholeDeskModel", "shift", "(III)V"⟩ ∈ zt := zk_44 (List.mem_of_getElem? (i := 1) rfl) (by decide +kernel)
theorem tw_882 : Cond.code ⟨"WholeDeskModel", "shift", "(III)V"⟩ prog_7_method_38_code 9 none ∈ zt := zk_44 (List.mem_of_getElem? (i := 2) rfl) (by decide +kernel)
theorem tw_883 : Cond.methodLink "WholeDeskLaw" 144 ⟨"WholeDeskModel", "bit", "(II)I"⟩ ∈ zt := zk_44 (List.mem_of_getElem? (i := 3) rfl) (by decide +kernel)
theorem tw_884 : Cond.instanceMethod ⟨"WholeDeskModel", "bit", "(II)I"⟩ ∈ zt := zk_44 (List.mem_of_getElem? (i := 4) rfl) (by decide +kernel)
theorem tw_885 : Cond.selects "WholeDeskModel" ⟨"WholeDeskModel", "bit", "(II)I"⟩ ⟨"WholeDeskModel", "bit", "(II)I"⟩ ∈ zt := zk_44 (List.mem_of_getElem? (i := 5) rfl) (by decide +kernel)
theorem tw_886 : Cond.code ⟨"WholeDeskModel", "bit", "(II)I"⟩ prog_7_method_39_code 3 (some .int) ∈ zt := zk_44 (List.mem_of_getElem? (i := 6) rfl) (by decide +kernel)
theorem tw_887 : Cond.methodLink "WholeDeskLaw" 147 ⟨"WholeDeskModel", "compare", "(II)I"⟩ ∈ zt := zk_44 (List.mem_of_getElem? (i := 7) rfl) (by decide +kernel)
theorem tw_888 : Cond.instanceMethod ⟨"WholeDeskModel", "compare", "(II)I"⟩ ∈ zt := zk_44 (List.mem_of_getElem? (i := 8) rfl) (by decide +kernel)
theorem tw_889 : Cond.selects "WholeDeskModel" ⟨"WholeDeskModel", "compare", "(II)I"⟩ ⟨"WholeDeskModel", "compare", "(II)I"⟩ ∈ zt := zk_44 (List.mem_of_getElem? (i := 9) rfl) (by decide +kernel)
theorem tw_890 : Cond.code ⟨"WholeDeskModel", "compare", "(II)I"⟩ prog_7_method_40_code 4 (some .int) ∈ zt := zk_44 (List.mem_of_getElem? (i := 10) rfl) (by decide +kernel)
theorem tw_891 : Cond.methodLink "WholeDeskLaw" 150 ⟨"WholeDeskModel", "told", "(II)J"⟩ ∈ zt := zk_44 (List.mem_of_getElem? (i := 11) rfl) (by decide +kernel)
theorem tw_892 : Cond.instanceMethod ⟨"WholeDeskModel", "told", "(II)J"⟩ ∈ zt := zk_44 (List.mem_of_getElem? (i := 12) rfl) (by decide +kernel)
theorem tw_893 : Cond.selects "WholeDeskModel" ⟨"WholeDeskModel", "told", "(II)J"⟩ ⟨"WholeDeskModel", "told", "(II)J"⟩ ∈ zt := zk_44 (List.mem_of_getElem? (i := 13) rfl) (by decide +kernel)
theorem tw_894 : Cond.code ⟨"WholeDeskModel", "told", "(II)J"⟩ prog_7_method_41_code 12 (some .long) ∈ zt := zk_44 (List.mem_of_getElem? (i := 14) rfl) (by decide +kernel)
theorem tw_895 : Cond.constantLong "WholeDeskModel" 153 (-1) ∈ zt := zk_44 (List.mem_of_getElem? (i := 15) rfl) (by decide +kernel)
theorem tw_896 : Cond.methodLink "WholeDeskLaw" 153 ⟨"WholeDeskModel", "written", "(II)I"⟩ ∈ zt := zk_44 (List.mem_of_getElem? (i := 16) rfl) (by decide +kernel)
theorem tw_897 : Cond.instanceMethod ⟨"WholeDeskModel", "written", "(II)I"⟩ ∈ zt := zk_44 (List.mem_of_getElem? (i := 17) rfl) (by decide +kernel)
theorem tw_898 : Cond.selects "WholeDeskModel" ⟨"WholeDeskModel", "written", "(II)I"⟩ ⟨"WholeDeskModel", "written", "(II)I"⟩ ∈ zt := zk_44 (List.mem_of_getElem? (i := 18) rfl) (by decide +kernel)
theorem tw_899 : Cond.code ⟨"WholeDeskModel", "written", "(II)I"⟩ prog_7_method_42_code 6 (some .int) ∈ zt := zk_44 (List.mem_of_getElem? (i := 19) rfl) (by decide +kernel)
theorem tw_900 : Cond.methodLink "WholeDeskModel" 158 ⟨"WholeDeskModel", "shrink", "([II)I"⟩ ∈ zt := zk_45 (List.mem_of_getElem? (i := 0) rfl) (by decide +kernel)
theorem tw_901 : Cond.static ⟨"WholeDeskModel", "shrink", "([II)I"⟩ ∈ zt := zk_45 (List.mem_of_getElem? (i := 1) rfl) (by decide +kernel)
theorem tw_902 : Cond.code ⟨"WholeDeskModel", "shrink", "([II)I"⟩ prog_7_method_12_code 5 (some .int) ∈ zt := zk_45 (List.mem_of_getElem? (i := 2) rfl) (by decide +kernel)
theorem tw_903 : Cond.methodLink "WholeDeskLaw" 158 ⟨"WholeDeskModel", "text", "(I)J"⟩ ∈ zt := zk_45 (List.mem_of_getElem? (i := 3) rfl) (by decide +kernel)
theorem tw_904 : Cond.instanceMethod ⟨"WholeDeskModel", "text", "(I)J"⟩ ∈ zt := zk_45 (List.mem_of_getElem? (i := 4) rfl) (by decide +kernel)
theorem tw_905 : Cond.selects "WholeDeskModel" ⟨"WholeDeskModel", "text", "(I)J"⟩ ⟨"WholeDeskModel", "text", "(I)J"⟩ ∈ zt := zk_45 (List.mem_of_getElem? (i := 5) rfl) (by decide +kernel)
theorem tw_906 : Cond.code ⟨"WholeDeskModel", "text", "(I)J"⟩ prog_7_method_43_code 7 (some .long) ∈ zt := zk_45 (List.mem_of_getElem? (i := 6) rfl) (by decide +kernel)
theorem tw_907 : Cond.constantLong "WholeDeskLaw" 81 4294967295 ∈ zt := zk_45 (List.mem_of_getElem? (i := 7) rfl) (by decide +kernel)
end
section
abbrev cW_init : ByteArray := prog_4_method_1_code
abbrev yW_init : MethodName := ⟨"WholeDesk$Whole", "<init>", "()V"⟩
theorem qW_init : yW_init.cls ≠ "java/lang/invoke/MethodHandle" ∧ yW_init.cls ≠ "java/lang/invoke/VarHandle" ∧ (parseMethodDescriptor yW_init.desc).map (fun d => d.parameters.length) = some 0 := by decide +kernel
theorem dW_init_0 : decode cW_init 0 = .ok (.aload_n 0, 1) := by decide +kernel
theorem dW_init_1 : decode cW_init 1 = .ok (.invokespecial 5, 3) := by decide +kernel
theorem dW_init_4 : decode cW_init 4 = .ok (.aload_n 0, 1) := by decide +kernel
theorem dW_init_5 : decode cW_init 5 = .ok (.sipush 152, 3) := by decide +kernel
theorem dW_init_8 : decode cW_init 8 = .ok (.newarray .long, 2) := by decide +kernel
theorem dW_init_10 : decode cW_init 10 = .ok (.putfield 11, 3) := by decide +kernel
theorem dW_init_13 : decode cW_init 13 = .ok (.return_, 1) := by decide +kernel
abbrev cW_become : ByteArray := prog_4_method_2_code
abbrev yW_become : MethodName := ⟨"WholeDesk$Whole", "become", "(J)V"⟩
theorem qW_become : yW_become.cls ≠ "java/lang/invoke/MethodHandle" ∧ yW_become.cls ≠ "java/lang/invoke/VarHandle" ∧ (parseMethodDescriptor yW_become.desc).map (fun d => d.parameters.length) = some 1 := by decide +kernel
theorem dW_become_0 : decode cW_become 0 = .ok (.lload_n 1, 1) := by decide +kernel
theorem dW_become_1 : decode cW_become 1 = .ok (.lconst 0, 1) := by decide +kernel
theorem dW_become_2 : decode cW_become 2 = .ok (.lcmp, 1) := by decide +kernel
theorem dW_become_3 : decode cW_become 3 = .ok (.ifCond .ge 8, 3) := by decide +kernel
theorem dW_become_6 : decode cW_become 6 = .ok (.lload_n 1, 1) := by decide +kernel
theorem dW_become_7 : decode cW_become 7 = .ok (.lneg, 1) := by decide +kernel
theorem dW_become_8 : decode cW_become 8 = .ok (.goto 4, 3) := by decide +kernel
theorem dW_become_11 : decode cW_become 11 = .ok (.lload_n 1, 1) := by decide +kernel
theorem dW_become_12 : decode cW_become 12 = .ok (.lstore_n 3, 1) := by decide +kernel
theorem dW_become_13 : decode cW_become 13 = .ok (.aload_n 0, 1) := by decide +kernel
theorem dW_become_14 : decode cW_become 14 = .ok (.getfield 11, 3) := by decide +kernel
theorem dW_become_17 : decode cW_become 17 = .ok (.iconst 0, 1) := by decide +kernel
theorem dW_become_18 : decode cW_become 18 = .ok (.lload_n 3, 1) := by decide +kernel
theorem dW_become_19 : decode cW_become 19 = .ok (.ldc2_w 15, 3) := by decide +kernel
theorem dW_become_22 : decode cW_become 22 = .ok (.land, 1) := by decide +kernel
theorem dW_become_23 : decode cW_become 23 = .ok (.lastore, 1) := by decide +kernel
theorem dW_become_24 : decode cW_become 24 = .ok (.aload_n 0, 1) := by decide +kernel
theorem dW_become_25 : decode cW_become 25 = .ok (.getfield 11, 3) := by decide +kernel
theorem dW_become_28 : decode cW_become 28 = .ok (.iconst 1, 1) := by decide +kernel
theorem dW_become_29 : decode cW_become 29 = .ok (.lload_n 3, 1) := by decide +kernel
theorem dW_become_30 : decode cW_become 30 = .ok (.bipush 28, 2) := by decide +kernel
theorem dW_become_32 : decode cW_become 32 = .ok (.lushr, 1) := by decide +kernel
theorem dW_become_33 : decode cW_become 33 = .ok (.ldc2_w 15, 3) := by decide +kernel
theorem dW_become_36 : decode cW_become 36 = .ok (.land, 1) := by decide +kernel
theorem dW_become_37 : decode cW_become 37 = .ok (.lastore, 1) := by decide +kernel
theorem dW_become_38 : decode cW_become 38 = .ok (.aload_n 0, 1) := by decide +kernel
theorem dW_become_39 : decode cW_become 39 = .ok (.getfield 11, 3) := by decide +kernel
theorem dW_become_42 : decode cW_become 42 = .ok (.iconst 2, 1) := by decide +kernel
theorem dW_become_43 : decode cW_become 43 = .ok (.lload_n 3, 1) := by decide +kernel
theorem dW_become_44 : decode cW_become 44 = .ok (.bipush 56, 2) := by decide +kernel
theorem dW_become_46 : decode cW_become 46 = .ok (.lushr, 1) := by decide +kernel
theorem dW_become_47 : decode cW_become 47 = .ok (.lastore, 1) := by decide +kernel
theorem dW_become_48 : decode cW_become 48 = .ok (.aload_n 0, 1) := by decide +kernel
theorem dW_become_49 : decode cW_become 49 = .ok (.iconst 3, 1) := by decide +kernel
theorem dW_become_50 : decode cW_become 50 = .ok (.putfield 17, 3) := by decide +kernel
theorem dW_become_53 : decode cW_become 53 = .ok (.aload_n 0, 1) := by decide +kernel
theorem dW_become_54 : decode cW_become 54 = .ok (.lload_n 1, 1) := by decide +kernel
theorem dW_become_55 : decode cW_become 55 = .ok (.lconst 0, 1) := by decide +kernel
theorem dW_become_56 : decode cW_become 56 = .ok (.lcmp, 1) := by decide +kernel
theorem dW_become_57 : decode cW_become 57 = .ok (.ifCond .ge 7, 3) := by decide +kernel
theorem dW_become_60 : decode cW_become 60 = .ok (.iconst 1, 1) := by decide +kernel
theorem dW_become_61 : decode cW_become 61 = .ok (.goto 4, 3) := by decide +kernel
theorem dW_become_64 : decode cW_become 64 = .ok (.iconst 0, 1) := by decide +kernel
theorem dW_become_65 : decode cW_become 65 = .ok (.putfield 21, 3) := by decide +kernel
theorem dW_become_68 : decode cW_become 68 = .ok (.aload_n 0, 1) := by decide +kernel
theorem dW_become_69 : decode cW_become 69 = .ok (.invokevirtual 25, 3) := by decide +kernel
theorem dW_become_72 : decode cW_become 72 = .ok (.return_, 1) := by decide +kernel
abbrev cW_becomePowerOfTwo : ByteArray := prog_4_method_3_code
abbrev yW_becomePowerOfTwo : MethodName := ⟨"WholeDesk$Whole", "becomePowerOfTwo", "(I)V"⟩
theorem qW_becomePowerOfTwo : yW_becomePowerOfTwo.cls ≠ "java/lang/invoke/MethodHandle" ∧ yW_becomePowerOfTwo.cls ≠ "java/lang/invoke/VarHandle" ∧ (parseMethodDescriptor yW_becomePowerOfTwo.desc).map (fun d => d.parameters.length) = some 1 := by decide +kernel
theorem dW_becomePowerOfTwo_0 : decode cW_becomePowerOfTwo 0 = .ok (.aload_n 0, 1) := by decide +kernel
theorem dW_becomePowerOfTwo_1 : decode cW_becomePowerOfTwo 1 = .ok (.iconst 0, 1) := by decide +kernel
theorem dW_becomePowerOfTwo_2 : decode cW_becomePowerOfTwo 2 = .ok (.putfield 17, 3) := by decide +kernel
theorem dW_becomePowerOfTwo_5 : decode cW_becomePowerOfTwo 5 = .ok (.aload_n 0, 1) := by decide +kernel
theorem dW_becomePowerOfTwo_6 : decode cW_becomePowerOfTwo 6 = .ok (.iconst 0, 1) := by decide +kernel
theorem dW_becomePowerOfTwo_7 : decode cW_becomePowerOfTwo 7 = .ok (.putfield 21, 3) := by decide +kernel
theorem dW_becomePowerOfTwo_10 : decode cW_becomePowerOfTwo 10 = .ok (.iload_n 1, 1) := by decide +kernel
theorem dW_becomePowerOfTwo_11 : decode cW_becomePowerOfTwo 11 = .ok (.bipush 28, 2) := by decide +kernel
theorem dW_becomePowerOfTwo_13 : decode cW_becomePowerOfTwo 13 = .ok (.idiv, 1) := by decide +kernel
theorem dW_becomePowerOfTwo_14 : decode cW_becomePowerOfTwo 14 = .ok (.istore_n 2, 1) := by decide +kernel
theorem dW_becomePowerOfTwo_15 : decode cW_becomePowerOfTwo 15 = .ok (.aload_n 0, 1) := by decide +kernel
theorem dW_becomePowerOfTwo_16 : decode cW_becomePowerOfTwo 16 = .ok (.iload_n 2, 1) := by decide +kernel
theorem dW_becomePowerOfTwo_17 : decode cW_becomePowerOfTwo 17 = .ok (.iconst 1, 1) := by decide +kernel
theorem dW_becomePowerOfTwo_18 : decode cW_becomePowerOfTwo 18 = .ok (.iadd, 1) := by decide +kernel
theorem dW_becomePowerOfTwo_19 : decode cW_becomePowerOfTwo 19 = .ok (.invokevirtual 28, 3) := by decide +kernel
theorem dW_becomePowerOfTwo_22 : decode cW_becomePowerOfTwo 22 = .ok (.iload_n 2, 1) := by decide +kernel
theorem dW_becomePowerOfTwo_23 : decode cW_becomePowerOfTwo 23 = .ok (.ifCond .lt 23, 3) := by decide +kernel
theorem dW_becomePowerOfTwo_26 : decode cW_becomePowerOfTwo 26 = .ok (.iload_n 2, 1) := by decide +kernel
theorem dW_becomePowerOfTwo_27 : decode cW_becomePowerOfTwo 27 = .ok (.aload_n 0, 1) := by decide +kernel
theorem dW_becomePowerOfTwo_28 : decode cW_becomePowerOfTwo 28 = .ok (.getfield 17, 3) := by decide +kernel
theorem dW_becomePowerOfTwo_31 : decode cW_becomePowerOfTwo 31 = .ok (.if_icmp .ge 15, 3) := by decide +kernel
theorem dW_becomePowerOfTwo_34 : decode cW_becomePowerOfTwo 34 = .ok (.aload_n 0, 1) := by decide +kernel
theorem dW_becomePowerOfTwo_35 : decode cW_becomePowerOfTwo 35 = .ok (.getfield 11, 3) := by decide +kernel
theorem dW_becomePowerOfTwo_38 : decode cW_becomePowerOfTwo 38 = .ok (.iload_n 2, 1) := by decide +kernel
theorem dW_becomePowerOfTwo_39 : decode cW_becomePowerOfTwo 39 = .ok (.lconst 1, 1) := by decide +kernel
theorem dW_becomePowerOfTwo_40 : decode cW_becomePowerOfTwo 40 = .ok (.iload_n 1, 1) := by decide +kernel
theorem dW_becomePowerOfTwo_41 : decode cW_becomePowerOfTwo 41 = .ok (.bipush 28, 2) := by decide +kernel
theorem dW_becomePowerOfTwo_43 : decode cW_becomePowerOfTwo 43 = .ok (.irem, 1) := by decide +kernel
theorem dW_becomePowerOfTwo_44 : decode cW_becomePowerOfTwo 44 = .ok (.lshl, 1) := by decide +kernel
theorem dW_becomePowerOfTwo_45 : decode cW_becomePowerOfTwo 45 = .ok (.lastore, 1) := by decide +kernel
theorem dW_becomePowerOfTwo_46 : decode cW_becomePowerOfTwo 46 = .ok (.return_, 1) := by decide +kernel
abbrev cW_copy : ByteArray := prog_4_method_4_code
abbrev yW_copy : MethodName := ⟨"WholeDesk$Whole", "copy", "(LWholeDesk$Whole;)V"⟩
theorem qW_copy : yW_copy.cls ≠ "java/lang/invoke/MethodHandle" ∧ yW_copy.cls ≠ "java/lang/invoke/VarHandle" ∧ (parseMethodDescriptor yW_copy.desc).map (fun d => d.parameters.length) = some 1 := by decide +kernel
theorem dW_copy_0 : decode cW_copy 0 = .ok (.aload_n 1, 1) := by decide +kernel
theorem dW_copy_1 : decode cW_copy 1 = .ok (.getfield 17, 3) := by decide +kernel
theorem dW_copy_4 : decode cW_copy 4 = .ok (.sipush 152, 3) := by decide +kernel
theorem dW_copy_7 : decode cW_copy 7 = .ok (.invokestatic 32, 3) := by decide +kernel
theorem dW_copy_10 : decode cW_copy 10 = .ok (.istore_n 2, 1) := by decide +kernel
theorem dW_copy_11 : decode cW_copy 11 = .ok (.aload_n 1, 1) := by decide +kernel
theorem dW_copy_12 : decode cW_copy 12 = .ok (.getfield 11, 3) := by decide +kernel
theorem dW_copy_15 : decode cW_copy 15 = .ok (.iconst 0, 1) := by decide +kernel
theorem dW_copy_16 : decode cW_copy 16 = .ok (.aload_n 0, 1) := by decide +kernel
theorem dW_copy_17 : decode cW_copy 17 = .ok (.getfield 11, 3) := by decide +kernel
theorem dW_copy_20 : decode cW_copy 20 = .ok (.iconst 0, 1) := by decide +kernel
theorem dW_copy_21 : decode cW_copy 21 = .ok (.iload_n 2, 1) := by decide +kernel
theorem dW_copy_22 : decode cW_copy 22 = .ok (.invokestatic 38, 3) := by decide +kernel
theorem dW_copy_25 : decode cW_copy 25 = .ok (.aload_n 0, 1) := by decide +kernel
theorem dW_copy_26 : decode cW_copy 26 = .ok (.iload_n 2, 1) := by decide +kernel
theorem dW_copy_27 : decode cW_copy 27 = .ok (.putfield 17, 3) := by decide +kernel
theorem dW_copy_30 : decode cW_copy 30 = .ok (.aload_n 0, 1) := by decide +kernel
theorem dW_copy_31 : decode cW_copy 31 = .ok (.aload_n 1, 1) := by decide +kernel
theorem dW_copy_32 : decode cW_copy 32 = .ok (.getfield 21, 3) := by decide +kernel
theorem dW_copy_35 : decode cW_copy 35 = .ok (.putfield 21, 3) := by decide +kernel
theorem dW_copy_38 : decode cW_copy 38 = .ok (.return_, 1) := by decide +kernel
abbrev cW_stretch : ByteArray := prog_4_method_5_code
abbrev yW_stretch : MethodName := ⟨"WholeDesk$Whole", "stretch", "(I)V"⟩
theorem qW_stretch : yW_stretch.cls ≠ "java/lang/invoke/MethodHandle" ∧ yW_stretch.cls ≠ "java/lang/invoke/VarHandle" ∧ (parseMethodDescriptor yW_stretch.desc).map (fun d => d.parameters.length) = some 1 := by decide +kernel
theorem dW_stretch_0 : decode cW_stretch 0 = .ok (.iload_n 1, 1) := by decide +kernel
theorem dW_stretch_1 : decode cW_stretch 1 = .ok (.sipush 152, 3) := by decide +kernel
theorem dW_stretch_4 : decode cW_stretch 4 = .ok (.invokestatic 32, 3) := by decide +kernel
theorem dW_stretch_7 : decode cW_stretch 7 = .ok (.istore_n 2, 1) := by decide +kernel
theorem dW_stretch_8 : decode cW_stretch 8 = .ok (.aload_n 0, 1) := by decide +kernel
theorem dW_stretch_9 : decode cW_stretch 9 = .ok (.getfield 17, 3) := by decide +kernel
theorem dW_stretch_12 : decode cW_stretch 12 = .ok (.istore_n 3, 1) := by decide +kernel
theorem dW_stretch_13 : decode cW_stretch 13 = .ok (.iload_n 3, 1) := by decide +kernel
theorem dW_stretch_14 : decode cW_stretch 14 = .ok (.iload_n 2, 1) := by decide +kernel
theorem dW_stretch_15 : decode cW_stretch 15 = .ok (.if_icmp .ge 16, 3) := by decide +kernel
theorem dW_stretch_18 : decode cW_stretch 18 = .ok (.aload_n 0, 1) := by decide +kernel
theorem dW_stretch_19 : decode cW_stretch 19 = .ok (.getfield 11, 3) := by decide +kernel
theorem dW_stretch_22 : decode cW_stretch 22 = .ok (.iload_n 3, 1) := by decide +kernel
theorem dW_stretch_23 : decode cW_stretch 23 = .ok (.lconst 0, 1) := by decide +kernel
theorem dW_stretch_24 : decode cW_stretch 24 = .ok (.lastore, 1) := by decide +kernel
theorem dW_stretch_25 : decode cW_stretch 25 = .ok (.iinc 3 1, 3) := by decide +kernel
theorem dW_stretch_28 : decode cW_stretch 28 = .ok (.goto (-15), 3) := by decide +kernel
theorem dW_stretch_31 : decode cW_stretch 31 = .ok (.aload_n 0, 1) := by decide +kernel
theorem dW_stretch_32 : decode cW_stretch 32 = .ok (.aload_n 0, 1) := by decide +kernel
theorem dW_stretch_33 : decode cW_stretch 33 = .ok (.getfield 17, 3) := by decide +kernel
theorem dW_stretch_36 : decode cW_stretch 36 = .ok (.iload_n 2, 1) := by decide +kernel
theorem dW_stretch_37 : decode cW_stretch 37 = .ok (.invokestatic 44, 3) := by decide +kernel
theorem dW_stretch_40 : decode cW_stretch 40 = .ok (.putfield 17, 3) := by decide +kernel
theorem dW_stretch_43 : decode cW_stretch 43 = .ok (.return_, 1) := by decide +kernel
abbrev cW_trim : ByteArray := prog_4_method_6_code
abbrev yW_trim : MethodName := ⟨"WholeDesk$Whole", "trim", "()V"⟩
theorem qW_trim : yW_trim.cls ≠ "java/lang/invoke/MethodHandle" ∧ yW_trim.cls ≠ "java/lang/invoke/VarHandle" ∧ (parseMethodDescriptor yW_trim.desc).map (fun d => d.parameters.length) = some 0 := by decide +kernel
theorem dW_trim_0 : decode cW_trim 0 = .ok (.aload_n 0, 1) := by decide +kernel
theorem dW_trim_1 : decode cW_trim 1 = .ok (.getfield 17, 3) := by decide +kernel
theorem dW_trim_4 : decode cW_trim 4 = .ok (.ifCond .le 32, 3) := by decide +kernel
theorem dW_trim_7 : decode cW_trim 7 = .ok (.aload_n 0, 1) := by decide +kernel
theorem dW_trim_8 : decode cW_trim 8 = .ok (.getfield 11, 3) := by decide +kernel
theorem dW_trim_11 : decode cW_trim 11 = .ok (.aload_n 0, 1) := by decide +kernel
theorem dW_trim_12 : decode cW_trim 12 = .ok (.getfield 17, 3) := by decide +kernel
theorem dW_trim_15 : decode cW_trim 15 = .ok (.iconst 1, 1) := by decide +kernel
theorem dW_trim_16 : decode cW_trim 16 = .ok (.isub, 1) := by decide +kernel
theorem dW_trim_17 : decode cW_trim 17 = .ok (.laload, 1) := by decide +kernel
theorem dW_trim_18 : decode cW_trim 18 = .ok (.lconst 0, 1) := by decide +kernel
theorem dW_trim_19 : decode cW_trim 19 = .ok (.lcmp, 1) := by decide +kernel
theorem dW_trim_20 : decode cW_trim 20 = .ok (.ifCond .ne 16, 3) := by decide +kernel
theorem dW_trim_23 : decode cW_trim 23 = .ok (.aload_n 0, 1) := by decide +kernel
theorem dW_trim_24 : decode cW_trim 24 = .ok (.dup, 1) := by decide +kernel
theorem dW_trim_25 : decode cW_trim 25 = .ok (.getfield 17, 3) := by decide +kernel
theorem dW_trim_28 : decode cW_trim 28 = .ok (.iconst 1, 1) := by decide +kernel
theorem dW_trim_29 : decode cW_trim 29 = .ok (.isub, 1) := by decide +kernel
theorem dW_trim_30 : decode cW_trim 30 = .ok (.putfield 17, 3) := by decide +kernel
theorem dW_trim_33 : decode cW_trim 33 = .ok (.goto (-33), 3) := by decide +kernel
theorem dW_trim_36 : decode cW_trim 36 = .ok (.aload_n 0, 1) := by decide +kernel
theorem dW_trim_37 : decode cW_trim 37 = .ok (.aload_n 0, 1) := by decide +kernel
theorem dW_trim_38 : decode cW_trim 38 = .ok (.getfield 21, 3) := by decide +kernel
theorem dW_trim_41 : decode cW_trim 41 = .ok (.ifCond .eq 14, 3) := by decide +kernel
theorem dW_trim_44 : decode cW_trim 44 = .ok (.aload_n 0, 1) := by decide +kernel
theorem dW_trim_45 : decode cW_trim 45 = .ok (.getfield 17, 3) := by decide +kernel
theorem dW_trim_48 : decode cW_trim 48 = .ok (.ifCond .le 7, 3) := by decide +kernel
theorem dW_trim_51 : decode cW_trim 51 = .ok (.iconst 1, 1) := by decide +kernel
theorem dW_trim_52 : decode cW_trim 52 = .ok (.goto 4, 3) := by decide +kernel
theorem dW_trim_55 : decode cW_trim 55 = .ok (.iconst 0, 1) := by decide +kernel
theorem dW_trim_56 : decode cW_trim 56 = .ok (.putfield 21, 3) := by decide +kernel
theorem dW_trim_59 : decode cW_trim 59 = .ok (.return_, 1) := by decide +kernel
abbrev cW_limb : ByteArray := prog_4_method_7_code
abbrev yW_limb : MethodName := ⟨"WholeDesk$Whole", "limb", "(I)J"⟩
theorem qW_limb : yW_limb.cls ≠ "java/lang/invoke/MethodHandle" ∧ yW_limb.cls ≠ "java/lang/invoke/VarHandle" ∧ (parseMethodDescriptor yW_limb.desc).map (fun d => d.parameters.length) = some 1 := by decide +kernel
theorem dW_limb_0 : decode cW_limb 0 = .ok (.iload_n 1, 1) := by decide +kernel
theorem dW_limb_1 : decode cW_limb 1 = .ok (.ifCond .lt 20, 3) := by decide +kernel
theorem dW_limb_4 : decode cW_limb 4 = .ok (.iload_n 1, 1) := by decide +kernel
theorem dW_limb_5 : decode cW_limb 5 = .ok (.aload_n 0, 1) := by decide +kernel
theorem dW_limb_6 : decode cW_limb 6 = .ok (.getfield 17, 3) := by decide +kernel
theorem dW_limb_9 : decode cW_limb 9 = .ok (.if_icmp .ge 12, 3) := by decide +kernel
theorem dW_limb_12 : decode cW_limb 12 = .ok (.aload_n 0, 1) := by decide +kernel
theorem dW_limb_13 : decode cW_limb 13 = .ok (.getfield 11, 3) := by decide +kernel
theorem dW_limb_16 : decode cW_limb 16 = .ok (.iload_n 1, 1) := by decide +kernel
theorem dW_limb_17 : decode cW_limb 17 = .ok (.laload, 1) := by decide +kernel
theorem dW_limb_18 : decode cW_limb 18 = .ok (.goto 4, 3) := by decide +kernel
theorem dW_limb_21 : decode cW_limb 21 = .ok (.lconst 0, 1) := by decide +kernel
theorem dW_limb_22 : decode cW_limb 22 = .ok (.lreturn, 1) := by decide +kernel
abbrev cW_limbShifted : ByteArray := prog_4_method_8_code
abbrev yW_limbShifted : MethodName := ⟨"WholeDesk$Whole", "limbShifted", "(II)J"⟩
theorem qW_limbShifted : yW_limbShifted.cls ≠ "java/lang/invoke/MethodHandle" ∧ yW_limbShifted.cls ≠ "java/lang/invoke/VarHandle" ∧ (parseMethodDescriptor yW_limbShifted.desc).map (fun d => d.parameters.length) = some 2 := by decide +kernel
theorem dW_limbShifted_0 : decode cW_limbShifted 0 = .ok (.iload_n 1, 1) := by decide +kernel
theorem dW_limbShifted_1 : decode cW_limbShifted 1 = .ok (.ifCond .lt 20, 3) := by decide +kernel
theorem dW_limbShifted_4 : decode cW_limbShifted 4 = .ok (.iload_n 1, 1) := by decide +kernel
theorem dW_limbShifted_5 : decode cW_limbShifted 5 = .ok (.aload_n 0, 1) := by decide +kernel
theorem dW_limbShifted_6 : decode cW_limbShifted 6 = .ok (.getfield 17, 3) := by decide +kernel
theorem dW_limbShifted_9 : decode cW_limbShifted 9 = .ok (.if_icmp .ge 12, 3) := by decide +kernel
theorem dW_limbShifted_12 : decode cW_limbShifted 12 = .ok (.aload_n 0, 1) := by decide +kernel
theorem dW_limbShifted_13 : decode cW_limbShifted 13 = .ok (.getfield 11, 3) := by decide +kernel
theorem dW_limbShifted_16 : decode cW_limbShifted 16 = .ok (.iload_n 1, 1) := by decide +kernel
theorem dW_limbShifted_17 : decode cW_limbShifted 17 = .ok (.laload, 1) := by decide +kernel
theorem dW_limbShifted_18 : decode cW_limbShifted 18 = .ok (.goto 4, 3) := by decide +kernel
theorem dW_limbShifted_21 : decode cW_limbShifted 21 = .ok (.lconst 0, 1) := by decide +kernel
theorem dW_limbShifted_22 : decode cW_limbShifted 22 = .ok (.lstore_n 3, 1) := by decide +kernel
theorem dW_limbShifted_23 : decode cW_limbShifted 23 = .ok (.iload_n 1, 1) := by decide +kernel
theorem dW_limbShifted_24 : decode cW_limbShifted 24 = .ok (.iconst 1, 1) := by decide +kernel
theorem dW_limbShifted_25 : decode cW_limbShifted 25 = .ok (.if_icmp .lt 22, 3) := by decide +kernel
theorem dW_limbShifted_28 : decode cW_limbShifted 28 = .ok (.iload_n 1, 1) := by decide +kernel
theorem dW_limbShifted_29 : decode cW_limbShifted 29 = .ok (.aload_n 0, 1) := by decide +kernel
theorem dW_limbShifted_30 : decode cW_limbShifted 30 = .ok (.getfield 17, 3) := by decide +kernel
theorem dW_limbShifted_33 : decode cW_limbShifted 33 = .ok (.if_icmp .gt 14, 3) := by decide +kernel
theorem dW_limbShifted_36 : decode cW_limbShifted 36 = .ok (.aload_n 0, 1) := by decide +kernel
theorem dW_limbShifted_37 : decode cW_limbShifted 37 = .ok (.getfield 11, 3) := by decide +kernel
theorem dW_limbShifted_40 : decode cW_limbShifted 40 = .ok (.iload_n 1, 1) := by decide +kernel
theorem dW_limbShifted_41 : decode cW_limbShifted 41 = .ok (.iconst 1, 1) := by decide +kernel
theorem dW_limbShifted_42 : decode cW_limbShifted 42 = .ok (.isub, 1) := by decide +kernel
theorem dW_limbShifted_43 : decode cW_limbShifted 43 = .ok (.laload, 1) := by decide +kernel
theorem dW_limbShifted_44 : decode cW_limbShifted 44 = .ok (.goto 4, 3) := by decide +kernel
theorem dW_limbShifted_47 : decode cW_limbShifted 47 = .ok (.lconst 0, 1) := by decide +kernel
theorem dW_limbShifted_48 : decode cW_limbShifted 48 = .ok (.lstore 5, 2) := by decide +kernel
theorem dW_limbShifted_50 : decode cW_limbShifted 50 = .ok (.lload_n 3, 1) := by decide +kernel
theorem dW_limbShifted_51 : decode cW_limbShifted 51 = .ok (.iload_n 2, 1) := by decide +kernel
theorem dW_limbShifted_52 : decode cW_limbShifted 52 = .ok (.lshl, 1) := by decide +kernel
theorem dW_limbShifted_53 : decode cW_limbShifted 53 = .ok (.lload 5, 2) := by decide +kernel
theorem dW_limbShifted_55 : decode cW_limbShifted 55 = .ok (.bipush 28, 2) := by decide +kernel
theorem dW_limbShifted_57 : decode cW_limbShifted 57 = .ok (.iload_n 2, 1) := by decide +kernel
theorem dW_limbShifted_58 : decode cW_limbShifted 58 = .ok (.isub, 1) := by decide +kernel
theorem dW_limbShifted_59 : decode cW_limbShifted 59 = .ok (.lushr, 1) := by decide +kernel
theorem dW_limbShifted_60 : decode cW_limbShifted 60 = .ok (.lor, 1) := by decide +kernel
theorem dW_limbShifted_61 : decode cW_limbShifted 61 = .ok (.ldc2_w 15, 3) := by decide +kernel
theorem dW_limbShifted_64 : decode cW_limbShifted 64 = .ok (.land, 1) := by decide +kernel
theorem dW_limbShifted_65 : decode cW_limbShifted 65 = .ok (.lreturn, 1) := by decide +kernel
abbrev cW_bits : ByteArray := prog_4_method_9_code
abbrev yW_bits : MethodName := ⟨"WholeDesk$Whole", "bits", "()I"⟩
theorem qW_bits : yW_bits.cls ≠ "java/lang/invoke/MethodHandle" ∧ yW_bits.cls ≠ "java/lang/invoke/VarHandle" ∧ (parseMethodDescriptor yW_bits.desc).map (fun d => d.parameters.length) = some 0 := by decide +kernel
theorem dW_bits_0 : decode cW_bits 0 = .ok (.aload_n 0, 1) := by decide +kernel
theorem dW_bits_1 : decode cW_bits 1 = .ok (.getfield 17, 3) := by decide +kernel
theorem dW_bits_4 : decode cW_bits 4 = .ok (.ifCond .ne 7, 3) := by decide +kernel
theorem dW_bits_7 : decode cW_bits 7 = .ok (.iconst 0, 1) := by decide +kernel
theorem dW_bits_8 : decode cW_bits 8 = .ok (.goto 26, 3) := by decide +kernel
theorem dW_bits_11 : decode cW_bits 11 = .ok (.aload_n 0, 1) := by decide +kernel
theorem dW_bits_12 : decode cW_bits 12 = .ok (.getfield 17, 3) := by decide +kernel
theorem dW_bits_15 : decode cW_bits 15 = .ok (.iconst 1, 1) := by decide +kernel
theorem dW_bits_16 : decode cW_bits 16 = .ok (.isub, 1) := by decide +kernel
theorem dW_bits_17 : decode cW_bits 17 = .ok (.bipush 28, 2) := by decide +kernel
theorem dW_bits_19 : decode cW_bits 19 = .ok (.imul, 1) := by decide +kernel
theorem dW_bits_20 : decode cW_bits 20 = .ok (.aload_n 0, 1) := by decide +kernel
theorem dW_bits_21 : decode cW_bits 21 = .ok (.aload_n 0, 1) := by decide +kernel
theorem dW_bits_22 : decode cW_bits 22 = .ok (.getfield 17, 3) := by decide +kernel
theorem dW_bits_25 : decode cW_bits 25 = .ok (.iconst 1, 1) := by decide +kernel
theorem dW_bits_26 : decode cW_bits 26 = .ok (.isub, 1) := by decide +kernel
theorem dW_bits_27 : decode cW_bits 27 = .ok (.invokevirtual 47, 3) := by decide +kernel
theorem dW_bits_30 : decode cW_bits 30 = .ok (.invokestatic 51, 3) := by decide +kernel
theorem dW_bits_33 : decode cW_bits 33 = .ok (.iadd, 1) := by decide +kernel
theorem dW_bits_34 : decode cW_bits 34 = .ok (.ireturn, 1) := by decide +kernel
abbrev cW_digitsOf : ByteArray := prog_4_method_10_code
abbrev yW_digitsOf : MethodName := ⟨"WholeDesk$Whole", "digitsOf", "(J)I"⟩
theorem qW_digitsOf : yW_digitsOf.cls ≠ "java/lang/invoke/MethodHandle" ∧ yW_digitsOf.cls ≠ "java/lang/invoke/VarHandle" ∧ (parseMethodDescriptor yW_digitsOf.desc).map (fun d => d.parameters.length) = some 1 := by decide +kernel
theorem dW_digitsOf_0 : decode cW_digitsOf 0 = .ok (.iconst 0, 1) := by decide +kernel
theorem dW_digitsOf_1 : decode cW_digitsOf 1 = .ok (.istore_n 2, 1) := by decide +kernel
theorem dW_digitsOf_2 : decode cW_digitsOf 2 = .ok (.lload_n 0, 1) := by decide +kernel
theorem dW_digitsOf_3 : decode cW_digitsOf 3 = .ok (.lstore_n 3, 1) := by decide +kernel
theorem dW_digitsOf_4 : decode cW_digitsOf 4 = .ok (.lload_n 3, 1) := by decide +kernel
theorem dW_digitsOf_5 : decode cW_digitsOf 5 = .ok (.lconst 0, 1) := by decide +kernel
theorem dW_digitsOf_6 : decode cW_digitsOf 6 = .ok (.lcmp, 1) := by decide +kernel
theorem dW_digitsOf_7 : decode cW_digitsOf 7 = .ok (.ifCond .eq 19, 3) := by decide +kernel
theorem dW_digitsOf_10 : decode cW_digitsOf 10 = .ok (.iload_n 2, 1) := by decide +kernel
theorem dW_digitsOf_11 : decode cW_digitsOf 11 = .ok (.bipush 28, 2) := by decide +kernel
theorem dW_digitsOf_13 : decode cW_digitsOf 13 = .ok (.if_icmp .ge 13, 3) := by decide +kernel
theorem dW_digitsOf_16 : decode cW_digitsOf 16 = .ok (.iinc 2 1, 3) := by decide +kernel
theorem dW_digitsOf_19 : decode cW_digitsOf 19 = .ok (.lload_n 3, 1) := by decide +kernel
theorem dW_digitsOf_20 : decode cW_digitsOf 20 = .ok (.iconst 1, 1) := by decide +kernel
theorem dW_digitsOf_21 : decode cW_digitsOf 21 = .ok (.lushr, 1) := by decide +kernel
theorem dW_digitsOf_22 : decode cW_digitsOf 22 = .ok (.lstore_n 3, 1) := by decide +kernel
theorem dW_digitsOf_23 : decode cW_digitsOf 23 = .ok (.goto (-19), 3) := by decide +kernel
theorem dW_digitsOf_26 : decode cW_digitsOf 26 = .ok (.iload_n 2, 1) := by decide +kernel
theorem dW_digitsOf_27 : decode cW_digitsOf 27 = .ok (.ireturn, 1) := by decide +kernel
abbrev cW_sign : ByteArray := prog_4_method_11_code
abbrev yW_sign : MethodName := ⟨"WholeDesk$Whole", "sign", "()I"⟩
theorem qW_sign : yW_sign.cls ≠ "java/lang/invoke/MethodHandle" ∧ yW_sign.cls ≠ "java/lang/invoke/VarHandle" ∧ (parseMethodDescriptor yW_sign.desc).map (fun d => d.parameters.length) = some 0 := by decide +kernel
theorem dW_sign_0 : decode cW_sign 0 = .ok (.aload_n 0, 1) := by decide +kernel
theorem dW_sign_1 : decode cW_sign 1 = .ok (.getfield 17, 3) := by decide +kernel
theorem dW_sign_4 : decode cW_sign 4 = .ok (.ifCond .ne 5, 3) := by decide +kernel
theorem dW_sign_7 : decode cW_sign 7 = .ok (.iconst 0, 1) := by decide +kernel
theorem dW_sign_8 : decode cW_sign 8 = .ok (.ireturn, 1) := by decide +kernel
theorem dW_sign_9 : decode cW_sign 9 = .ok (.aload_n 0, 1) := by decide +kernel
theorem dW_sign_10 : decode cW_sign 10 = .ok (.getfield 21, 3) := by decide +kernel
theorem dW_sign_13 : decode cW_sign 13 = .ok (.ifCond .eq 7, 3) := by decide +kernel
theorem dW_sign_16 : decode cW_sign 16 = .ok (.iconst (-1), 1) := by decide +kernel
theorem dW_sign_17 : decode cW_sign 17 = .ok (.goto 4, 3) := by decide +kernel
theorem dW_sign_20 : decode cW_sign 20 = .ok (.iconst 1, 1) := by decide +kernel
theorem dW_sign_21 : decode cW_sign 21 = .ok (.ireturn, 1) := by decide +kernel
abbrev cW_sizeAgainst : ByteArray := prog_4_method_12_code
abbrev yW_sizeAgainst : MethodName := ⟨"WholeDesk$Whole", "sizeAgainst", "(LWholeDesk$Whole;)I"⟩
theorem qW_sizeAgainst : yW_sizeAgainst.cls ≠ "java/lang/invoke/MethodHandle" ∧ yW_sizeAgainst.cls ≠ "java/lang/invoke/VarHandle" ∧ (parseMethodDescriptor yW_sizeAgainst.desc).map (fun d => d.parameters.length) = some 1 := by decide +kernel
theorem dW_sizeAgainst_0 : decode cW_sizeAgainst 0 = .ok (.aload_n 0, 1) := by decide +kernel
theorem dW_sizeAgainst_1 : decode cW_sizeAgainst 1 = .ok (.getfield 17, 3) := by decide +kernel
theorem dW_sizeAgainst_4 : decode cW_sizeAgainst 4 = .ok (.aload_n 1, 1) := by decide +kernel
theorem dW_sizeAgainst_5 : decode cW_sizeAgainst 5 = .ok (.getfield 17, 3) := by decide +kernel
theorem dW_sizeAgainst_8 : decode cW_sizeAgainst 8 = .ok (.if_icmp .eq 20, 3) := by decide +kernel
theorem dW_sizeAgainst_11 : decode cW_sizeAgainst 11 = .ok (.aload_n 0, 1) := by decide +kernel
theorem dW_sizeAgainst_12 : decode cW_sizeAgainst 12 = .ok (.getfield 17, 3) := by decide +kernel
theorem dW_sizeAgainst_15 : decode cW_sizeAgainst 15 = .ok (.aload_n 1, 1) := by decide +kernel
theorem dW_sizeAgainst_16 : decode cW_sizeAgainst 16 = .ok (.getfield 17, 3) := by decide +kernel
theorem dW_sizeAgainst_19 : decode cW_sizeAgainst 19 = .ok (.if_icmp .ge 7, 3) := by decide +kernel
theorem dW_sizeAgainst_22 : decode cW_sizeAgainst 22 = .ok (.iconst (-1), 1) := by decide +kernel
theorem dW_sizeAgainst_23 : decode cW_sizeAgainst 23 = .ok (.goto 4, 3) := by decide +kernel
theorem dW_sizeAgainst_26 : decode cW_sizeAgainst 26 = .ok (.iconst 1, 1) := by decide +kernel
theorem dW_sizeAgainst_27 : decode cW_sizeAgainst 27 = .ok (.ireturn, 1) := by decide +kernel
theorem dW_sizeAgainst_28 : decode cW_sizeAgainst 28 = .ok (.aload_n 0, 1) := by decide +kernel
theorem dW_sizeAgainst_29 : decode cW_sizeAgainst 29 = .ok (.getfield 17, 3) := by decide +kernel
theorem dW_sizeAgainst_32 : decode cW_sizeAgainst 32 = .ok (.iconst 1, 1) := by decide +kernel
theorem dW_sizeAgainst_33 : decode cW_sizeAgainst 33 = .ok (.isub, 1) := by decide +kernel
theorem dW_sizeAgainst_34 : decode cW_sizeAgainst 34 = .ok (.istore_n 2, 1) := by decide +kernel
theorem dW_sizeAgainst_35 : decode cW_sizeAgainst 35 = .ok (.iload_n 2, 1) := by decide +kernel
theorem dW_sizeAgainst_36 : decode cW_sizeAgainst 36 = .ok (.ifCond .lt 47, 3) := by decide +kernel
theorem dW_sizeAgainst_39 : decode cW_sizeAgainst 39 = .ok (.aload_n 0, 1) := by decide +kernel
theorem dW_sizeAgainst_40 : decode cW_sizeAgainst 40 = .ok (.getfield 11, 3) := by decide +kernel
theorem dW_sizeAgainst_43 : decode cW_sizeAgainst 43 = .ok (.iload_n 2, 1) := by decide +kernel
theorem dW_sizeAgainst_44 : decode cW_sizeAgainst 44 = .ok (.laload, 1) := by decide +kernel
theorem dW_sizeAgainst_45 : decode cW_sizeAgainst 45 = .ok (.aload_n 1, 1) := by decide +kernel
theorem dW_sizeAgainst_46 : decode cW_sizeAgainst 46 = .ok (.getfield 11, 3) := by decide +kernel
theorem dW_sizeAgainst_49 : decode cW_sizeAgainst 49 = .ok (.iload_n 2, 1) := by decide +kernel
theorem dW_sizeAgainst_50 : decode cW_sizeAgainst 50 = .ok (.laload, 1) := by decide +kernel
theorem dW_sizeAgainst_51 : decode cW_sizeAgainst 51 = .ok (.lcmp, 1) := by decide +kernel
theorem dW_sizeAgainst_52 : decode cW_sizeAgainst 52 = .ok (.ifCond .eq 25, 3) := by decide +kernel
theorem dW_sizeAgainst_55 : decode cW_sizeAgainst 55 = .ok (.aload_n 0, 1) := by decide +kernel
theorem dW_sizeAgainst_56 : decode cW_sizeAgainst 56 = .ok (.getfield 11, 3) := by decide +kernel
theorem dW_sizeAgainst_59 : decode cW_sizeAgainst 59 = .ok (.iload_n 2, 1) := by decide +kernel
theorem dW_sizeAgainst_60 : decode cW_sizeAgainst 60 = .ok (.laload, 1) := by decide +kernel
theorem dW_sizeAgainst_61 : decode cW_sizeAgainst 61 = .ok (.aload_n 1, 1) := by decide +kernel
theorem dW_sizeAgainst_62 : decode cW_sizeAgainst 62 = .ok (.getfield 11, 3) := by decide +kernel
theorem dW_sizeAgainst_65 : decode cW_sizeAgainst 65 = .ok (.iload_n 2, 1) := by decide +kernel
theorem dW_sizeAgainst_66 : decode cW_sizeAgainst 66 = .ok (.laload, 1) := by decide +kernel
theorem dW_sizeAgainst_67 : decode cW_sizeAgainst 67 = .ok (.lcmp, 1) := by decide +kernel
theorem dW_sizeAgainst_68 : decode cW_sizeAgainst 68 = .ok (.ifCond .ge 7, 3) := by decide +kernel
theorem dW_sizeAgainst_71 : decode cW_sizeAgainst 71 = .ok (.iconst (-1), 1) := by decide +kernel
theorem dW_sizeAgainst_72 : decode cW_sizeAgainst 72 = .ok (.goto 4, 3) := by decide +kernel
theorem dW_sizeAgainst_75 : decode cW_sizeAgainst 75 = .ok (.iconst 1, 1) := by decide +kernel
theorem dW_sizeAgainst_76 : decode cW_sizeAgainst 76 = .ok (.ireturn, 1) := by decide +kernel
theorem dW_sizeAgainst_77 : decode cW_sizeAgainst 77 = .ok (.iinc 2 (-1), 3) := by decide +kernel
theorem dW_sizeAgainst_80 : decode cW_sizeAgainst 80 = .ok (.goto (-45), 3) := by decide +kernel
theorem dW_sizeAgainst_83 : decode cW_sizeAgainst 83 = .ok (.iconst 0, 1) := by decide +kernel
theorem dW_sizeAgainst_84 : decode cW_sizeAgainst 84 = .ok (.ireturn, 1) := by decide +kernel
abbrev cW_against : ByteArray := prog_4_method_13_code
abbrev yW_against : MethodName := ⟨"WholeDesk$Whole", "against", "(LWholeDesk$Whole;)I"⟩
theorem qW_against : yW_against.cls ≠ "java/lang/invoke/MethodHandle" ∧ yW_against.cls ≠ "java/lang/invoke/VarHandle" ∧ (parseMethodDescriptor yW_against.desc).map (fun d => d.parameters.length) = some 1 := by decide +kernel
theorem dW_against_0 : decode cW_against 0 = .ok (.aload_n 0, 1) := by decide +kernel
theorem dW_against_1 : decode cW_against 1 = .ok (.getfield 21, 3) := by decide +kernel
theorem dW_against_4 : decode cW_against 4 = .ok (.aload_n 1, 1) := by decide +kernel
theorem dW_against_5 : decode cW_against 5 = .ok (.getfield 21, 3) := by decide +kernel
theorem dW_against_8 : decode cW_against 8 = .ok (.if_icmp .eq 16, 3) := by decide +kernel
theorem dW_against_11 : decode cW_against 11 = .ok (.aload_n 0, 1) := by decide +kernel
theorem dW_against_12 : decode cW_against 12 = .ok (.getfield 21, 3) := by decide +kernel
theorem dW_against_15 : decode cW_against 15 = .ok (.ifCond .eq 7, 3) := by decide +kernel
theorem dW_against_18 : decode cW_against 18 = .ok (.iconst (-1), 1) := by decide +kernel
theorem dW_against_19 : decode cW_against 19 = .ok (.goto 4, 3) := by decide +kernel
theorem dW_against_22 : decode cW_against 22 = .ok (.iconst 1, 1) := by decide +kernel
theorem dW_against_23 : decode cW_against 23 = .ok (.ireturn, 1) := by decide +kernel
theorem dW_against_24 : decode cW_against 24 = .ok (.aload_n 0, 1) := by decide +kernel
theorem dW_against_25 : decode cW_against 25 = .ok (.getfield 21, 3) := by decide +kernel
theorem dW_against_28 : decode cW_against 28 = .ok (.ifCond .eq 11, 3) := by decide +kernel
theorem dW_against_31 : decode cW_against 31 = .ok (.aload_n 1, 1) := by decide +kernel
theorem dW_against_32 : decode cW_against 32 = .ok (.aload_n 0, 1) := by decide +kernel
theorem dW_against_33 : decode cW_against 33 = .ok (.invokevirtual 55, 3) := by decide +kernel
theorem dW_against_36 : decode cW_against 36 = .ok (.goto 8, 3) := by decide +kernel
theorem dW_against_39 : decode cW_against 39 = .ok (.aload_n 0, 1) := by decide +kernel
theorem dW_against_40 : decode cW_against 40 = .ok (.aload_n 1, 1) := by decide +kernel
theorem dW_against_41 : decode cW_against 41 = .ok (.invokevirtual 55, 3) := by decide +kernel
theorem dW_against_44 : decode cW_against 44 = .ok (.ireturn, 1) := by decide +kernel
abbrev cW_isOne : ByteArray := prog_4_method_14_code
abbrev yW_isOne : MethodName := ⟨"WholeDesk$Whole", "isOne", "()Z"⟩
theorem qW_isOne : yW_isOne.cls ≠ "java/lang/invoke/MethodHandle" ∧ yW_isOne.cls ≠ "java/lang/invoke/VarHandle" ∧ (parseMethodDescriptor yW_isOne.desc).map (fun d => d.parameters.length) = some 0 := by decide +kernel
theorem dW_isOne_0 : decode cW_isOne 0 = .ok (.aload_n 0, 1) := by decide +kernel
theorem dW_isOne_1 : decode cW_isOne 1 = .ok (.getfield 17, 3) := by decide +kernel
theorem dW_isOne_4 : decode cW_isOne 4 = .ok (.iconst 1, 1) := by decide +kernel
theorem dW_isOne_5 : decode cW_isOne 5 = .ok (.if_icmp .ne 25, 3) := by decide +kernel
theorem dW_isOne_8 : decode cW_isOne 8 = .ok (.aload_n 0, 1) := by decide +kernel
theorem dW_isOne_9 : decode cW_isOne 9 = .ok (.getfield 11, 3) := by decide +kernel
theorem dW_isOne_12 : decode cW_isOne 12 = .ok (.iconst 0, 1) := by decide +kernel
theorem dW_isOne_13 : decode cW_isOne 13 = .ok (.laload, 1) := by decide +kernel
theorem dW_isOne_14 : decode cW_isOne 14 = .ok (.lconst 1, 1) := by decide +kernel
theorem dW_isOne_15 : decode cW_isOne 15 = .ok (.lcmp, 1) := by decide +kernel
theorem dW_isOne_16 : decode cW_isOne 16 = .ok (.ifCond .ne 14, 3) := by decide +kernel
theorem dW_isOne_19 : decode cW_isOne 19 = .ok (.aload_n 0, 1) := by decide +kernel
theorem dW_isOne_20 : decode cW_isOne 20 = .ok (.getfield 21, 3) := by decide +kernel
theorem dW_isOne_23 : decode cW_isOne 23 = .ok (.ifCond .ne 7, 3) := by decide +kernel
theorem dW_isOne_26 : decode cW_isOne 26 = .ok (.iconst 1, 1) := by decide +kernel
theorem dW_isOne_27 : decode cW_isOne 27 = .ok (.goto 4, 3) := by decide +kernel
theorem dW_isOne_30 : decode cW_isOne 30 = .ok (.iconst 0, 1) := by decide +kernel
theorem dW_isOne_31 : decode cW_isOne 31 = .ok (.ireturn, 1) := by decide +kernel
abbrev cW_lowest64 : ByteArray := prog_4_method_15_code
abbrev yW_lowest64 : MethodName := ⟨"WholeDesk$Whole", "lowest64", "()J"⟩
theorem qW_lowest64 : yW_lowest64.cls ≠ "java/lang/invoke/MethodHandle" ∧ yW_lowest64.cls ≠ "java/lang/invoke/VarHandle" ∧ (parseMethodDescriptor yW_lowest64.desc).map (fun d => d.parameters.length) = some 0 := by decide +kernel
theorem dW_lowest64_0 : decode cW_lowest64 0 = .ok (.aload_n 0, 1) := by decide +kernel
theorem dW_lowest64_1 : decode cW_lowest64 1 = .ok (.iconst 0, 1) := by decide +kernel
theorem dW_lowest64_2 : decode cW_lowest64 2 = .ok (.invokevirtual 47, 3) := by decide +kernel
theorem dW_lowest64_5 : decode cW_lowest64 5 = .ok (.aload_n 0, 1) := by decide +kernel
theorem dW_lowest64_6 : decode cW_lowest64 6 = .ok (.iconst 1, 1) := by decide +kernel
theorem dW_lowest64_7 : decode cW_lowest64 7 = .ok (.invokevirtual 47, 3) := by decide +kernel
theorem dW_lowest64_10 : decode cW_lowest64 10 = .ok (.bipush 28, 2) := by decide +kernel
theorem dW_lowest64_12 : decode cW_lowest64 12 = .ok (.lshl, 1) := by decide +kernel
theorem dW_lowest64_13 : decode cW_lowest64 13 = .ok (.lor, 1) := by decide +kernel
theorem dW_lowest64_14 : decode cW_lowest64 14 = .ok (.aload_n 0, 1) := by decide +kernel
theorem dW_lowest64_15 : decode cW_lowest64 15 = .ok (.iconst 2, 1) := by decide +kernel
theorem dW_lowest64_16 : decode cW_lowest64 16 = .ok (.invokevirtual 47, 3) := by decide +kernel
theorem dW_lowest64_19 : decode cW_lowest64 19 = .ok (.bipush 56, 2) := by decide +kernel
theorem dW_lowest64_21 : decode cW_lowest64 21 = .ok (.lshl, 1) := by decide +kernel
theorem dW_lowest64_22 : decode cW_lowest64 22 = .ok (.lor, 1) := by decide +kernel
theorem dW_lowest64_23 : decode cW_lowest64 23 = .ok (.lstore_n 1, 1) := by decide +kernel
theorem dW_lowest64_24 : decode cW_lowest64 24 = .ok (.aload_n 0, 1) := by decide +kernel
theorem dW_lowest64_25 : decode cW_lowest64 25 = .ok (.getfield 21, 3) := by decide +kernel
theorem dW_lowest64_28 : decode cW_lowest64 28 = .ok (.ifCond .eq 8, 3) := by decide +kernel
theorem dW_lowest64_31 : decode cW_lowest64 31 = .ok (.lload_n 1, 1) := by decide +kernel
theorem dW_lowest64_32 : decode cW_lowest64 32 = .ok (.lneg, 1) := by decide +kernel
theorem dW_lowest64_33 : decode cW_lowest64 33 = .ok (.goto 4, 3) := by decide +kernel
theorem dW_lowest64_36 : decode cW_lowest64 36 = .ok (.lload_n 1, 1) := by decide +kernel
theorem dW_lowest64_37 : decode cW_lowest64 37 = .ok (.lreturn, 1) := by decide +kernel
abbrev cW_lowestOne : ByteArray := prog_4_method_16_code
abbrev yW_lowestOne : MethodName := ⟨"WholeDesk$Whole", "lowestOne", "()I"⟩
theorem qW_lowestOne : yW_lowestOne.cls ≠ "java/lang/invoke/MethodHandle" ∧ yW_lowestOne.cls ≠ "java/lang/invoke/VarHandle" ∧ (parseMethodDescriptor yW_lowestOne.desc).map (fun d => d.parameters.length) = some 0 := by decide +kernel
theorem dW_lowestOne_0 : decode cW_lowestOne 0 = .ok (.iconst 0, 1) := by decide +kernel
theorem dW_lowestOne_1 : decode cW_lowestOne 1 = .ok (.istore_n 1, 1) := by decide +kernel
theorem dW_lowestOne_2 : decode cW_lowestOne 2 = .ok (.iload_n 1, 1) := by decide +kernel
theorem dW_lowestOne_3 : decode cW_lowestOne 3 = .ok (.aload_n 0, 1) := by decide +kernel
theorem dW_lowestOne_4 : decode cW_lowestOne 4 = .ok (.getfield 17, 3) := by decide +kernel
theorem dW_lowestOne_7 : decode cW_lowestOne 7 = .ok (.if_icmp .ge 45, 3) := by decide +kernel
theorem dW_lowestOne_10 : decode cW_lowestOne 10 = .ok (.aload_n 0, 1) := by decide +kernel
theorem dW_lowestOne_11 : decode cW_lowestOne 11 = .ok (.getfield 11, 3) := by decide +kernel
theorem dW_lowestOne_14 : decode cW_lowestOne 14 = .ok (.iload_n 1, 1) := by decide +kernel
theorem dW_lowestOne_15 : decode cW_lowestOne 15 = .ok (.laload, 1) := by decide +kernel
theorem dW_lowestOne_16 : decode cW_lowestOne 16 = .ok (.lconst 0, 1) := by decide +kernel
theorem dW_lowestOne_17 : decode cW_lowestOne 17 = .ok (.lcmp, 1) := by decide +kernel
theorem dW_lowestOne_18 : decode cW_lowestOne 18 = .ok (.ifCond .eq 28, 3) := by decide +kernel
theorem dW_lowestOne_21 : decode cW_lowestOne 21 = .ok (.iload_n 1, 1) := by decide +kernel
theorem dW_lowestOne_22 : decode cW_lowestOne 22 = .ok (.bipush 28, 2) := by decide +kernel
theorem dW_lowestOne_24 : decode cW_lowestOne 24 = .ok (.imul, 1) := by decide +kernel
theorem dW_lowestOne_25 : decode cW_lowestOne 25 = .ok (.aload_n 0, 1) := by decide +kernel
theorem dW_lowestOne_26 : decode cW_lowestOne 26 = .ok (.getfield 11, 3) := by decide +kernel
theorem dW_lowestOne_29 : decode cW_lowestOne 29 = .ok (.iload_n 1, 1) := by decide +kernel
theorem dW_lowestOne_30 : decode cW_lowestOne 30 = .ok (.laload, 1) := by decide +kernel
theorem dW_lowestOne_31 : decode cW_lowestOne 31 = .ok (.aload_n 0, 1) := by decide +kernel
theorem dW_lowestOne_32 : decode cW_lowestOne 32 = .ok (.getfield 11, 3) := by decide +kernel
theorem dW_lowestOne_35 : decode cW_lowestOne 35 = .ok (.iload_n 1, 1) := by decide +kernel
theorem dW_lowestOne_36 : decode cW_lowestOne 36 = .ok (.laload, 1) := by decide +kernel
theorem dW_lowestOne_37 : decode cW_lowestOne 37 = .ok (.lneg, 1) := by decide +kernel
theorem dW_lowestOne_38 : decode cW_lowestOne 38 = .ok (.land, 1) := by decide +kernel
theorem dW_lowestOne_39 : decode cW_lowestOne 39 = .ok (.lconst 1, 1) := by decide +kernel
theorem dW_lowestOne_40 : decode cW_lowestOne 40 = .ok (.lsub, 1) := by decide +kernel
theorem dW_lowestOne_41 : decode cW_lowestOne 41 = .ok (.invokestatic 59, 3) := by decide +kernel
theorem dW_lowestOne_44 : decode cW_lowestOne 44 = .ok (.iadd, 1) := by decide +kernel
theorem dW_lowestOne_45 : decode cW_lowestOne 45 = .ok (.ireturn, 1) := by decide +kernel
theorem dW_lowestOne_46 : decode cW_lowestOne 46 = .ok (.iinc 1 1, 3) := by decide +kernel
theorem dW_lowestOne_49 : decode cW_lowestOne 49 = .ok (.goto (-47), 3) := by decide +kernel
theorem dW_lowestOne_52 : decode cW_lowestOne 52 = .ok (.iconst (-1), 1) := by decide +kernel
theorem dW_lowestOne_53 : decode cW_lowestOne 53 = .ok (.ireturn, 1) := by decide +kernel
abbrev cW_bitAt : ByteArray := prog_4_method_17_code
abbrev yW_bitAt : MethodName := ⟨"WholeDesk$Whole", "bitAt", "(I)I"⟩
theorem qW_bitAt : yW_bitAt.cls ≠ "java/lang/invoke/MethodHandle" ∧ yW_bitAt.cls ≠ "java/lang/invoke/VarHandle" ∧ (parseMethodDescriptor yW_bitAt.desc).map (fun d => d.parameters.length) = some 1 := by decide +kernel
theorem dW_bitAt_0 : decode cW_bitAt 0 = .ok (.aload_n 0, 1) := by decide +kernel
theorem dW_bitAt_1 : decode cW_bitAt 1 = .ok (.iload_n 1, 1) := by decide +kernel
theorem dW_bitAt_2 : decode cW_bitAt 2 = .ok (.bipush 28, 2) := by decide +kernel
theorem dW_bitAt_4 : decode cW_bitAt 4 = .ok (.idiv, 1) := by decide +kernel
theorem dW_bitAt_5 : decode cW_bitAt 5 = .ok (.invokevirtual 47, 3) := by decide +kernel
theorem dW_bitAt_8 : decode cW_bitAt 8 = .ok (.iload_n 1, 1) := by decide +kernel
theorem dW_bitAt_9 : decode cW_bitAt 9 = .ok (.bipush 28, 2) := by decide +kernel
theorem dW_bitAt_11 : decode cW_bitAt 11 = .ok (.irem, 1) := by decide +kernel
theorem dW_bitAt_12 : decode cW_bitAt 12 = .ok (.lushr, 1) := by decide +kernel
theorem dW_bitAt_13 : decode cW_bitAt 13 = .ok (.l2i, 1) := by decide +kernel
theorem dW_bitAt_14 : decode cW_bitAt 14 = .ok (.iconst 1, 1) := by decide +kernel
theorem dW_bitAt_15 : decode cW_bitAt 15 = .ok (.iand, 1) := by decide +kernel
theorem dW_bitAt_16 : decode cW_bitAt 16 = .ok (.istore_n 2, 1) := by decide +kernel
theorem dW_bitAt_17 : decode cW_bitAt 17 = .ok (.aload_n 0, 1) := by decide +kernel
theorem dW_bitAt_18 : decode cW_bitAt 18 = .ok (.getfield 21, 3) := by decide +kernel
theorem dW_bitAt_21 : decode cW_bitAt 21 = .ok (.ifCond .eq 17, 3) := by decide +kernel
theorem dW_bitAt_24 : decode cW_bitAt 24 = .ok (.iload_n 1, 1) := by decide +kernel
theorem dW_bitAt_25 : decode cW_bitAt 25 = .ok (.aload_n 0, 1) := by decide +kernel
theorem dW_bitAt_26 : decode cW_bitAt 26 = .ok (.invokevirtual 64, 3) := by decide +kernel
theorem dW_bitAt_29 : decode cW_bitAt 29 = .ok (.if_icmp .le 9, 3) := by decide +kernel
theorem dW_bitAt_32 : decode cW_bitAt 32 = .ok (.iconst 1, 1) := by decide +kernel
theorem dW_bitAt_33 : decode cW_bitAt 33 = .ok (.iload_n 2, 1) := by decide +kernel
theorem dW_bitAt_34 : decode cW_bitAt 34 = .ok (.isub, 1) := by decide +kernel
theorem dW_bitAt_35 : decode cW_bitAt 35 = .ok (.goto 4, 3) := by decide +kernel
theorem dW_bitAt_38 : decode cW_bitAt 38 = .ok (.iload_n 2, 1) := by decide +kernel
theorem dW_bitAt_39 : decode cW_bitAt 39 = .ok (.ireturn, 1) := by decide +kernel
abbrev cW_length : ByteArray := prog_4_method_18_code
abbrev yW_length : MethodName := ⟨"WholeDesk$Whole", "length", "()I"⟩
theorem qW_length : yW_length.cls ≠ "java/lang/invoke/MethodHandle" ∧ yW_length.cls ≠ "java/lang/invoke/VarHandle" ∧ (parseMethodDescriptor yW_length.desc).map (fun d => d.parameters.length) = some 0 := by decide +kernel
theorem dW_length_0 : decode cW_length 0 = .ok (.aload_n 0, 1) := by decide +kernel
theorem dW_length_1 : decode cW_length 1 = .ok (.invokevirtual 68, 3) := by decide +kernel
theorem dW_length_4 : decode cW_length 4 = .ok (.istore_n 1, 1) := by decide +kernel
theorem dW_length_5 : decode cW_length 5 = .ok (.aload_n 0, 1) := by decide +kernel
theorem dW_length_6 : decode cW_length 6 = .ok (.getfield 21, 3) := by decide +kernel
theorem dW_length_9 : decode cW_length 9 = .ok (.ifCond .eq 19, 3) := by decide +kernel
theorem dW_length_12 : decode cW_length 12 = .ok (.aload_n 0, 1) := by decide +kernel
theorem dW_length_13 : decode cW_length 13 = .ok (.invokevirtual 64, 3) := by decide +kernel
theorem dW_length_16 : decode cW_length 16 = .ok (.iload_n 1, 1) := by decide +kernel
theorem dW_length_17 : decode cW_length 17 = .ok (.iconst 1, 1) := by decide +kernel
theorem dW_length_18 : decode cW_length 18 = .ok (.isub, 1) := by decide +kernel
theorem dW_length_19 : decode cW_length 19 = .ok (.if_icmp .ne 9, 3) := by decide +kernel
theorem dW_length_22 : decode cW_length 22 = .ok (.iload_n 1, 1) := by decide +kernel
theorem dW_length_23 : decode cW_length 23 = .ok (.iconst 1, 1) := by decide +kernel
theorem dW_length_24 : decode cW_length 24 = .ok (.isub, 1) := by decide +kernel
theorem dW_length_25 : decode cW_length 25 = .ok (.goto 4, 3) := by decide +kernel
theorem dW_length_28 : decode cW_length 28 = .ok (.iload_n 1, 1) := by decide +kernel
theorem dW_length_29 : decode cW_length 29 = .ok (.ireturn, 1) := by decide +kernel
abbrev cW_unlikeBits : ByteArray := prog_4_method_19_code
abbrev yW_unlikeBits : MethodName := ⟨"WholeDesk$Whole", "unlikeBits", "()I"⟩
theorem qW_unlikeBits : yW_unlikeBits.cls ≠ "java/lang/invoke/MethodHandle" ∧ yW_unlikeBits.cls ≠ "java/lang/invoke/VarHandle" ∧ (parseMethodDescriptor yW_unlikeBits.desc).map (fun d => d.parameters.length) = some 0 := by decide +kernel
theorem dW_unlikeBits_0 : decode cW_unlikeBits 0 = .ok (.iconst 0, 1) := by decide +kernel
theorem dW_unlikeBits_1 : decode cW_unlikeBits 1 = .ok (.istore_n 1, 1) := by decide +kernel
theorem dW_unlikeBits_2 : decode cW_unlikeBits 2 = .ok (.iconst 0, 1) := by decide +kernel
theorem dW_unlikeBits_3 : decode cW_unlikeBits 3 = .ok (.istore_n 2, 1) := by decide +kernel
theorem dW_unlikeBits_4 : decode cW_unlikeBits 4 = .ok (.iload_n 2, 1) := by decide +kernel
theorem dW_unlikeBits_5 : decode cW_unlikeBits 5 = .ok (.aload_n 0, 1) := by decide +kernel
theorem dW_unlikeBits_6 : decode cW_unlikeBits 6 = .ok (.getfield 17, 3) := by decide +kernel
theorem dW_unlikeBits_9 : decode cW_unlikeBits 9 = .ok (.if_icmp .ge 21, 3) := by decide +kernel
theorem dW_unlikeBits_12 : decode cW_unlikeBits 12 = .ok (.iload_n 1, 1) := by decide +kernel
theorem dW_unlikeBits_13 : decode cW_unlikeBits 13 = .ok (.aload_n 0, 1) := by decide +kernel
theorem dW_unlikeBits_14 : decode cW_unlikeBits 14 = .ok (.getfield 11, 3) := by decide +kernel
theorem dW_unlikeBits_17 : decode cW_unlikeBits 17 = .ok (.iload_n 2, 1) := by decide +kernel
theorem dW_unlikeBits_18 : decode cW_unlikeBits 18 = .ok (.laload, 1) := by decide +kernel
theorem dW_unlikeBits_19 : decode cW_unlikeBits 19 = .ok (.invokestatic 59, 3) := by decide +kernel
theorem dW_unlikeBits_22 : decode cW_unlikeBits 22 = .ok (.iadd, 1) := by decide +kernel
theorem dW_unlikeBits_23 : decode cW_unlikeBits 23 = .ok (.istore_n 1, 1) := by decide +kernel
theorem dW_unlikeBits_24 : decode cW_unlikeBits 24 = .ok (.iinc 2 1, 3) := by decide +kernel
theorem dW_unlikeBits_27 : decode cW_unlikeBits 27 = .ok (.goto (-23), 3) := by decide +kernel
theorem dW_unlikeBits_30 : decode cW_unlikeBits 30 = .ok (.aload_n 0, 1) := by decide +kernel
theorem dW_unlikeBits_31 : decode cW_unlikeBits 31 = .ok (.getfield 21, 3) := by decide +kernel
theorem dW_unlikeBits_34 : decode cW_unlikeBits 34 = .ok (.ifCond .eq 14, 3) := by decide +kernel
theorem dW_unlikeBits_37 : decode cW_unlikeBits 37 = .ok (.iload_n 1, 1) := by decide +kernel
theorem dW_unlikeBits_38 : decode cW_unlikeBits 38 = .ok (.iconst 1, 1) := by decide +kernel
theorem dW_unlikeBits_39 : decode cW_unlikeBits 39 = .ok (.isub, 1) := by decide +kernel
theorem dW_unlikeBits_40 : decode cW_unlikeBits 40 = .ok (.aload_n 0, 1) := by decide +kernel
theorem dW_unlikeBits_41 : decode cW_unlikeBits 41 = .ok (.invokevirtual 64, 3) := by decide +kernel
theorem dW_unlikeBits_44 : decode cW_unlikeBits 44 = .ok (.iadd, 1) := by decide +kernel
theorem dW_unlikeBits_45 : decode cW_unlikeBits 45 = .ok (.goto 4, 3) := by decide +kernel
theorem dW_unlikeBits_48 : decode cW_unlikeBits 48 = .ok (.iload_n 1, 1) := by decide +kernel
theorem dW_unlikeBits_49 : decode cW_unlikeBits 49 = .ok (.ireturn, 1) := by decide +kernel
abbrev cW_mix : ByteArray := prog_4_method_20_code
abbrev yW_mix : MethodName := ⟨"WholeDesk$Whole", "mix", "(LWholeDesk$Whole;JI)J"⟩
theorem qW_mix : yW_mix.cls ≠ "java/lang/invoke/MethodHandle" ∧ yW_mix.cls ≠ "java/lang/invoke/VarHandle" ∧ (parseMethodDescriptor yW_mix.desc).map (fun d => d.parameters.length) = some 3 := by decide +kernel
theorem dW_mix_0 : decode cW_mix 0 = .ok (.iload 4, 2) := by decide +kernel
theorem dW_mix_2 : decode cW_mix 2 = .ok (.ifCond .lt 12, 3) := by decide +kernel
theorem dW_mix_5 : decode cW_mix 5 = .ok (.iload 4, 2) := by decide +kernel
theorem dW_mix_7 : decode cW_mix 7 = .ok (.aload_n 0, 1) := by decide +kernel
theorem dW_mix_8 : decode cW_mix 8 = .ok (.getfield 17, 3) := by decide +kernel
theorem dW_mix_11 : decode cW_mix 11 = .ok (.if_icmp .le 5, 3) := by decide +kernel
theorem dW_mix_14 : decode cW_mix 14 = .ok (.lconst 0, 1) := by decide +kernel
theorem dW_mix_15 : decode cW_mix 15 = .ok (.lreturn, 1) := by decide +kernel
theorem dW_mix_16 : decode cW_mix 16 = .ok (.aload_n 0, 1) := by decide +kernel
theorem dW_mix_17 : decode cW_mix 17 = .ok (.getfield 11, 3) := by decide +kernel
theorem dW_mix_20 : decode cW_mix 20 = .ok (.astore 5, 2) := by decide +kernel
theorem dW_mix_22 : decode cW_mix 22 = .ok (.aload_n 1, 1) := by decide +kernel
theorem dW_mix_23 : decode cW_mix 23 = .ok (.getfield 11, 3) := by decide +kernel
theorem dW_mix_26 : decode cW_mix 26 = .ok (.astore 6, 2) := by decide +kernel
theorem dW_mix_28 : decode cW_mix 28 = .ok (.aload_n 1, 1) := by decide +kernel
theorem dW_mix_29 : decode cW_mix 29 = .ok (.getfield 17, 3) := by decide +kernel
theorem dW_mix_32 : decode cW_mix 32 = .ok (.aload_n 0, 1) := by decide +kernel
theorem dW_mix_33 : decode cW_mix 33 = .ok (.getfield 17, 3) := by decide +kernel
theorem dW_mix_36 : decode cW_mix 36 = .ok (.iload 4, 2) := by decide +kernel
theorem dW_mix_38 : decode cW_mix 38 = .ok (.isub, 1) := by decide +kernel
theorem dW_mix_39 : decode cW_mix 39 = .ok (.invokestatic 32, 3) := by decide +kernel
theorem dW_mix_42 : decode cW_mix 42 = .ok (.istore 7, 2) := by decide +kernel
theorem dW_mix_44 : decode cW_mix 44 = .ok (.iload 4, 2) := by decide +kernel
theorem dW_mix_46 : decode cW_mix 46 = .ok (.istore 8, 2) := by decide +kernel
theorem dW_mix_48 : decode cW_mix 48 = .ok (.lconst 0, 1) := by decide +kernel
theorem dW_mix_49 : decode cW_mix 49 = .ok (.lstore 9, 2) := by decide +kernel
theorem dW_mix_51 : decode cW_mix 51 = .ok (.iconst 0, 1) := by decide +kernel
theorem dW_mix_52 : decode cW_mix 52 = .ok (.istore 11, 2) := by decide +kernel
theorem dW_mix_54 : decode cW_mix 54 = .ok (.iload 11, 2) := by decide +kernel
theorem dW_mix_56 : decode cW_mix 56 = .ok (.iload 7, 2) := by decide +kernel
theorem dW_mix_58 : decode cW_mix 58 = .ok (.if_icmp .ge 48, 3) := by decide +kernel
theorem dW_mix_61 : decode cW_mix 61 = .ok (.aload 5, 2) := by decide +kernel
theorem dW_mix_63 : decode cW_mix 63 = .ok (.iload 8, 2) := by decide +kernel
theorem dW_mix_65 : decode cW_mix 65 = .ok (.laload, 1) := by decide +kernel
theorem dW_mix_66 : decode cW_mix 66 = .ok (.lload_n 2, 1) := by decide +kernel
theorem dW_mix_67 : decode cW_mix 67 = .ok (.aload 6, 2) := by decide +kernel
theorem dW_mix_69 : decode cW_mix 69 = .ok (.iload 11, 2) := by decide +kernel
theorem dW_mix_71 : decode cW_mix 71 = .ok (.laload, 1) := by decide +kernel
theorem dW_mix_72 : decode cW_mix 72 = .ok (.lmul, 1) := by decide +kernel
theorem dW_mix_73 : decode cW_mix 73 = .ok (.ladd, 1) := by decide +kernel
theorem dW_mix_74 : decode cW_mix 74 = .ok (.lload 9, 2) := by decide +kernel
theorem dW_mix_76 : decode cW_mix 76 = .ok (.ladd, 1) := by decide +kernel
theorem dW_mix_77 : decode cW_mix 77 = .ok (.lstore 12, 2) := by decide +kernel
theorem dW_mix_79 : decode cW_mix 79 = .ok (.aload 5, 2) := by decide +kernel
theorem dW_mix_81 : decode cW_mix 81 = .ok (.iload 8, 2) := by decide +kernel
theorem dW_mix_83 : decode cW_mix 83 = .ok (.lload 12, 2) := by decide +kernel
theorem dW_mix_85 : decode cW_mix 85 = .ok (.ldc2_w 15, 3) := by decide +kernel
theorem dW_mix_88 : decode cW_mix 88 = .ok (.land, 1) := by decide +kernel
theorem dW_mix_89 : decode cW_mix 89 = .ok (.lastore, 1) := by decide +kernel
theorem dW_mix_90 : decode cW_mix 90 = .ok (.lload 12, 2) := by decide +kernel
theorem dW_mix_92 : decode cW_mix 92 = .ok (.bipush 28, 2) := by decide +kernel
theorem dW_mix_94 : decode cW_mix 94 = .ok (.lshr, 1) := by decide +kernel
theorem dW_mix_95 : decode cW_mix 95 = .ok (.lstore 9, 2) := by decide +kernel
theorem dW_mix_97 : decode cW_mix 97 = .ok (.iinc 8 1, 3) := by decide +kernel
theorem dW_mix_100 : decode cW_mix 100 = .ok (.iinc 11 1, 3) := by decide +kernel
theorem dW_mix_103 : decode cW_mix 103 = .ok (.goto (-49), 3) := by decide +kernel
theorem dW_mix_106 : decode cW_mix 106 = .ok (.iload 8, 2) := by decide +kernel
theorem dW_mix_108 : decode cW_mix 108 = .ok (.aload_n 0, 1) := by decide +kernel
theorem dW_mix_109 : decode cW_mix 109 = .ok (.getfield 17, 3) := by decide +kernel
theorem dW_mix_112 : decode cW_mix 112 = .ok (.if_icmp .ge 44, 3) := by decide +kernel
theorem dW_mix_115 : decode cW_mix 115 = .ok (.lload 9, 2) := by decide +kernel
theorem dW_mix_117 : decode cW_mix 117 = .ok (.lconst 0, 1) := by decide +kernel
theorem dW_mix_118 : decode cW_mix 118 = .ok (.lcmp, 1) := by decide +kernel
theorem dW_mix_119 : decode cW_mix 119 = .ok (.ifCond .eq 37, 3) := by decide +kernel
theorem dW_mix_122 : decode cW_mix 122 = .ok (.aload 5, 2) := by decide +kernel
theorem dW_mix_124 : decode cW_mix 124 = .ok (.iload 8, 2) := by decide +kernel
theorem dW_mix_126 : decode cW_mix 126 = .ok (.laload, 1) := by decide +kernel
theorem dW_mix_127 : decode cW_mix 127 = .ok (.lload 9, 2) := by decide +kernel
theorem dW_mix_129 : decode cW_mix 129 = .ok (.ladd, 1) := by decide +kernel
theorem dW_mix_130 : decode cW_mix 130 = .ok (.lstore 11, 2) := by decide +kernel
theorem dW_mix_132 : decode cW_mix 132 = .ok (.aload 5, 2) := by decide +kernel
theorem dW_mix_134 : decode cW_mix 134 = .ok (.iload 8, 2) := by decide +kernel
theorem dW_mix_136 : decode cW_mix 136 = .ok (.lload 11, 2) := by decide +kernel
theorem dW_mix_138 : decode cW_mix 138 = .ok (.ldc2_w 15, 3) := by decide +kernel
theorem dW_mix_141 : decode cW_mix 141 = .ok (.land, 1) := by decide +kernel
theorem dW_mix_142 : decode cW_mix 142 = .ok (.lastore, 1) := by decide +kernel
theorem dW_mix_143 : decode cW_mix 143 = .ok (.lload 11, 2) := by decide +kernel
theorem dW_mix_145 : decode cW_mix 145 = .ok (.bipush 28, 2) := by decide +kernel
theorem dW_mix_147 : decode cW_mix 147 = .ok (.lshr, 1) := by decide +kernel
theorem dW_mix_148 : decode cW_mix 148 = .ok (.lstore 9, 2) := by decide +kernel
theorem dW_mix_150 : decode cW_mix 150 = .ok (.iinc 8 1, 3) := by decide +kernel
theorem dW_mix_153 : decode cW_mix 153 = .ok (.goto (-47), 3) := by decide +kernel
theorem dW_mix_156 : decode cW_mix 156 = .ok (.lload 9, 2) := by decide +kernel
theorem dW_mix_158 : decode cW_mix 158 = .ok (.lreturn, 1) := by decide +kernel
abbrev cW_becomeProduct : ByteArray := prog_4_method_21_code
abbrev yW_becomeProduct : MethodName := ⟨"WholeDesk$Whole", "becomeProduct", "(LWholeDesk$Whole;LWholeDesk$Whole;)V"⟩
theorem qW_becomeProduct : yW_becomeProduct.cls ≠ "java/lang/invoke/MethodHandle" ∧ yW_becomeProduct.cls ≠ "java/lang/invoke/VarHandle" ∧ (parseMethodDescriptor yW_becomeProduct.desc).map (fun d => d.parameters.length) = some 2 := by decide +kernel
theorem dW_becomeProduct_0 : decode cW_becomeProduct 0 = .ok (.aload_n 1, 1) := by decide +kernel
theorem dW_becomeProduct_1 : decode cW_becomeProduct 1 = .ok (.getfield 11, 3) := by decide +kernel
theorem dW_becomeProduct_4 : decode cW_becomeProduct 4 = .ok (.astore_n 3, 1) := by decide +kernel
theorem dW_becomeProduct_5 : decode cW_becomeProduct 5 = .ok (.aload_n 2, 1) := by decide +kernel
theorem dW_becomeProduct_6 : decode cW_becomeProduct 6 = .ok (.getfield 11, 3) := by decide +kernel
theorem dW_becomeProduct_9 : decode cW_becomeProduct 9 = .ok (.astore 4, 2) := by decide +kernel
theorem dW_becomeProduct_11 : decode cW_becomeProduct 11 = .ok (.aload_n 1, 1) := by decide +kernel
theorem dW_becomeProduct_12 : decode cW_becomeProduct 12 = .ok (.getfield 17, 3) := by decide +kernel
theorem dW_becomeProduct_15 : decode cW_becomeProduct 15 = .ok (.aload_n 2, 1) := by decide +kernel
theorem dW_becomeProduct_16 : decode cW_becomeProduct 16 = .ok (.getfield 17, 3) := by decide +kernel
theorem dW_becomeProduct_19 : decode cW_becomeProduct 19 = .ok (.iadd, 1) := by decide +kernel
theorem dW_becomeProduct_20 : decode cW_becomeProduct 20 = .ok (.sipush 152, 3) := by decide +kernel
theorem dW_becomeProduct_23 : decode cW_becomeProduct 23 = .ok (.invokestatic 32, 3) := by decide +kernel
theorem dW_becomeProduct_26 : decode cW_becomeProduct 26 = .ok (.istore 5, 2) := by decide +kernel
theorem dW_becomeProduct_28 : decode cW_becomeProduct 28 = .ok (.lconst 0, 1) := by decide +kernel
theorem dW_becomeProduct_29 : decode cW_becomeProduct 29 = .ok (.lstore 6, 2) := by decide +kernel
theorem dW_becomeProduct_31 : decode cW_becomeProduct 31 = .ok (.iconst 0, 1) := by decide +kernel
theorem dW_becomeProduct_32 : decode cW_becomeProduct 32 = .ok (.istore 8, 2) := by decide +kernel
theorem dW_becomeProduct_34 : decode cW_becomeProduct 34 = .ok (.iload 8, 2) := by decide +kernel
theorem dW_becomeProduct_36 : decode cW_becomeProduct 36 = .ok (.iload 5, 2) := by decide +kernel
theorem dW_becomeProduct_38 : decode cW_becomeProduct 38 = .ok (.if_icmp .ge 92, 3) := by decide +kernel
theorem dW_becomeProduct_41 : decode cW_becomeProduct 41 = .ok (.iload 8, 2) := by decide +kernel
theorem dW_becomeProduct_43 : decode cW_becomeProduct 43 = .ok (.iconst 1, 1) := by decide +kernel
theorem dW_becomeProduct_44 : decode cW_becomeProduct 44 = .ok (.iadd, 1) := by decide +kernel
theorem dW_becomeProduct_45 : decode cW_becomeProduct 45 = .ok (.aload_n 1, 1) := by decide +kernel
theorem dW_becomeProduct_46 : decode cW_becomeProduct 46 = .ok (.getfield 17, 3) := by decide +kernel
theorem dW_becomeProduct_49 : decode cW_becomeProduct 49 = .ok (.invokestatic 32, 3) := by decide +kernel
theorem dW_becomeProduct_52 : decode cW_becomeProduct 52 = .ok (.istore 9, 2) := by decide +kernel
theorem dW_becomeProduct_54 : decode cW_becomeProduct 54 = .ok (.lload 6, 2) := by decide +kernel
theorem dW_becomeProduct_56 : decode cW_becomeProduct 56 = .ok (.lstore 10, 2) := by decide +kernel
theorem dW_becomeProduct_58 : decode cW_becomeProduct 58 = .ok (.iconst 0, 1) := by decide +kernel
theorem dW_becomeProduct_59 : decode cW_becomeProduct 59 = .ok (.iload 8, 2) := by decide +kernel
theorem dW_becomeProduct_61 : decode cW_becomeProduct 61 = .ok (.aload_n 2, 1) := by decide +kernel
theorem dW_becomeProduct_62 : decode cW_becomeProduct 62 = .ok (.getfield 17, 3) := by decide +kernel
theorem dW_becomeProduct_65 : decode cW_becomeProduct 65 = .ok (.isub, 1) := by decide +kernel
theorem dW_becomeProduct_66 : decode cW_becomeProduct 66 = .ok (.iconst 1, 1) := by decide +kernel
theorem dW_becomeProduct_67 : decode cW_becomeProduct 67 = .ok (.iadd, 1) := by decide +kernel
theorem dW_becomeProduct_68 : decode cW_becomeProduct 68 = .ok (.invokestatic 44, 3) := by decide +kernel
theorem dW_becomeProduct_71 : decode cW_becomeProduct 71 = .ok (.istore 12, 2) := by decide +kernel
theorem dW_becomeProduct_73 : decode cW_becomeProduct 73 = .ok (.iload 12, 2) := by decide +kernel
theorem dW_becomeProduct_75 : decode cW_becomeProduct 75 = .ok (.iload 9, 2) := by decide +kernel
theorem dW_becomeProduct_77 : decode cW_becomeProduct 77 = .ok (.if_icmp .ge 27, 3) := by decide +kernel
theorem dW_becomeProduct_80 : decode cW_becomeProduct 80 = .ok (.lload 10, 2) := by decide +kernel
theorem dW_becomeProduct_82 : decode cW_becomeProduct 82 = .ok (.aload_n 3, 1) := by decide +kernel
theorem dW_becomeProduct_83 : decode cW_becomeProduct 83 = .ok (.iload 12, 2) := by decide +kernel
theorem dW_becomeProduct_85 : decode cW_becomeProduct 85 = .ok (.laload, 1) := by decide +kernel
theorem dW_becomeProduct_86 : decode cW_becomeProduct 86 = .ok (.aload 4, 2) := by decide +kernel
theorem dW_becomeProduct_88 : decode cW_becomeProduct 88 = .ok (.iload 8, 2) := by decide +kernel
theorem dW_becomeProduct_90 : decode cW_becomeProduct 90 = .ok (.iload 12, 2) := by decide +kernel
theorem dW_becomeProduct_92 : decode cW_becomeProduct 92 = .ok (.isub, 1) := by decide +kernel
theorem dW_becomeProduct_93 : decode cW_becomeProduct 93 = .ok (.laload, 1) := by decide +kernel
theorem dW_becomeProduct_94 : decode cW_becomeProduct 94 = .ok (.lmul, 1) := by decide +kernel
theorem dW_becomeProduct_95 : decode cW_becomeProduct 95 = .ok (.ladd, 1) := by decide +kernel
theorem dW_becomeProduct_96 : decode cW_becomeProduct 96 = .ok (.lstore 10, 2) := by decide +kernel
theorem dW_becomeProduct_98 : decode cW_becomeProduct 98 = .ok (.iinc 12 1, 3) := by decide +kernel
theorem dW_becomeProduct_101 : decode cW_becomeProduct 101 = .ok (.goto (-28), 3) := by decide +kernel
theorem dW_becomeProduct_104 : decode cW_becomeProduct 104 = .ok (.aload_n 0, 1) := by decide +kernel
theorem dW_becomeProduct_105 : decode cW_becomeProduct 105 = .ok (.getfield 11, 3) := by decide +kernel
theorem dW_becomeProduct_108 : decode cW_becomeProduct 108 = .ok (.iload 8, 2) := by decide +kernel
theorem dW_becomeProduct_110 : decode cW_becomeProduct 110 = .ok (.lload 10, 2) := by decide +kernel
theorem dW_becomeProduct_112 : decode cW_becomeProduct 112 = .ok (.ldc2_w 15, 3) := by decide +kernel
theorem dW_becomeProduct_115 : decode cW_becomeProduct 115 = .ok (.land, 1) := by decide +kernel
theorem dW_becomeProduct_116 : decode cW_becomeProduct 116 = .ok (.lastore, 1) := by decide +kernel
theorem dW_becomeProduct_117 : decode cW_becomeProduct 117 = .ok (.lload 10, 2) := by decide +kernel
theorem dW_becomeProduct_119 : decode cW_becomeProduct 119 = .ok (.bipush 28, 2) := by decide +kernel
theorem dW_becomeProduct_121 : decode cW_becomeProduct 121 = .ok (.lushr, 1) := by decide +kernel
theorem dW_becomeProduct_122 : decode cW_becomeProduct 122 = .ok (.lstore 6, 2) := by decide +kernel
theorem dW_becomeProduct_124 : decode cW_becomeProduct 124 = .ok (.iinc 8 1, 3) := by decide +kernel
theorem dW_becomeProduct_127 : decode cW_becomeProduct 127 = .ok (.goto (-93), 3) := by decide +kernel
theorem dW_becomeProduct_130 : decode cW_becomeProduct 130 = .ok (.aload_n 0, 1) := by decide +kernel
theorem dW_becomeProduct_131 : decode cW_becomeProduct 131 = .ok (.iload 5, 2) := by decide +kernel
theorem dW_becomeProduct_133 : decode cW_becomeProduct 133 = .ok (.putfield 17, 3) := by decide +kernel
theorem dW_becomeProduct_136 : decode cW_becomeProduct 136 = .ok (.aload_n 0, 1) := by decide +kernel
theorem dW_becomeProduct_137 : decode cW_becomeProduct 137 = .ok (.aload_n 1, 1) := by decide +kernel
theorem dW_becomeProduct_138 : decode cW_becomeProduct 138 = .ok (.getfield 21, 3) := by decide +kernel
theorem dW_becomeProduct_141 : decode cW_becomeProduct 141 = .ok (.aload_n 2, 1) := by decide +kernel
theorem dW_becomeProduct_142 : decode cW_becomeProduct 142 = .ok (.getfield 21, 3) := by decide +kernel
theorem dW_becomeProduct_145 : decode cW_becomeProduct 145 = .ok (.if_icmp .eq 7, 3) := by decide +kernel
theorem dW_becomeProduct_148 : decode cW_becomeProduct 148 = .ok (.iconst 1, 1) := by decide +kernel
theorem dW_becomeProduct_149 : decode cW_becomeProduct 149 = .ok (.goto 4, 3) := by decide +kernel
theorem dW_becomeProduct_152 : decode cW_becomeProduct 152 = .ok (.iconst 0, 1) := by decide +kernel
theorem dW_becomeProduct_153 : decode cW_becomeProduct 153 = .ok (.putfield 21, 3) := by decide +kernel
theorem dW_becomeProduct_156 : decode cW_becomeProduct 156 = .ok (.aload_n 0, 1) := by decide +kernel
theorem dW_becomeProduct_157 : decode cW_becomeProduct 157 = .ok (.invokevirtual 25, 3) := by decide +kernel
theorem dW_becomeProduct_160 : decode cW_becomeProduct 160 = .ok (.return_, 1) := by decide +kernel
abbrev cW_gather : ByteArray := prog_4_method_22_code
abbrev yW_gather : MethodName := ⟨"WholeDesk$Whole", "gather", "(LWholeDesk$Whole;LWholeDesk$Whole;)V"⟩
theorem qW_gather : yW_gather.cls ≠ "java/lang/invoke/MethodHandle" ∧ yW_gather.cls ≠ "java/lang/invoke/VarHandle" ∧ (parseMethodDescriptor yW_gather.desc).map (fun d => d.parameters.length) = some 2 := by decide +kernel
theorem dW_gather_0 : decode cW_gather 0 = .ok (.aload_n 0, 1) := by decide +kernel
theorem dW_gather_1 : decode cW_gather 1 = .ok (.aload_n 0, 1) := by decide +kernel
theorem dW_gather_2 : decode cW_gather 2 = .ok (.getfield 17, 3) := by decide +kernel
theorem dW_gather_5 : decode cW_gather 5 = .ok (.aload_n 1, 1) := by decide +kernel
theorem dW_gather_6 : decode cW_gather 6 = .ok (.getfield 17, 3) := by decide +kernel
theorem dW_gather_9 : decode cW_gather 9 = .ok (.aload_n 2, 1) := by decide +kernel
theorem dW_gather_10 : decode cW_gather 10 = .ok (.getfield 17, 3) := by decide +kernel
theorem dW_gather_13 : decode cW_gather 13 = .ok (.iadd, 1) := by decide +kernel
theorem dW_gather_14 : decode cW_gather 14 = .ok (.invokestatic 44, 3) := by decide +kernel
theorem dW_gather_17 : decode cW_gather 17 = .ok (.iconst 1, 1) := by decide +kernel
theorem dW_gather_18 : decode cW_gather 18 = .ok (.iadd, 1) := by decide +kernel
theorem dW_gather_19 : decode cW_gather 19 = .ok (.invokevirtual 28, 3) := by decide +kernel
theorem dW_gather_22 : decode cW_gather 22 = .ok (.iconst 0, 1) := by decide +kernel
theorem dW_gather_23 : decode cW_gather 23 = .ok (.istore_n 3, 1) := by decide +kernel
theorem dW_gather_24 : decode cW_gather 24 = .ok (.iload_n 3, 1) := by decide +kernel
theorem dW_gather_25 : decode cW_gather 25 = .ok (.aload_n 1, 1) := by decide +kernel
theorem dW_gather_26 : decode cW_gather 26 = .ok (.getfield 17, 3) := by decide +kernel
theorem dW_gather_29 : decode cW_gather 29 = .ok (.if_icmp .ge 22, 3) := by decide +kernel
theorem dW_gather_32 : decode cW_gather 32 = .ok (.aload_n 0, 1) := by decide +kernel
theorem dW_gather_33 : decode cW_gather 33 = .ok (.aload_n 2, 1) := by decide +kernel
theorem dW_gather_34 : decode cW_gather 34 = .ok (.aload_n 1, 1) := by decide +kernel
theorem dW_gather_35 : decode cW_gather 35 = .ok (.getfield 11, 3) := by decide +kernel
theorem dW_gather_38 : decode cW_gather 38 = .ok (.iload_n 3, 1) := by decide +kernel
theorem dW_gather_39 : decode cW_gather 39 = .ok (.laload, 1) := by decide +kernel
theorem dW_gather_40 : decode cW_gather 40 = .ok (.iload_n 3, 1) := by decide +kernel
theorem dW_gather_41 : decode cW_gather 41 = .ok (.invokevirtual 71, 3) := by decide +kernel
theorem dW_gather_44 : decode cW_gather 44 = .ok (.pop2, 1) := by decide +kernel
theorem dW_gather_45 : decode cW_gather 45 = .ok (.iinc 3 1, 3) := by decide +kernel
theorem dW_gather_48 : decode cW_gather 48 = .ok (.goto (-24), 3) := by decide +kernel
theorem dW_gather_51 : decode cW_gather 51 = .ok (.aload_n 0, 1) := by decide +kernel
theorem dW_gather_52 : decode cW_gather 52 = .ok (.invokevirtual 25, 3) := by decide +kernel
theorem dW_gather_55 : decode cW_gather 55 = .ok (.return_, 1) := by decide +kernel
abbrev cW_becomeLackTo : ByteArray := prog_4_method_23_code
abbrev yW_becomeLackTo : MethodName := ⟨"WholeDesk$Whole", "becomeLackTo", "(LWholeDesk$Whole;)V"⟩
theorem qW_becomeLackTo : yW_becomeLackTo.cls ≠ "java/lang/invoke/MethodHandle" ∧ yW_becomeLackTo.cls ≠ "java/lang/invoke/VarHandle" ∧ (parseMethodDescriptor yW_becomeLackTo.desc).map (fun d => d.parameters.length) = some 1 := by decide +kernel
theorem dW_becomeLackTo_0 : decode cW_becomeLackTo 0 = .ok (.aload_n 0, 1) := by decide +kernel
theorem dW_becomeLackTo_1 : decode cW_becomeLackTo 1 = .ok (.aload_n 1, 1) := by decide +kernel
theorem dW_becomeLackTo_2 : decode cW_becomeLackTo 2 = .ok (.getfield 17, 3) := by decide +kernel
theorem dW_becomeLackTo_5 : decode cW_becomeLackTo 5 = .ok (.invokevirtual 28, 3) := by decide +kernel
theorem dW_becomeLackTo_8 : decode cW_becomeLackTo 8 = .ok (.lconst 0, 1) := by decide +kernel
theorem dW_becomeLackTo_9 : decode cW_becomeLackTo 9 = .ok (.lstore_n 2, 1) := by decide +kernel
theorem dW_becomeLackTo_10 : decode cW_becomeLackTo 10 = .ok (.iconst 0, 1) := by decide +kernel
theorem dW_becomeLackTo_11 : decode cW_becomeLackTo 11 = .ok (.istore 4, 2) := by decide +kernel
theorem dW_becomeLackTo_13 : decode cW_becomeLackTo 13 = .ok (.iload 4, 2) := by decide +kernel
theorem dW_becomeLackTo_15 : decode cW_becomeLackTo 15 = .ok (.aload_n 0, 1) := by decide +kernel
theorem dW_becomeLackTo_16 : decode cW_becomeLackTo 16 = .ok (.getfield 17, 3) := by decide +kernel
theorem dW_becomeLackTo_19 : decode cW_becomeLackTo 19 = .ok (.if_icmp .ge 46, 3) := by decide +kernel
theorem dW_becomeLackTo_22 : decode cW_becomeLackTo 22 = .ok (.aload_n 1, 1) := by decide +kernel
theorem dW_becomeLackTo_23 : decode cW_becomeLackTo 23 = .ok (.iload 4, 2) := by decide +kernel
theorem dW_becomeLackTo_25 : decode cW_becomeLackTo 25 = .ok (.invokevirtual 47, 3) := by decide +kernel
theorem dW_becomeLackTo_28 : decode cW_becomeLackTo 28 = .ok (.aload_n 0, 1) := by decide +kernel
theorem dW_becomeLackTo_29 : decode cW_becomeLackTo 29 = .ok (.getfield 11, 3) := by decide +kernel
theorem dW_becomeLackTo_32 : decode cW_becomeLackTo 32 = .ok (.iload 4, 2) := by decide +kernel
theorem dW_becomeLackTo_34 : decode cW_becomeLackTo 34 = .ok (.laload, 1) := by decide +kernel
theorem dW_becomeLackTo_35 : decode cW_becomeLackTo 35 = .ok (.lsub, 1) := by decide +kernel
theorem dW_becomeLackTo_36 : decode cW_becomeLackTo 36 = .ok (.lload_n 2, 1) := by decide +kernel
theorem dW_becomeLackTo_37 : decode cW_becomeLackTo 37 = .ok (.ladd, 1) := by decide +kernel
theorem dW_becomeLackTo_38 : decode cW_becomeLackTo 38 = .ok (.lstore 5, 2) := by decide +kernel
theorem dW_becomeLackTo_40 : decode cW_becomeLackTo 40 = .ok (.aload_n 0, 1) := by decide +kernel
theorem dW_becomeLackTo_41 : decode cW_becomeLackTo 41 = .ok (.getfield 11, 3) := by decide +kernel
theorem dW_becomeLackTo_44 : decode cW_becomeLackTo 44 = .ok (.iload 4, 2) := by decide +kernel
theorem dW_becomeLackTo_46 : decode cW_becomeLackTo 46 = .ok (.lload 5, 2) := by decide +kernel
theorem dW_becomeLackTo_48 : decode cW_becomeLackTo 48 = .ok (.ldc2_w 15, 3) := by decide +kernel
theorem dW_becomeLackTo_51 : decode cW_becomeLackTo 51 = .ok (.land, 1) := by decide +kernel
theorem dW_becomeLackTo_52 : decode cW_becomeLackTo 52 = .ok (.lastore, 1) := by decide +kernel
theorem dW_becomeLackTo_53 : decode cW_becomeLackTo 53 = .ok (.lload 5, 2) := by decide +kernel
theorem dW_becomeLackTo_55 : decode cW_becomeLackTo 55 = .ok (.bipush 28, 2) := by decide +kernel
theorem dW_becomeLackTo_57 : decode cW_becomeLackTo 57 = .ok (.lshr, 1) := by decide +kernel
theorem dW_becomeLackTo_58 : decode cW_becomeLackTo 58 = .ok (.lstore_n 2, 1) := by decide +kernel
theorem dW_becomeLackTo_59 : decode cW_becomeLackTo 59 = .ok (.iinc 4 1, 3) := by decide +kernel
theorem dW_becomeLackTo_62 : decode cW_becomeLackTo 62 = .ok (.goto (-49), 3) := by decide +kernel
theorem dW_becomeLackTo_65 : decode cW_becomeLackTo 65 = .ok (.aload_n 0, 1) := by decide +kernel
theorem dW_becomeLackTo_66 : decode cW_becomeLackTo 66 = .ok (.iconst 0, 1) := by decide +kernel
theorem dW_becomeLackTo_67 : decode cW_becomeLackTo 67 = .ok (.putfield 21, 3) := by decide +kernel
theorem dW_becomeLackTo_70 : decode cW_becomeLackTo 70 = .ok (.aload_n 0, 1) := by decide +kernel
theorem dW_becomeLackTo_71 : decode cW_becomeLackTo 71 = .ok (.invokevirtual 25, 3) := by decide +kernel
theorem dW_becomeLackTo_74 : decode cW_becomeLackTo 74 = .ok (.return_, 1) := by decide +kernel
abbrev cW_divideOut : ByteArray := prog_4_method_24_code
abbrev yW_divideOut : MethodName := ⟨"WholeDesk$Whole", "divideOut", "(LWholeDesk$Whole;LWholeDesk$Whole;)V"⟩
theorem qW_divideOut : yW_divideOut.cls ≠ "java/lang/invoke/MethodHandle" ∧ yW_divideOut.cls ≠ "java/lang/invoke/VarHandle" ∧ (parseMethodDescriptor yW_divideOut.desc).map (fun d => d.parameters.length) = some 2 := by decide +kernel
theorem dW_divideOut_0 : decode cW_divideOut 0 = .ok (.aload_n 2, 1) := by decide +kernel
theorem dW_divideOut_1 : decode cW_divideOut 1 = .ok (.iconst 0, 1) := by decide +kernel
theorem dW_divideOut_2 : decode cW_divideOut 2 = .ok (.putfield 17, 3) := by decide +kernel
theorem dW_divideOut_5 : decode cW_divideOut 5 = .ok (.aload_n 2, 1) := by decide +kernel
theorem dW_divideOut_6 : decode cW_divideOut 6 = .ok (.iconst 0, 1) := by decide +kernel
theorem dW_divideOut_7 : decode cW_divideOut 7 = .ok (.putfield 21, 3) := by decide +kernel
theorem dW_divideOut_10 : decode cW_divideOut 10 = .ok (.aload_n 0, 1) := by decide +kernel
theorem dW_divideOut_11 : decode cW_divideOut 11 = .ok (.getfield 17, 3) := by decide +kernel
theorem dW_divideOut_14 : decode cW_divideOut 14 = .ok (.aload_n 1, 1) := by decide +kernel
theorem dW_divideOut_15 : decode cW_divideOut 15 = .ok (.getfield 17, 3) := by decide +kernel
theorem dW_divideOut_18 : decode cW_divideOut 18 = .ok (.isub, 1) := by decide +kernel
theorem dW_divideOut_19 : decode cW_divideOut 19 = .ok (.iconst 1, 1) := by decide +kernel
theorem dW_divideOut_20 : decode cW_divideOut 20 = .ok (.iadd, 1) := by decide +kernel
theorem dW_divideOut_21 : decode cW_divideOut 21 = .ok (.istore_n 3, 1) := by decide +kernel
theorem dW_divideOut_22 : decode cW_divideOut 22 = .ok (.aload_n 1, 1) := by decide +kernel
theorem dW_divideOut_23 : decode cW_divideOut 23 = .ok (.getfield 17, 3) := by decide +kernel
theorem dW_divideOut_26 : decode cW_divideOut 26 = .ok (.ifCond .eq 8, 3) := by decide +kernel
theorem dW_divideOut_29 : decode cW_divideOut 29 = .ok (.iload_n 3, 1) := by decide +kernel
theorem dW_divideOut_30 : decode cW_divideOut 30 = .ok (.iconst 1, 1) := by decide +kernel
theorem dW_divideOut_31 : decode cW_divideOut 31 = .ok (.if_icmp .ge 4, 3) := by decide +kernel
theorem dW_divideOut_34 : decode cW_divideOut 34 = .ok (.return_, 1) := by decide +kernel
theorem dW_divideOut_35 : decode cW_divideOut 35 = .ok (.bipush 28, 2) := by decide +kernel
theorem dW_divideOut_37 : decode cW_divideOut 37 = .ok (.aload_n 1, 1) := by decide +kernel
theorem dW_divideOut_38 : decode cW_divideOut 38 = .ok (.aload_n 1, 1) := by decide +kernel
theorem dW_divideOut_39 : decode cW_divideOut 39 = .ok (.getfield 17, 3) := by decide +kernel
theorem dW_divideOut_42 : decode cW_divideOut 42 = .ok (.iconst 1, 1) := by decide +kernel
theorem dW_divideOut_43 : decode cW_divideOut 43 = .ok (.isub, 1) := by decide +kernel
theorem dW_divideOut_44 : decode cW_divideOut 44 = .ok (.invokevirtual 47, 3) := by decide +kernel
theorem dW_divideOut_47 : decode cW_divideOut 47 = .ok (.invokestatic 51, 3) := by decide +kernel
theorem dW_divideOut_50 : decode cW_divideOut 50 = .ok (.isub, 1) := by decide +kernel
theorem dW_divideOut_51 : decode cW_divideOut 51 = .ok (.istore 4, 2) := by decide +kernel
theorem dW_divideOut_53 : decode cW_divideOut 53 = .ok (.aload_n 1, 1) := by decide +kernel
theorem dW_divideOut_54 : decode cW_divideOut 54 = .ok (.aload_n 1, 1) := by decide +kernel
theorem dW_divideOut_55 : decode cW_divideOut 55 = .ok (.getfield 17, 3) := by decide +kernel
theorem dW_divideOut_58 : decode cW_divideOut 58 = .ok (.iconst 1, 1) := by decide +kernel
theorem dW_divideOut_59 : decode cW_divideOut 59 = .ok (.isub, 1) := by decide +kernel
theorem dW_divideOut_60 : decode cW_divideOut 60 = .ok (.iload 4, 2) := by decide +kernel
theorem dW_divideOut_62 : decode cW_divideOut 62 = .ok (.invokevirtual 75, 3) := by decide +kernel
theorem dW_divideOut_65 : decode cW_divideOut 65 = .ok (.lstore 5, 2) := by decide +kernel
theorem dW_divideOut_67 : decode cW_divideOut 67 = .ok (.aload_n 1, 1) := by decide +kernel
theorem dW_divideOut_68 : decode cW_divideOut 68 = .ok (.aload_n 1, 1) := by decide +kernel
theorem dW_divideOut_69 : decode cW_divideOut 69 = .ok (.getfield 17, 3) := by decide +kernel
theorem dW_divideOut_72 : decode cW_divideOut 72 = .ok (.iconst 2, 1) := by decide +kernel
theorem dW_divideOut_73 : decode cW_divideOut 73 = .ok (.isub, 1) := by decide +kernel
theorem dW_divideOut_74 : decode cW_divideOut 74 = .ok (.iload 4, 2) := by decide +kernel
theorem dW_divideOut_76 : decode cW_divideOut 76 = .ok (.invokevirtual 75, 3) := by decide +kernel
theorem dW_divideOut_79 : decode cW_divideOut 79 = .ok (.lstore 7, 2) := by decide +kernel
theorem dW_divideOut_81 : decode cW_divideOut 81 = .ok (.aload_n 2, 1) := by decide +kernel
theorem dW_divideOut_82 : decode cW_divideOut 82 = .ok (.iload_n 3, 1) := by decide +kernel
theorem dW_divideOut_83 : decode cW_divideOut 83 = .ok (.invokevirtual 28, 3) := by decide +kernel
theorem dW_divideOut_86 : decode cW_divideOut 86 = .ok (.aload_n 0, 1) := by decide +kernel
theorem dW_divideOut_87 : decode cW_divideOut 87 = .ok (.aload_n 0, 1) := by decide +kernel
theorem dW_divideOut_88 : decode cW_divideOut 88 = .ok (.getfield 17, 3) := by decide +kernel
theorem dW_divideOut_91 : decode cW_divideOut 91 = .ok (.iconst 1, 1) := by decide +kernel
theorem dW_divideOut_92 : decode cW_divideOut 92 = .ok (.iadd, 1) := by decide +kernel
theorem dW_divideOut_93 : decode cW_divideOut 93 = .ok (.invokevirtual 28, 3) := by decide +kernel
theorem dW_divideOut_96 : decode cW_divideOut 96 = .ok (.aload_n 2, 1) := by decide +kernel
theorem dW_divideOut_97 : decode cW_divideOut 97 = .ok (.getfield 17, 3) := by decide +kernel
theorem dW_divideOut_100 : decode cW_divideOut 100 = .ok (.iconst 1, 1) := by decide +kernel
theorem dW_divideOut_101 : decode cW_divideOut 101 = .ok (.isub, 1) := by decide +kernel
theorem dW_divideOut_102 : decode cW_divideOut 102 = .ok (.istore 9, 2) := by decide +kernel
theorem dW_divideOut_104 : decode cW_divideOut 104 = .ok (.iload 9, 2) := by decide +kernel
theorem dW_divideOut_106 : decode cW_divideOut 106 = .ok (.ifCond .lt 88, 3) := by decide +kernel
theorem dW_divideOut_109 : decode cW_divideOut 109 = .ok (.aload_n 0, 1) := by decide +kernel
theorem dW_divideOut_110 : decode cW_divideOut 110 = .ok (.iload 9, 2) := by decide +kernel
theorem dW_divideOut_112 : decode cW_divideOut 112 = .ok (.aload_n 1, 1) := by decide +kernel
theorem dW_divideOut_113 : decode cW_divideOut 113 = .ok (.getfield 17, 3) := by decide +kernel
theorem dW_divideOut_116 : decode cW_divideOut 116 = .ok (.iadd, 1) := by decide +kernel
theorem dW_divideOut_117 : decode cW_divideOut 117 = .ok (.iload 4, 2) := by decide +kernel
theorem dW_divideOut_119 : decode cW_divideOut 119 = .ok (.lload 5, 2) := by decide +kernel
theorem dW_divideOut_121 : decode cW_divideOut 121 = .ok (.lload 7, 2) := by decide +kernel
theorem dW_divideOut_123 : decode cW_divideOut 123 = .ok (.invokevirtual 79, 3) := by decide +kernel
theorem dW_divideOut_126 : decode cW_divideOut 126 = .ok (.lstore 10, 2) := by decide +kernel
theorem dW_divideOut_128 : decode cW_divideOut 128 = .ok (.lload 10, 2) := by decide +kernel
theorem dW_divideOut_130 : decode cW_divideOut 130 = .ok (.lconst 0, 1) := by decide +kernel
theorem dW_divideOut_131 : decode cW_divideOut 131 = .ok (.lcmp, 1) := by decide +kernel
theorem dW_divideOut_132 : decode cW_divideOut 132 = .ok (.ifCond .eq 33, 3) := by decide +kernel
theorem dW_divideOut_135 : decode cW_divideOut 135 = .ok (.aload_n 0, 1) := by decide +kernel
theorem dW_divideOut_136 : decode cW_divideOut 136 = .ok (.aload_n 1, 1) := by decide +kernel
theorem dW_divideOut_137 : decode cW_divideOut 137 = .ok (.lload 10, 2) := by decide +kernel
theorem dW_divideOut_139 : decode cW_divideOut 139 = .ok (.lneg, 1) := by decide +kernel
theorem dW_divideOut_140 : decode cW_divideOut 140 = .ok (.iload 9, 2) := by decide +kernel
theorem dW_divideOut_142 : decode cW_divideOut 142 = .ok (.invokevirtual 71, 3) := by decide +kernel
theorem dW_divideOut_145 : decode cW_divideOut 145 = .ok (.lconst 0, 1) := by decide +kernel
theorem dW_divideOut_146 : decode cW_divideOut 146 = .ok (.lcmp, 1) := by decide +kernel
theorem dW_divideOut_147 : decode cW_divideOut 147 = .ok (.ifCond .ge 18, 3) := by decide +kernel
theorem dW_divideOut_150 : decode cW_divideOut 150 = .ok (.aload_n 0, 1) := by decide +kernel
theorem dW_divideOut_151 : decode cW_divideOut 151 = .ok (.aload_n 1, 1) := by decide +kernel
theorem dW_divideOut_152 : decode cW_divideOut 152 = .ok (.lconst 1, 1) := by decide +kernel
theorem dW_divideOut_153 : decode cW_divideOut 153 = .ok (.iload 9, 2) := by decide +kernel
theorem dW_divideOut_155 : decode cW_divideOut 155 = .ok (.invokevirtual 71, 3) := by decide +kernel
theorem dW_divideOut_158 : decode cW_divideOut 158 = .ok (.pop2, 1) := by decide +kernel
theorem dW_divideOut_159 : decode cW_divideOut 159 = .ok (.lload 10, 2) := by decide +kernel
theorem dW_divideOut_161 : decode cW_divideOut 161 = .ok (.lconst 1, 1) := by decide +kernel
theorem dW_divideOut_162 : decode cW_divideOut 162 = .ok (.lsub, 1) := by decide +kernel
theorem dW_divideOut_163 : decode cW_divideOut 163 = .ok (.lstore 10, 2) := by decide +kernel
theorem dW_divideOut_165 : decode cW_divideOut 165 = .ok (.aload_n 2, 1) := by decide +kernel
theorem dW_divideOut_166 : decode cW_divideOut 166 = .ok (.getfield 11, 3) := by decide +kernel
theorem dW_divideOut_169 : decode cW_divideOut 169 = .ok (.iload 9, 2) := by decide +kernel
theorem dW_divideOut_171 : decode cW_divideOut 171 = .ok (.lload 10, 2) := by decide +kernel
theorem dW_divideOut_173 : decode cW_divideOut 173 = .ok (.lastore, 1) := by decide +kernel
theorem dW_divideOut_174 : decode cW_divideOut 174 = .ok (.aload_n 0, 1) := by decide +kernel
theorem dW_divideOut_175 : decode cW_divideOut 175 = .ok (.aload_n 0, 1) := by decide +kernel
theorem dW_divideOut_176 : decode cW_divideOut 176 = .ok (.getfield 17, 3) := by decide +kernel
theorem dW_divideOut_179 : decode cW_divideOut 179 = .ok (.iconst 1, 1) := by decide +kernel
theorem dW_divideOut_180 : decode cW_divideOut 180 = .ok (.isub, 1) := by decide +kernel
theorem dW_divideOut_181 : decode cW_divideOut 181 = .ok (.iconst 0, 1) := by decide +kernel
theorem dW_divideOut_182 : decode cW_divideOut 182 = .ok (.invokestatic 44, 3) := by decide +kernel
theorem dW_divideOut_185 : decode cW_divideOut 185 = .ok (.putfield 17, 3) := by decide +kernel
theorem dW_divideOut_188 : decode cW_divideOut 188 = .ok (.iinc 9 (-1), 3) := by decide +kernel
theorem dW_divideOut_191 : decode cW_divideOut 191 = .ok (.goto (-87), 3) := by decide +kernel
theorem dW_divideOut_194 : decode cW_divideOut 194 = .ok (.aload_n 2, 1) := by decide +kernel
theorem dW_divideOut_195 : decode cW_divideOut 195 = .ok (.invokevirtual 25, 3) := by decide +kernel
theorem dW_divideOut_198 : decode cW_divideOut 198 = .ok (.aload_n 0, 1) := by decide +kernel
theorem dW_divideOut_199 : decode cW_divideOut 199 = .ok (.invokevirtual 25, 3) := by decide +kernel
theorem dW_divideOut_202 : decode cW_divideOut 202 = .ok (.return_, 1) := by decide +kernel
abbrev cW_guess : ByteArray := prog_4_method_25_code
abbrev yW_guess : MethodName := ⟨"WholeDesk$Whole", "guess", "(IIJJ)J"⟩
theorem qW_guess : yW_guess.cls ≠ "java/lang/invoke/MethodHandle" ∧ yW_guess.cls ≠ "java/lang/invoke/VarHandle" ∧ (parseMethodDescriptor yW_guess.desc).map (fun d => d.parameters.length) = some 4 := by decide +kernel
theorem dW_guess_0 : decode cW_guess 0 = .ok (.lload_n 3, 1) := by decide +kernel
theorem dW_guess_1 : decode cW_guess 1 = .ok (.lconst 0, 1) := by decide +kernel
theorem dW_guess_2 : decode cW_guess 2 = .ok (.lcmp, 1) := by decide +kernel
theorem dW_guess_3 : decode cW_guess 3 = .ok (.ifCond .gt 5, 3) := by decide +kernel
theorem dW_guess_6 : decode cW_guess 6 = .ok (.lconst 0, 1) := by decide +kernel
theorem dW_guess_7 : decode cW_guess 7 = .ok (.lreturn, 1) := by decide +kernel
theorem dW_guess_8 : decode cW_guess 8 = .ok (.aload_n 0, 1) := by decide +kernel
theorem dW_guess_9 : decode cW_guess 9 = .ok (.iload_n 1, 1) := by decide +kernel
theorem dW_guess_10 : decode cW_guess 10 = .ok (.iload_n 2, 1) := by decide +kernel
theorem dW_guess_11 : decode cW_guess 11 = .ok (.invokevirtual 75, 3) := by decide +kernel
theorem dW_guess_14 : decode cW_guess 14 = .ok (.bipush 28, 2) := by decide +kernel
theorem dW_guess_16 : decode cW_guess 16 = .ok (.lshl, 1) := by decide +kernel
theorem dW_guess_17 : decode cW_guess 17 = .ok (.aload_n 0, 1) := by decide +kernel
theorem dW_guess_18 : decode cW_guess 18 = .ok (.iload_n 1, 1) := by decide +kernel
theorem dW_guess_19 : decode cW_guess 19 = .ok (.iconst 1, 1) := by decide +kernel
theorem dW_guess_20 : decode cW_guess 20 = .ok (.isub, 1) := by decide +kernel
theorem dW_guess_21 : decode cW_guess 21 = .ok (.iload_n 2, 1) := by decide +kernel
theorem dW_guess_22 : decode cW_guess 22 = .ok (.invokevirtual 75, 3) := by decide +kernel
theorem dW_guess_25 : decode cW_guess 25 = .ok (.lor, 1) := by decide +kernel
theorem dW_guess_26 : decode cW_guess 26 = .ok (.lstore 7, 2) := by decide +kernel
theorem dW_guess_28 : decode cW_guess 28 = .ok (.aload_n 0, 1) := by decide +kernel
theorem dW_guess_29 : decode cW_guess 29 = .ok (.iload_n 1, 1) := by decide +kernel
theorem dW_guess_30 : decode cW_guess 30 = .ok (.iconst 2, 1) := by decide +kernel
theorem dW_guess_31 : decode cW_guess 31 = .ok (.isub, 1) := by decide +kernel
theorem dW_guess_32 : decode cW_guess 32 = .ok (.iload_n 2, 1) := by decide +kernel
theorem dW_guess_33 : decode cW_guess 33 = .ok (.invokevirtual 75, 3) := by decide +kernel
theorem dW_guess_36 : decode cW_guess 36 = .ok (.lstore 9, 2) := by decide +kernel
theorem dW_guess_38 : decode cW_guess 38 = .ok (.lload 7, 2) := by decide +kernel
theorem dW_guess_40 : decode cW_guess 40 = .ok (.lload_n 3, 1) := by decide +kernel
theorem dW_guess_41 : decode cW_guess 41 = .ok (.ldiv, 1) := by decide +kernel
theorem dW_guess_42 : decode cW_guess 42 = .ok (.lstore 11, 2) := by decide +kernel
theorem dW_guess_44 : decode cW_guess 44 = .ok (.lload 7, 2) := by decide +kernel
theorem dW_guess_46 : decode cW_guess 46 = .ok (.lload 11, 2) := by decide +kernel
theorem dW_guess_48 : decode cW_guess 48 = .ok (.lload_n 3, 1) := by decide +kernel
theorem dW_guess_49 : decode cW_guess 49 = .ok (.lmul, 1) := by decide +kernel
theorem dW_guess_50 : decode cW_guess 50 = .ok (.lsub, 1) := by decide +kernel
theorem dW_guess_51 : decode cW_guess 51 = .ok (.lstore 13, 2) := by decide +kernel
theorem dW_guess_53 : decode cW_guess 53 = .ok (.iconst 0, 1) := by decide +kernel
theorem dW_guess_54 : decode cW_guess 54 = .ok (.istore 15, 2) := by decide +kernel
theorem dW_guess_56 : decode cW_guess 56 = .ok (.iload 15, 2) := by decide +kernel
theorem dW_guess_58 : decode cW_guess 58 = .ok (.iconst 2, 1) := by decide +kernel
theorem dW_guess_59 : decode cW_guess 59 = .ok (.if_icmp .ge 59, 3) := by decide +kernel
theorem dW_guess_62 : decode cW_guess 62 = .ok (.lload 13, 2) := by decide +kernel
theorem dW_guess_64 : decode cW_guess 64 = .ok (.ldc2_w 15, 3) := by decide +kernel
theorem dW_guess_67 : decode cW_guess 67 = .ok (.lcmp, 1) := by decide +kernel
theorem dW_guess_68 : decode cW_guess 68 = .ok (.ifCond .gt 50, 3) := by decide +kernel
theorem dW_guess_71 : decode cW_guess 71 = .ok (.lload 11, 2) := by decide +kernel
theorem dW_guess_73 : decode cW_guess 73 = .ok (.ldc2_w 15, 3) := by decide +kernel
theorem dW_guess_76 : decode cW_guess 76 = .ok (.lcmp, 1) := by decide +kernel
theorem dW_guess_77 : decode cW_guess 77 = .ok (.ifCond .gt 23, 3) := by decide +kernel
theorem dW_guess_80 : decode cW_guess 80 = .ok (.lload 11, 2) := by decide +kernel
theorem dW_guess_82 : decode cW_guess 82 = .ok (.lload 5, 2) := by decide +kernel
theorem dW_guess_84 : decode cW_guess 84 = .ok (.lmul, 1) := by decide +kernel
theorem dW_guess_85 : decode cW_guess 85 = .ok (.lload 13, 2) := by decide +kernel
theorem dW_guess_87 : decode cW_guess 87 = .ok (.bipush 28, 2) := by decide +kernel
theorem dW_guess_89 : decode cW_guess 89 = .ok (.lshl, 1) := by decide +kernel
theorem dW_guess_90 : decode cW_guess 90 = .ok (.lload 9, 2) := by decide +kernel
theorem dW_guess_92 : decode cW_guess 92 = .ok (.lor, 1) := by decide +kernel
theorem dW_guess_93 : decode cW_guess 93 = .ok (.lcmp, 1) := by decide +kernel
theorem dW_guess_94 : decode cW_guess 94 = .ok (.ifCond .gt 6, 3) := by decide +kernel
theorem dW_guess_97 : decode cW_guess 97 = .ok (.goto 21, 3) := by decide +kernel
theorem dW_guess_100 : decode cW_guess 100 = .ok (.lload 11, 2) := by decide +kernel
theorem dW_guess_102 : decode cW_guess 102 = .ok (.lconst 1, 1) := by decide +kernel
theorem dW_guess_103 : decode cW_guess 103 = .ok (.lsub, 1) := by decide +kernel
theorem dW_guess_104 : decode cW_guess 104 = .ok (.lstore 11, 2) := by decide +kernel
theorem dW_guess_106 : decode cW_guess 106 = .ok (.lload 13, 2) := by decide +kernel
theorem dW_guess_108 : decode cW_guess 108 = .ok (.lload_n 3, 1) := by decide +kernel
theorem dW_guess_109 : decode cW_guess 109 = .ok (.ladd, 1) := by decide +kernel
theorem dW_guess_110 : decode cW_guess 110 = .ok (.lstore 13, 2) := by decide +kernel
theorem dW_guess_112 : decode cW_guess 112 = .ok (.iinc 15 1, 3) := by decide +kernel
theorem dW_guess_115 : decode cW_guess 115 = .ok (.goto (-59), 3) := by decide +kernel
theorem dW_guess_118 : decode cW_guess 118 = .ok (.lload 11, 2) := by decide +kernel
theorem dW_guess_120 : decode cW_guess 120 = .ok (.lreturn, 1) := by decide +kernel
abbrev cW_scale : ByteArray := prog_4_method_26_code
abbrev yW_scale : MethodName := ⟨"WholeDesk$Whole", "scale", "(JJ)V"⟩
theorem qW_scale : yW_scale.cls ≠ "java/lang/invoke/MethodHandle" ∧ yW_scale.cls ≠ "java/lang/invoke/VarHandle" ∧ (parseMethodDescriptor yW_scale.desc).map (fun d => d.parameters.length) = some 2 := by decide +kernel
theorem dW_scale_0 : decode cW_scale 0 = .ok (.aload_n 0, 1) := by decide +kernel
theorem dW_scale_1 : decode cW_scale 1 = .ok (.aload_n 0, 1) := by decide +kernel
theorem dW_scale_2 : decode cW_scale 2 = .ok (.getfield 17, 3) := by decide +kernel
theorem dW_scale_5 : decode cW_scale 5 = .ok (.iconst 1, 1) := by decide +kernel
theorem dW_scale_6 : decode cW_scale 6 = .ok (.iadd, 1) := by decide +kernel
theorem dW_scale_7 : decode cW_scale 7 = .ok (.invokevirtual 28, 3) := by decide +kernel
theorem dW_scale_10 : decode cW_scale 10 = .ok (.lload_n 3, 1) := by decide +kernel
theorem dW_scale_11 : decode cW_scale 11 = .ok (.lstore 5, 2) := by decide +kernel
theorem dW_scale_13 : decode cW_scale 13 = .ok (.iconst 0, 1) := by decide +kernel
theorem dW_scale_14 : decode cW_scale 14 = .ok (.istore 7, 2) := by decide +kernel
theorem dW_scale_16 : decode cW_scale 16 = .ok (.iload 7, 2) := by decide +kernel
theorem dW_scale_18 : decode cW_scale 18 = .ok (.aload_n 0, 1) := by decide +kernel
theorem dW_scale_19 : decode cW_scale 19 = .ok (.getfield 17, 3) := by decide +kernel
theorem dW_scale_22 : decode cW_scale 22 = .ok (.if_icmp .ge 43, 3) := by decide +kernel
theorem dW_scale_25 : decode cW_scale 25 = .ok (.aload_n 0, 1) := by decide +kernel
theorem dW_scale_26 : decode cW_scale 26 = .ok (.getfield 11, 3) := by decide +kernel
theorem dW_scale_29 : decode cW_scale 29 = .ok (.iload 7, 2) := by decide +kernel
theorem dW_scale_31 : decode cW_scale 31 = .ok (.laload, 1) := by decide +kernel
theorem dW_scale_32 : decode cW_scale 32 = .ok (.lload_n 1, 1) := by decide +kernel
theorem dW_scale_33 : decode cW_scale 33 = .ok (.lmul, 1) := by decide +kernel
theorem dW_scale_34 : decode cW_scale 34 = .ok (.lload 5, 2) := by decide +kernel
theorem dW_scale_36 : decode cW_scale 36 = .ok (.ladd, 1) := by decide +kernel
theorem dW_scale_37 : decode cW_scale 37 = .ok (.lstore 8, 2) := by decide +kernel
theorem dW_scale_39 : decode cW_scale 39 = .ok (.aload_n 0, 1) := by decide +kernel
theorem dW_scale_40 : decode cW_scale 40 = .ok (.getfield 11, 3) := by decide +kernel
theorem dW_scale_43 : decode cW_scale 43 = .ok (.iload 7, 2) := by decide +kernel
theorem dW_scale_45 : decode cW_scale 45 = .ok (.lload 8, 2) := by decide +kernel
theorem dW_scale_47 : decode cW_scale 47 = .ok (.ldc2_w 15, 3) := by decide +kernel
theorem dW_scale_50 : decode cW_scale 50 = .ok (.land, 1) := by decide +kernel
theorem dW_scale_51 : decode cW_scale 51 = .ok (.lastore, 1) := by decide +kernel
theorem dW_scale_52 : decode cW_scale 52 = .ok (.lload 8, 2) := by decide +kernel
theorem dW_scale_54 : decode cW_scale 54 = .ok (.bipush 28, 2) := by decide +kernel
theorem dW_scale_56 : decode cW_scale 56 = .ok (.lushr, 1) := by decide +kernel
theorem dW_scale_57 : decode cW_scale 57 = .ok (.lstore 5, 2) := by decide +kernel
theorem dW_scale_59 : decode cW_scale 59 = .ok (.iinc 7 1, 3) := by decide +kernel
theorem dW_scale_62 : decode cW_scale 62 = .ok (.goto (-46), 3) := by decide +kernel
theorem dW_scale_65 : decode cW_scale 65 = .ok (.aload_n 0, 1) := by decide +kernel
theorem dW_scale_66 : decode cW_scale 66 = .ok (.invokevirtual 25, 3) := by decide +kernel
theorem dW_scale_69 : decode cW_scale 69 = .ok (.return_, 1) := by decide +kernel
abbrev cW_shrink : ByteArray := prog_4_method_27_code
abbrev yW_shrink : MethodName := ⟨"WholeDesk$Whole", "shrink", "(J)J"⟩
theorem qW_shrink : yW_shrink.cls ≠ "java/lang/invoke/MethodHandle" ∧ yW_shrink.cls ≠ "java/lang/invoke/VarHandle" ∧ (parseMethodDescriptor yW_shrink.desc).map (fun d => d.parameters.length) = some 1 := by decide +kernel
theorem dW_shrink_0 : decode cW_shrink 0 = .ok (.lload_n 1, 1) := by decide +kernel
theorem dW_shrink_1 : decode cW_shrink 1 = .ok (.lconst 0, 1) := by decide +kernel
theorem dW_shrink_2 : decode cW_shrink 2 = .ok (.lcmp, 1) := by decide +kernel
theorem dW_shrink_3 : decode cW_shrink 3 = .ok (.ifCond .gt 5, 3) := by decide +kernel
theorem dW_shrink_6 : decode cW_shrink 6 = .ok (.lconst 0, 1) := by decide +kernel
theorem dW_shrink_7 : decode cW_shrink 7 = .ok (.lreturn, 1) := by decide +kernel
theorem dW_shrink_8 : decode cW_shrink 8 = .ok (.lconst 0, 1) := by decide +kernel
theorem dW_shrink_9 : decode cW_shrink 9 = .ok (.lstore_n 3, 1) := by decide +kernel
theorem dW_shrink_10 : decode cW_shrink 10 = .ok (.aload_n 0, 1) := by decide +kernel
theorem dW_shrink_11 : decode cW_shrink 11 = .ok (.getfield 17, 3) := by decide +kernel
theorem dW_shrink_14 : decode cW_shrink 14 = .ok (.iconst 1, 1) := by decide +kernel
theorem dW_shrink_15 : decode cW_shrink 15 = .ok (.isub, 1) := by decide +kernel
theorem dW_shrink_16 : decode cW_shrink 16 = .ok (.istore 5, 2) := by decide +kernel
theorem dW_shrink_18 : decode cW_shrink 18 = .ok (.iload 5, 2) := by decide +kernel
theorem dW_shrink_20 : decode cW_shrink 20 = .ok (.ifCond .lt 47, 3) := by decide +kernel
theorem dW_shrink_23 : decode cW_shrink 23 = .ok (.lload_n 3, 1) := by decide +kernel
theorem dW_shrink_24 : decode cW_shrink 24 = .ok (.bipush 28, 2) := by decide +kernel
theorem dW_shrink_26 : decode cW_shrink 26 = .ok (.lshl, 1) := by decide +kernel
theorem dW_shrink_27 : decode cW_shrink 27 = .ok (.aload_n 0, 1) := by decide +kernel
theorem dW_shrink_28 : decode cW_shrink 28 = .ok (.getfield 11, 3) := by decide +kernel
theorem dW_shrink_31 : decode cW_shrink 31 = .ok (.iload 5, 2) := by decide +kernel
theorem dW_shrink_33 : decode cW_shrink 33 = .ok (.laload, 1) := by decide +kernel
theorem dW_shrink_34 : decode cW_shrink 34 = .ok (.lor, 1) := by decide +kernel
theorem dW_shrink_35 : decode cW_shrink 35 = .ok (.lstore 6, 2) := by decide +kernel
theorem dW_shrink_37 : decode cW_shrink 37 = .ok (.aload_n 0, 1) := by decide +kernel
theorem dW_shrink_38 : decode cW_shrink 38 = .ok (.getfield 11, 3) := by decide +kernel
theorem dW_shrink_41 : decode cW_shrink 41 = .ok (.iload 5, 2) := by decide +kernel
theorem dW_shrink_43 : decode cW_shrink 43 = .ok (.lload 6, 2) := by decide +kernel
theorem dW_shrink_45 : decode cW_shrink 45 = .ok (.lload_n 1, 1) := by decide +kernel
theorem dW_shrink_46 : decode cW_shrink 46 = .ok (.ldiv, 1) := by decide +kernel
theorem dW_shrink_47 : decode cW_shrink 47 = .ok (.lastore, 1) := by decide +kernel
theorem dW_shrink_48 : decode cW_shrink 48 = .ok (.lload 6, 2) := by decide +kernel
theorem dW_shrink_50 : decode cW_shrink 50 = .ok (.aload_n 0, 1) := by decide +kernel
theorem dW_shrink_51 : decode cW_shrink 51 = .ok (.getfield 11, 3) := by decide +kernel
theorem dW_shrink_54 : decode cW_shrink 54 = .ok (.iload 5, 2) := by decide +kernel
theorem dW_shrink_56 : decode cW_shrink 56 = .ok (.laload, 1) := by decide +kernel
theorem dW_shrink_57 : decode cW_shrink 57 = .ok (.lload_n 1, 1) := by decide +kernel
theorem dW_shrink_58 : decode cW_shrink 58 = .ok (.lmul, 1) := by decide +kernel
theorem dW_shrink_59 : decode cW_shrink 59 = .ok (.lsub, 1) := by decide +kernel
theorem dW_shrink_60 : decode cW_shrink 60 = .ok (.lstore_n 3, 1) := by decide +kernel
theorem dW_shrink_61 : decode cW_shrink 61 = .ok (.iinc 5 (-1), 3) := by decide +kernel
theorem dW_shrink_64 : decode cW_shrink 64 = .ok (.goto (-46), 3) := by decide +kernel
theorem dW_shrink_67 : decode cW_shrink 67 = .ok (.aload_n 0, 1) := by decide +kernel
theorem dW_shrink_68 : decode cW_shrink 68 = .ok (.invokevirtual 25, 3) := by decide +kernel
theorem dW_shrink_71 : decode cW_shrink 71 = .ok (.lload_n 3, 1) := by decide +kernel
theorem dW_shrink_72 : decode cW_shrink 72 = .ok (.lreturn, 1) := by decide +kernel
abbrev cW_turn : ByteArray := prog_4_method_28_code
abbrev yW_turn : MethodName := ⟨"WholeDesk$Whole", "turn", "()V"⟩
theorem qW_turn : yW_turn.cls ≠ "java/lang/invoke/MethodHandle" ∧ yW_turn.cls ≠ "java/lang/invoke/VarHandle" ∧ (parseMethodDescriptor yW_turn.desc).map (fun d => d.parameters.length) = some 0 := by decide +kernel
theorem dW_turn_0 : decode cW_turn 0 = .ok (.lconst 1, 1) := by decide +kernel
theorem dW_turn_1 : decode cW_turn 1 = .ok (.lstore_n 1, 1) := by decide +kernel
theorem dW_turn_2 : decode cW_turn 2 = .ok (.iconst 0, 1) := by decide +kernel
theorem dW_turn_3 : decode cW_turn 3 = .ok (.istore_n 3, 1) := by decide +kernel
theorem dW_turn_4 : decode cW_turn 4 = .ok (.iload_n 3, 1) := by decide +kernel
theorem dW_turn_5 : decode cW_turn 5 = .ok (.aload_n 0, 1) := by decide +kernel
theorem dW_turn_6 : decode cW_turn 6 = .ok (.getfield 17, 3) := by decide +kernel
theorem dW_turn_9 : decode cW_turn 9 = .ok (.if_icmp .ge 41, 3) := by decide +kernel
theorem dW_turn_12 : decode cW_turn 12 = .ok (.aload_n 0, 1) := by decide +kernel
theorem dW_turn_13 : decode cW_turn 13 = .ok (.getfield 11, 3) := by decide +kernel
theorem dW_turn_16 : decode cW_turn 16 = .ok (.iload_n 3, 1) := by decide +kernel
theorem dW_turn_17 : decode cW_turn 17 = .ok (.laload, 1) := by decide +kernel
theorem dW_turn_18 : decode cW_turn 18 = .ok (.ldc2_w 15, 3) := by decide +kernel
theorem dW_turn_21 : decode cW_turn 21 = .ok (.lxor, 1) := by decide +kernel
theorem dW_turn_22 : decode cW_turn 22 = .ok (.lload_n 1, 1) := by decide +kernel
theorem dW_turn_23 : decode cW_turn 23 = .ok (.ladd, 1) := by decide +kernel
theorem dW_turn_24 : decode cW_turn 24 = .ok (.lstore 4, 2) := by decide +kernel
theorem dW_turn_26 : decode cW_turn 26 = .ok (.aload_n 0, 1) := by decide +kernel
theorem dW_turn_27 : decode cW_turn 27 = .ok (.getfield 11, 3) := by decide +kernel
theorem dW_turn_30 : decode cW_turn 30 = .ok (.iload_n 3, 1) := by decide +kernel
theorem dW_turn_31 : decode cW_turn 31 = .ok (.lload 4, 2) := by decide +kernel
theorem dW_turn_33 : decode cW_turn 33 = .ok (.ldc2_w 15, 3) := by decide +kernel
theorem dW_turn_36 : decode cW_turn 36 = .ok (.land, 1) := by decide +kernel
theorem dW_turn_37 : decode cW_turn 37 = .ok (.lastore, 1) := by decide +kernel
theorem dW_turn_38 : decode cW_turn 38 = .ok (.lload 4, 2) := by decide +kernel
theorem dW_turn_40 : decode cW_turn 40 = .ok (.bipush 28, 2) := by decide +kernel
theorem dW_turn_42 : decode cW_turn 42 = .ok (.lushr, 1) := by decide +kernel
theorem dW_turn_43 : decode cW_turn 43 = .ok (.lstore_n 1, 1) := by decide +kernel
theorem dW_turn_44 : decode cW_turn 44 = .ok (.iinc 3 1, 3) := by decide +kernel
theorem dW_turn_47 : decode cW_turn 47 = .ok (.goto (-43), 3) := by decide +kernel
theorem dW_turn_50 : decode cW_turn 50 = .ok (.return_, 1) := by decide +kernel
end
section
abbrev cK_init : ByteArray := prog_3_method_1_code
abbrev yK_init : MethodName := ⟨"WholeDesk$Reckoner", "<init>", "()V"⟩
theorem qK_init : yK_init.cls ≠ "java/lang/invoke/MethodHandle" ∧ yK_init.cls ≠ "java/lang/invoke/VarHandle" ∧ (parseMethodDescriptor yK_init.desc).map (fun d => d.parameters.length) = some 0 := by decide +kernel
theorem dK_init_0 : decode cK_init 0 = .ok (.aload_n 0, 1) := by decide +kernel
theorem dK_init_1 : decode cK_init 1 = .ok (.invokespecial 3, 3) := by decide +kernel
theorem dK_init_4 : decode cK_init 4 = .ok (.aload_n 0, 1) := by decide +kernel
theorem dK_init_5 : decode cK_init 5 = .ok (.new 9, 3) := by decide +kernel
theorem dK_init_8 : decode cK_init 8 = .ok (.dup, 1) := by decide +kernel
theorem dK_init_9 : decode cK_init 9 = .ok (.invokespecial 11, 3) := by decide +kernel
theorem dK_init_12 : decode cK_init 12 = .ok (.putfield 12, 3) := by decide +kernel
theorem dK_init_15 : decode cK_init 15 = .ok (.aload_n 0, 1) := by decide +kernel
theorem dK_init_16 : decode cK_init 16 = .ok (.new 9, 3) := by decide +kernel
theorem dK_init_19 : decode cK_init 19 = .ok (.dup, 1) := by decide +kernel
theorem dK_init_20 : decode cK_init 20 = .ok (.invokespecial 11, 3) := by decide +kernel
theorem dK_init_23 : decode cK_init 23 = .ok (.putfield 18, 3) := by decide +kernel
theorem dK_init_26 : decode cK_init 26 = .ok (.aload_n 0, 1) := by decide +kernel
theorem dK_init_27 : decode cK_init 27 = .ok (.new 9, 3) := by decide +kernel
theorem dK_init_30 : decode cK_init 30 = .ok (.dup, 1) := by decide +kernel
theorem dK_init_31 : decode cK_init 31 = .ok (.invokespecial 11, 3) := by decide +kernel
theorem dK_init_34 : decode cK_init 34 = .ok (.putfield 21, 3) := by decide +kernel
theorem dK_init_37 : decode cK_init 37 = .ok (.aload_n 0, 1) := by decide +kernel
theorem dK_init_38 : decode cK_init 38 = .ok (.new 9, 3) := by decide +kernel
theorem dK_init_41 : decode cK_init 41 = .ok (.dup, 1) := by decide +kernel
theorem dK_init_42 : decode cK_init 42 = .ok (.invokespecial 11, 3) := by decide +kernel
theorem dK_init_45 : decode cK_init 45 = .ok (.putfield 24, 3) := by decide +kernel
theorem dK_init_48 : decode cK_init 48 = .ok (.aload_n 0, 1) := by decide +kernel
theorem dK_init_49 : decode cK_init 49 = .ok (.new 9, 3) := by decide +kernel
theorem dK_init_52 : decode cK_init 52 = .ok (.dup, 1) := by decide +kernel
theorem dK_init_53 : decode cK_init 53 = .ok (.invokespecial 11, 3) := by decide +kernel
theorem dK_init_56 : decode cK_init 56 = .ok (.putfield 27, 3) := by decide +kernel
theorem dK_init_59 : decode cK_init 59 = .ok (.aload_n 0, 1) := by decide +kernel
theorem dK_init_60 : decode cK_init 60 = .ok (.new 9, 3) := by decide +kernel
theorem dK_init_63 : decode cK_init 63 = .ok (.dup, 1) := by decide +kernel
theorem dK_init_64 : decode cK_init 64 = .ok (.invokespecial 11, 3) := by decide +kernel
theorem dK_init_67 : decode cK_init 67 = .ok (.putfield 30, 3) := by decide +kernel
theorem dK_init_70 : decode cK_init 70 = .ok (.aload_n 0, 1) := by decide +kernel
theorem dK_init_71 : decode cK_init 71 = .ok (.new 9, 3) := by decide +kernel
theorem dK_init_74 : decode cK_init 74 = .ok (.dup, 1) := by decide +kernel
theorem dK_init_75 : decode cK_init 75 = .ok (.invokespecial 11, 3) := by decide +kernel
theorem dK_init_78 : decode cK_init 78 = .ok (.putfield 33, 3) := by decide +kernel
theorem dK_init_81 : decode cK_init 81 = .ok (.aload_n 0, 1) := by decide +kernel
theorem dK_init_82 : decode cK_init 82 = .ok (.new 9, 3) := by decide +kernel
theorem dK_init_85 : decode cK_init 85 = .ok (.dup, 1) := by decide +kernel
theorem dK_init_86 : decode cK_init 86 = .ok (.invokespecial 11, 3) := by decide +kernel
theorem dK_init_89 : decode cK_init 89 = .ok (.putfield 36, 3) := by decide +kernel
theorem dK_init_92 : decode cK_init 92 = .ok (.aload_n 0, 1) := by decide +kernel
theorem dK_init_93 : decode cK_init 93 = .ok (.bipush 16, 2) := by decide +kernel
theorem dK_init_95 : decode cK_init 95 = .ok (.anewarray 9, 3) := by decide +kernel
theorem dK_init_98 : decode cK_init 98 = .ok (.putfield 39, 3) := by decide +kernel
theorem dK_init_101 : decode cK_init 101 = .ok (.iconst 0, 1) := by decide +kernel
theorem dK_init_102 : decode cK_init 102 = .ok (.istore_n 1, 1) := by decide +kernel
theorem dK_init_103 : decode cK_init 103 = .ok (.iload_n 1, 1) := by decide +kernel
theorem dK_init_104 : decode cK_init 104 = .ok (.bipush 16, 2) := by decide +kernel
theorem dK_init_106 : decode cK_init 106 = .ok (.if_icmp .ge 22, 3) := by decide +kernel
theorem dK_init_109 : decode cK_init 109 = .ok (.aload_n 0, 1) := by decide +kernel
theorem dK_init_110 : decode cK_init 110 = .ok (.getfield 39, 3) := by decide +kernel
theorem dK_init_113 : decode cK_init 113 = .ok (.iload_n 1, 1) := by decide +kernel
theorem dK_init_114 : decode cK_init 114 = .ok (.new 9, 3) := by decide +kernel
theorem dK_init_117 : decode cK_init 117 = .ok (.dup, 1) := by decide +kernel
theorem dK_init_118 : decode cK_init 118 = .ok (.invokespecial 11, 3) := by decide +kernel
theorem dK_init_121 : decode cK_init 121 = .ok (.aastore, 1) := by decide +kernel
theorem dK_init_122 : decode cK_init 122 = .ok (.iinc 1 1, 3) := by decide +kernel
theorem dK_init_125 : decode cK_init 125 = .ok (.goto (-22), 3) := by decide +kernel
theorem dK_init_128 : decode cK_init 128 = .ok (.return_, 1) := by decide +kernel
abbrev cK_sum : ByteArray := prog_3_method_2_code
abbrev yK_sum : MethodName := ⟨"WholeDesk$Reckoner", "sum", "(LWholeDesk$Whole;LWholeDesk$Whole;Z)LWholeDesk$Whole;"⟩
theorem qK_sum : yK_sum.cls ≠ "java/lang/invoke/MethodHandle" ∧ yK_sum.cls ≠ "java/lang/invoke/VarHandle" ∧ (parseMethodDescriptor yK_sum.desc).map (fun d => d.parameters.length) = some 3 := by decide +kernel
theorem dK_sum_0 : decode cK_sum 0 = .ok (.aload_n 2, 1) := by decide +kernel
theorem dK_sum_1 : decode cK_sum 1 = .ok (.getfield 43, 3) := by decide +kernel
theorem dK_sum_4 : decode cK_sum 4 = .ok (.iload_n 3, 1) := by decide +kernel
theorem dK_sum_5 : decode cK_sum 5 = .ok (.if_icmp .eq 7, 3) := by decide +kernel
theorem dK_sum_8 : decode cK_sum 8 = .ok (.iconst 1, 1) := by decide +kernel
theorem dK_sum_9 : decode cK_sum 9 = .ok (.goto 4, 3) := by decide +kernel
theorem dK_sum_12 : decode cK_sum 12 = .ok (.iconst 0, 1) := by decide +kernel
theorem dK_sum_13 : decode cK_sum 13 = .ok (.istore 4, 2) := by decide +kernel
theorem dK_sum_15 : decode cK_sum 15 = .ok (.aload_n 0, 1) := by decide +kernel
theorem dK_sum_16 : decode cK_sum 16 = .ok (.getfield 21, 3) := by decide +kernel
theorem dK_sum_19 : decode cK_sum 19 = .ok (.aload_n 1, 1) := by decide +kernel
theorem dK_sum_20 : decode cK_sum 20 = .ok (.invokevirtual 47, 3) := by decide +kernel
theorem dK_sum_23 : decode cK_sum 23 = .ok (.aload_n 1, 1) := by decide +kernel
theorem dK_sum_24 : decode cK_sum 24 = .ok (.getfield 43, 3) := by decide +kernel
theorem dK_sum_27 : decode cK_sum 27 = .ok (.iload 4, 2) := by decide +kernel
theorem dK_sum_29 : decode cK_sum 29 = .ok (.if_icmp .ne 37, 3) := by decide +kernel
theorem dK_sum_32 : decode cK_sum 32 = .ok (.aload_n 0, 1) := by decide +kernel
theorem dK_sum_33 : decode cK_sum 33 = .ok (.getfield 21, 3) := by decide +kernel
theorem dK_sum_36 : decode cK_sum 36 = .ok (.aload_n 1, 1) := by decide +kernel
theorem dK_sum_37 : decode cK_sum 37 = .ok (.getfield 51, 3) := by decide +kernel
theorem dK_sum_40 : decode cK_sum 40 = .ok (.aload_n 2, 1) := by decide +kernel
theorem dK_sum_41 : decode cK_sum 41 = .ok (.getfield 51, 3) := by decide +kernel
theorem dK_sum_44 : decode cK_sum 44 = .ok (.invokestatic 55, 3) := by decide +kernel
theorem dK_sum_47 : decode cK_sum 47 = .ok (.iconst 1, 1) := by decide +kernel
theorem dK_sum_48 : decode cK_sum 48 = .ok (.iadd, 1) := by decide +kernel
theorem dK_sum_49 : decode cK_sum 49 = .ok (.invokevirtual 61, 3) := by decide +kernel
theorem dK_sum_52 : decode cK_sum 52 = .ok (.aload_n 0, 1) := by decide +kernel
theorem dK_sum_53 : decode cK_sum 53 = .ok (.getfield 21, 3) := by decide +kernel
theorem dK_sum_56 : decode cK_sum 56 = .ok (.aload_n 2, 1) := by decide +kernel
theorem dK_sum_57 : decode cK_sum 57 = .ok (.lconst 1, 1) := by decide +kernel
theorem dK_sum_58 : decode cK_sum 58 = .ok (.iconst 0, 1) := by decide +kernel
theorem dK_sum_59 : decode cK_sum 59 = .ok (.invokevirtual 65, 3) := by decide +kernel
theorem dK_sum_62 : decode cK_sum 62 = .ok (.pop2, 1) := by decide +kernel
theorem dK_sum_63 : decode cK_sum 63 = .ok (.goto 44, 3) := by decide +kernel
theorem dK_sum_66 : decode cK_sum 66 = .ok (.aload_n 1, 1) := by decide +kernel
theorem dK_sum_67 : decode cK_sum 67 = .ok (.aload_n 2, 1) := by decide +kernel
theorem dK_sum_68 : decode cK_sum 68 = .ok (.invokevirtual 69, 3) := by decide +kernel
theorem dK_sum_71 : decode cK_sum 71 = .ok (.ifCond .lt 19, 3) := by decide +kernel
theorem dK_sum_74 : decode cK_sum 74 = .ok (.aload_n 0, 1) := by decide +kernel
theorem dK_sum_75 : decode cK_sum 75 = .ok (.getfield 21, 3) := by decide +kernel
theorem dK_sum_78 : decode cK_sum 78 = .ok (.aload_n 2, 1) := by decide +kernel
theorem dK_sum_79 : decode cK_sum 79 = .ok (.ldc2_w 73, 3) := by decide +kernel
theorem dK_sum_82 : decode cK_sum 82 = .ok (.iconst 0, 1) := by decide +kernel
theorem dK_sum_83 : decode cK_sum 83 = .ok (.invokevirtual 65, 3) := by decide +kernel
theorem dK_sum_86 : decode cK_sum 86 = .ok (.pop2, 1) := by decide +kernel
theorem dK_sum_87 : decode cK_sum 87 = .ok (.goto 20, 3) := by decide +kernel
theorem dK_sum_90 : decode cK_sum 90 = .ok (.aload_n 0, 1) := by decide +kernel
theorem dK_sum_91 : decode cK_sum 91 = .ok (.getfield 21, 3) := by decide +kernel
theorem dK_sum_94 : decode cK_sum 94 = .ok (.aload_n 2, 1) := by decide +kernel
theorem dK_sum_95 : decode cK_sum 95 = .ok (.invokevirtual 75, 3) := by decide +kernel
theorem dK_sum_98 : decode cK_sum 98 = .ok (.aload_n 0, 1) := by decide +kernel
theorem dK_sum_99 : decode cK_sum 99 = .ok (.getfield 21, 3) := by decide +kernel
theorem dK_sum_102 : decode cK_sum 102 = .ok (.iload 4, 2) := by decide +kernel
theorem dK_sum_104 : decode cK_sum 104 = .ok (.putfield 43, 3) := by decide +kernel
theorem dK_sum_107 : decode cK_sum 107 = .ok (.aload_n 0, 1) := by decide +kernel
theorem dK_sum_108 : decode cK_sum 108 = .ok (.getfield 21, 3) := by decide +kernel
theorem dK_sum_111 : decode cK_sum 111 = .ok (.invokevirtual 78, 3) := by decide +kernel
theorem dK_sum_114 : decode cK_sum 114 = .ok (.aload_n 0, 1) := by decide +kernel
theorem dK_sum_115 : decode cK_sum 115 = .ok (.getfield 21, 3) := by decide +kernel
theorem dK_sum_118 : decode cK_sum 118 = .ok (.areturn, 1) := by decide +kernel
abbrev cK_product : ByteArray := prog_3_method_3_code
abbrev yK_product : MethodName := ⟨"WholeDesk$Reckoner", "product", "(LWholeDesk$Whole;LWholeDesk$Whole;)LWholeDesk$Whole;"⟩
theorem qK_product : yK_product.cls ≠ "java/lang/invoke/MethodHandle" ∧ yK_product.cls ≠ "java/lang/invoke/VarHandle" ∧ (parseMethodDescriptor yK_product.desc).map (fun d => d.parameters.length) = some 2 := by decide +kernel
theorem dK_product_0 : decode cK_product 0 = .ok (.aload_n 0, 1) := by decide +kernel
theorem dK_product_1 : decode cK_product 1 = .ok (.getfield 21, 3) := by decide +kernel
theorem dK_product_4 : decode cK_product 4 = .ok (.aload_n 1, 1) := by decide +kernel
theorem dK_product_5 : decode cK_product 5 = .ok (.aload_n 2, 1) := by decide +kernel
theorem dK_product_6 : decode cK_product 6 = .ok (.invokevirtual 81, 3) := by decide +kernel
theorem dK_product_9 : decode cK_product 9 = .ok (.aload_n 0, 1) := by decide +kernel
theorem dK_product_10 : decode cK_product 10 = .ok (.getfield 21, 3) := by decide +kernel
theorem dK_product_13 : decode cK_product 13 = .ok (.areturn, 1) := by decide +kernel
abbrev cK_separate : ByteArray := prog_3_method_4_code
abbrev yK_separate : MethodName := ⟨"WholeDesk$Reckoner", "separate", "(LWholeDesk$Whole;LWholeDesk$Whole;)V"⟩
theorem qK_separate : yK_separate.cls ≠ "java/lang/invoke/MethodHandle" ∧ yK_separate.cls ≠ "java/lang/invoke/VarHandle" ∧ (parseMethodDescriptor yK_separate.desc).map (fun d => d.parameters.length) = some 2 := by decide +kernel
theorem dK_separate_0 : decode cK_separate 0 = .ok (.aload_n 0, 1) := by decide +kernel
theorem dK_separate_1 : decode cK_separate 1 = .ok (.getfield 18, 3) := by decide +kernel
theorem dK_separate_4 : decode cK_separate 4 = .ok (.aload_n 1, 1) := by decide +kernel
theorem dK_separate_5 : decode cK_separate 5 = .ok (.invokevirtual 47, 3) := by decide +kernel
theorem dK_separate_8 : decode cK_separate 8 = .ok (.aload_n 0, 1) := by decide +kernel
theorem dK_separate_9 : decode cK_separate 9 = .ok (.getfield 18, 3) := by decide +kernel
theorem dK_separate_12 : decode cK_separate 12 = .ok (.aload_n 2, 1) := by decide +kernel
theorem dK_separate_13 : decode cK_separate 13 = .ok (.aload_n 0, 1) := by decide +kernel
theorem dK_separate_14 : decode cK_separate 14 = .ok (.getfield 12, 3) := by decide +kernel
theorem dK_separate_17 : decode cK_separate 17 = .ok (.invokevirtual 85, 3) := by decide +kernel
theorem dK_separate_20 : decode cK_separate 20 = .ok (.aload_n 0, 1) := by decide +kernel
theorem dK_separate_21 : decode cK_separate 21 = .ok (.getfield 12, 3) := by decide +kernel
theorem dK_separate_24 : decode cK_separate 24 = .ok (.aload_n 1, 1) := by decide +kernel
theorem dK_separate_25 : decode cK_separate 25 = .ok (.getfield 43, 3) := by decide +kernel
theorem dK_separate_28 : decode cK_separate 28 = .ok (.aload_n 2, 1) := by decide +kernel
theorem dK_separate_29 : decode cK_separate 29 = .ok (.getfield 43, 3) := by decide +kernel
theorem dK_separate_32 : decode cK_separate 32 = .ok (.if_icmp .eq 7, 3) := by decide +kernel
theorem dK_separate_35 : decode cK_separate 35 = .ok (.iconst 1, 1) := by decide +kernel
theorem dK_separate_36 : decode cK_separate 36 = .ok (.goto 4, 3) := by decide +kernel
theorem dK_separate_39 : decode cK_separate 39 = .ok (.iconst 0, 1) := by decide +kernel
theorem dK_separate_40 : decode cK_separate 40 = .ok (.putfield 43, 3) := by decide +kernel
theorem dK_separate_43 : decode cK_separate 43 = .ok (.aload_n 0, 1) := by decide +kernel
theorem dK_separate_44 : decode cK_separate 44 = .ok (.getfield 12, 3) := by decide +kernel
theorem dK_separate_47 : decode cK_separate 47 = .ok (.invokevirtual 78, 3) := by decide +kernel
theorem dK_separate_50 : decode cK_separate 50 = .ok (.return_, 1) := by decide +kernel
abbrev cK_residue : ByteArray := prog_3_method_5_code
abbrev yK_residue : MethodName := ⟨"WholeDesk$Reckoner", "residue", "(LWholeDesk$Whole;LWholeDesk$Whole;)LWholeDesk$Whole;"⟩
theorem qK_residue : yK_residue.cls ≠ "java/lang/invoke/MethodHandle" ∧ yK_residue.cls ≠ "java/lang/invoke/VarHandle" ∧ (parseMethodDescriptor yK_residue.desc).map (fun d => d.parameters.length) = some 2 := by decide +kernel
theorem dK_residue_0 : decode cK_residue 0 = .ok (.aload_n 0, 1) := by decide +kernel
theorem dK_residue_1 : decode cK_residue 1 = .ok (.getfield 18, 3) := by decide +kernel
theorem dK_residue_4 : decode cK_residue 4 = .ok (.aload_n 1, 1) := by decide +kernel
theorem dK_residue_5 : decode cK_residue 5 = .ok (.invokevirtual 47, 3) := by decide +kernel
theorem dK_residue_8 : decode cK_residue 8 = .ok (.aload_n 0, 1) := by decide +kernel
theorem dK_residue_9 : decode cK_residue 9 = .ok (.getfield 18, 3) := by decide +kernel
theorem dK_residue_12 : decode cK_residue 12 = .ok (.aload_n 2, 1) := by decide +kernel
theorem dK_residue_13 : decode cK_residue 13 = .ok (.aload_n 0, 1) := by decide +kernel
theorem dK_residue_14 : decode cK_residue 14 = .ok (.getfield 12, 3) := by decide +kernel
theorem dK_residue_17 : decode cK_residue 17 = .ok (.invokevirtual 85, 3) := by decide +kernel
theorem dK_residue_20 : decode cK_residue 20 = .ok (.aload_n 0, 1) := by decide +kernel
theorem dK_residue_21 : decode cK_residue 21 = .ok (.getfield 18, 3) := by decide +kernel
theorem dK_residue_24 : decode cK_residue 24 = .ok (.getfield 43, 3) := by decide +kernel
theorem dK_residue_27 : decode cK_residue 27 = .ok (.ifCond .eq 11, 3) := by decide +kernel
theorem dK_residue_30 : decode cK_residue 30 = .ok (.aload_n 0, 1) := by decide +kernel
theorem dK_residue_31 : decode cK_residue 31 = .ok (.getfield 18, 3) := by decide +kernel
theorem dK_residue_34 : decode cK_residue 34 = .ok (.aload_n 2, 1) := by decide +kernel
theorem dK_residue_35 : decode cK_residue 35 = .ok (.invokevirtual 75, 3) := by decide +kernel
theorem dK_residue_38 : decode cK_residue 38 = .ok (.aload_n 0, 1) := by decide +kernel
theorem dK_residue_39 : decode cK_residue 39 = .ok (.getfield 18, 3) := by decide +kernel
theorem dK_residue_42 : decode cK_residue 42 = .ok (.areturn, 1) := by decide +kernel
abbrev cK_raised : ByteArray := prog_3_method_6_code
abbrev yK_raised : MethodName := ⟨"WholeDesk$Reckoner", "raised", "(LWholeDesk$Whole;I)LWholeDesk$Whole;"⟩
theorem qK_raised : yK_raised.cls ≠ "java/lang/invoke/MethodHandle" ∧ yK_raised.cls ≠ "java/lang/invoke/VarHandle" ∧ (parseMethodDescriptor yK_raised.desc).map (fun d => d.parameters.length) = some 2 := by decide +kernel
theorem dK_raised_0 : decode cK_raised 0 = .ok (.aload_n 0, 1) := by decide +kernel
theorem dK_raised_1 : decode cK_raised 1 = .ok (.getfield 21, 3) := by decide +kernel
theorem dK_raised_4 : decode cK_raised 4 = .ok (.lconst 1, 1) := by decide +kernel
theorem dK_raised_5 : decode cK_raised 5 = .ok (.invokevirtual 88, 3) := by decide +kernel
theorem dK_raised_8 : decode cK_raised 8 = .ok (.bipush 30, 2) := by decide +kernel
theorem dK_raised_10 : decode cK_raised 10 = .ok (.istore_n 3, 1) := by decide +kernel
theorem dK_raised_11 : decode cK_raised 11 = .ok (.iload_n 3, 1) := by decide +kernel
theorem dK_raised_12 : decode cK_raised 12 = .ok (.ifCond .lt 30, 3) := by decide +kernel
theorem dK_raised_15 : decode cK_raised 15 = .ok (.aload_n 0, 1) := by decide +kernel
theorem dK_raised_16 : decode cK_raised 16 = .ok (.aload_n 0, 1) := by decide +kernel
theorem dK_raised_17 : decode cK_raised 17 = .ok (.getfield 21, 3) := by decide +kernel
theorem dK_raised_20 : decode cK_raised 20 = .ok (.invokevirtual 92, 3) := by decide +kernel
theorem dK_raised_23 : decode cK_raised 23 = .ok (.iload_n 2, 1) := by decide +kernel
theorem dK_raised_24 : decode cK_raised 24 = .ok (.iload_n 3, 1) := by decide +kernel
theorem dK_raised_25 : decode cK_raised 25 = .ok (.ishr, 1) := by decide +kernel
theorem dK_raised_26 : decode cK_raised 26 = .ok (.iconst 1, 1) := by decide +kernel
theorem dK_raised_27 : decode cK_raised 27 = .ok (.iand, 1) := by decide +kernel
theorem dK_raised_28 : decode cK_raised 28 = .ok (.ifCond .eq 8, 3) := by decide +kernel
theorem dK_raised_31 : decode cK_raised 31 = .ok (.aload_n 0, 1) := by decide +kernel
theorem dK_raised_32 : decode cK_raised 32 = .ok (.aload_n 1, 1) := by decide +kernel
theorem dK_raised_33 : decode cK_raised 33 = .ok (.invokevirtual 92, 3) := by decide +kernel
theorem dK_raised_36 : decode cK_raised 36 = .ok (.iinc 3 (-1), 3) := by decide +kernel
theorem dK_raised_39 : decode cK_raised 39 = .ok (.goto (-28), 3) := by decide +kernel
theorem dK_raised_42 : decode cK_raised 42 = .ok (.aload_n 0, 1) := by decide +kernel
theorem dK_raised_43 : decode cK_raised 43 = .ok (.getfield 21, 3) := by decide +kernel
theorem dK_raised_46 : decode cK_raised 46 = .ok (.areturn, 1) := by decide +kernel
abbrev cK_times : ByteArray := prog_3_method_7_code
abbrev yK_times : MethodName := ⟨"WholeDesk$Reckoner", "times", "(LWholeDesk$Whole;)V"⟩
theorem qK_times : yK_times.cls ≠ "java/lang/invoke/MethodHandle" ∧ yK_times.cls ≠ "java/lang/invoke/VarHandle" ∧ (parseMethodDescriptor yK_times.desc).map (fun d => d.parameters.length) = some 1 := by decide +kernel
theorem dK_times_0 : decode cK_times 0 = .ok (.aload_n 0, 1) := by decide +kernel
theorem dK_times_1 : decode cK_times 1 = .ok (.getfield 24, 3) := by decide +kernel
theorem dK_times_4 : decode cK_times 4 = .ok (.aload_n 0, 1) := by decide +kernel
theorem dK_times_5 : decode cK_times 5 = .ok (.getfield 21, 3) := by decide +kernel
theorem dK_times_8 : decode cK_times 8 = .ok (.aload_n 1, 1) := by decide +kernel
theorem dK_times_9 : decode cK_times 9 = .ok (.invokevirtual 81, 3) := by decide +kernel
theorem dK_times_12 : decode cK_times 12 = .ok (.aload_n 0, 1) := by decide +kernel
theorem dK_times_13 : decode cK_times 13 = .ok (.getfield 24, 3) := by decide +kernel
theorem dK_times_16 : decode cK_times 16 = .ok (.astore_n 2, 1) := by decide +kernel
theorem dK_times_17 : decode cK_times 17 = .ok (.aload_n 0, 1) := by decide +kernel
theorem dK_times_18 : decode cK_times 18 = .ok (.aload_n 0, 1) := by decide +kernel
theorem dK_times_19 : decode cK_times 19 = .ok (.getfield 21, 3) := by decide +kernel
theorem dK_times_22 : decode cK_times 22 = .ok (.putfield 24, 3) := by decide +kernel
theorem dK_times_25 : decode cK_times 25 = .ok (.aload_n 0, 1) := by decide +kernel
theorem dK_times_26 : decode cK_times 26 = .ok (.aload_n 2, 1) := by decide +kernel
theorem dK_times_27 : decode cK_times 27 = .ok (.putfield 21, 3) := by decide +kernel
theorem dK_times_30 : decode cK_times 30 = .ok (.return_, 1) := by decide +kernel
abbrev cK_rooted : ByteArray := prog_3_method_8_code
abbrev yK_rooted : MethodName := ⟨"WholeDesk$Reckoner", "rooted", "(LWholeDesk$Whole;I)LWholeDesk$Whole;"⟩
theorem qK_rooted : yK_rooted.cls ≠ "java/lang/invoke/MethodHandle" ∧ yK_rooted.cls ≠ "java/lang/invoke/VarHandle" ∧ (parseMethodDescriptor yK_rooted.desc).map (fun d => d.parameters.length) = some 2 := by decide +kernel
theorem dK_rooted_0 : decode cK_rooted 0 = .ok (.aload_n 0, 1) := by decide +kernel
theorem dK_rooted_1 : decode cK_rooted 1 = .ok (.getfield 27, 3) := by decide +kernel
theorem dK_rooted_4 : decode cK_rooted 4 = .ok (.astore_n 3, 1) := by decide +kernel
theorem dK_rooted_5 : decode cK_rooted 5 = .ok (.aload_n 0, 1) := by decide +kernel
theorem dK_rooted_6 : decode cK_rooted 6 = .ok (.getfield 30, 3) := by decide +kernel
theorem dK_rooted_9 : decode cK_rooted 9 = .ok (.astore 4, 2) := by decide +kernel
theorem dK_rooted_11 : decode cK_rooted 11 = .ok (.iload_n 2, 1) := by decide +kernel
theorem dK_rooted_12 : decode cK_rooted 12 = .ok (.iconst 1, 1) := by decide +kernel
theorem dK_rooted_13 : decode cK_rooted 13 = .ok (.if_icmp .lt 10, 3) := by decide +kernel
theorem dK_rooted_16 : decode cK_rooted 16 = .ok (.aload_n 1, 1) := by decide +kernel
theorem dK_rooted_17 : decode cK_rooted 17 = .ok (.getfield 51, 3) := by decide +kernel
theorem dK_rooted_20 : decode cK_rooted 20 = .ok (.ifCond .ne 10, 3) := by decide +kernel
theorem dK_rooted_23 : decode cK_rooted 23 = .ok (.aload_n 3, 1) := by decide +kernel
theorem dK_rooted_24 : decode cK_rooted 24 = .ok (.lconst 0, 1) := by decide +kernel
theorem dK_rooted_25 : decode cK_rooted 25 = .ok (.invokevirtual 88, 3) := by decide +kernel
theorem dK_rooted_28 : decode cK_rooted 28 = .ok (.aload_n 3, 1) := by decide +kernel
theorem dK_rooted_29 : decode cK_rooted 29 = .ok (.areturn, 1) := by decide +kernel
theorem dK_rooted_30 : decode cK_rooted 30 = .ok (.aload_n 3, 1) := by decide +kernel
theorem dK_rooted_31 : decode cK_rooted 31 = .ok (.aload_n 1, 1) := by decide +kernel
theorem dK_rooted_32 : decode cK_rooted 32 = .ok (.invokevirtual 95, 3) := by decide +kernel
theorem dK_rooted_35 : decode cK_rooted 35 = .ok (.iload_n 2, 1) := by decide +kernel
theorem dK_rooted_36 : decode cK_rooted 36 = .ok (.iadd, 1) := by decide +kernel
theorem dK_rooted_37 : decode cK_rooted 37 = .ok (.iconst 1, 1) := by decide +kernel
theorem dK_rooted_38 : decode cK_rooted 38 = .ok (.isub, 1) := by decide +kernel
theorem dK_rooted_39 : decode cK_rooted 39 = .ok (.iload_n 2, 1) := by decide +kernel
theorem dK_rooted_40 : decode cK_rooted 40 = .ok (.idiv, 1) := by decide +kernel
theorem dK_rooted_41 : decode cK_rooted 41 = .ok (.invokevirtual 99, 3) := by decide +kernel
theorem dK_rooted_44 : decode cK_rooted 44 = .ok (.iconst 0, 1) := by decide +kernel
theorem dK_rooted_45 : decode cK_rooted 45 = .ok (.istore 5, 2) := by decide +kernel
theorem dK_rooted_47 : decode cK_rooted 47 = .ok (.iload 5, 2) := by decide +kernel
theorem dK_rooted_49 : decode cK_rooted 49 = .ok (.sipush 4096, 3) := by decide +kernel
theorem dK_rooted_52 : decode cK_rooted 52 = .ok (.if_icmp .ge 40, 3) := by decide +kernel
theorem dK_rooted_55 : decode cK_rooted 55 = .ok (.aload_n 0, 1) := by decide +kernel
theorem dK_rooted_56 : decode cK_rooted 56 = .ok (.aload_n 1, 1) := by decide +kernel
theorem dK_rooted_57 : decode cK_rooted 57 = .ok (.iload_n 2, 1) := by decide +kernel
theorem dK_rooted_58 : decode cK_rooted 58 = .ok (.aload_n 3, 1) := by decide +kernel
theorem dK_rooted_59 : decode cK_rooted 59 = .ok (.aload 4, 2) := by decide +kernel
theorem dK_rooted_61 : decode cK_rooted 61 = .ok (.invokevirtual 102, 3) := by decide +kernel
theorem dK_rooted_64 : decode cK_rooted 64 = .ok (.aload 4, 2) := by decide +kernel
theorem dK_rooted_66 : decode cK_rooted 66 = .ok (.aload_n 3, 1) := by decide +kernel
theorem dK_rooted_67 : decode cK_rooted 67 = .ok (.invokevirtual 69, 3) := by decide +kernel
theorem dK_rooted_70 : decode cK_rooted 70 = .ok (.ifCond .lt 6, 3) := by decide +kernel
theorem dK_rooted_73 : decode cK_rooted 73 = .ok (.goto 19, 3) := by decide +kernel
theorem dK_rooted_76 : decode cK_rooted 76 = .ok (.aload_n 3, 1) := by decide +kernel
theorem dK_rooted_77 : decode cK_rooted 77 = .ok (.astore 6, 2) := by decide +kernel
theorem dK_rooted_79 : decode cK_rooted 79 = .ok (.aload 4, 2) := by decide +kernel
theorem dK_rooted_81 : decode cK_rooted 81 = .ok (.astore_n 3, 1) := by decide +kernel
theorem dK_rooted_82 : decode cK_rooted 82 = .ok (.aload 6, 2) := by decide +kernel
theorem dK_rooted_84 : decode cK_rooted 84 = .ok (.astore 4, 2) := by decide +kernel
theorem dK_rooted_86 : decode cK_rooted 86 = .ok (.iinc 5 1, 3) := by decide +kernel
theorem dK_rooted_89 : decode cK_rooted 89 = .ok (.goto (-42), 3) := by decide +kernel
theorem dK_rooted_92 : decode cK_rooted 92 = .ok (.aload_n 3, 1) := by decide +kernel
theorem dK_rooted_93 : decode cK_rooted 93 = .ok (.areturn, 1) := by decide +kernel
abbrev cK_improve : ByteArray := prog_3_method_9_code
abbrev yK_improve : MethodName := ⟨"WholeDesk$Reckoner", "improve", "(LWholeDesk$Whole;ILWholeDesk$Whole;LWholeDesk$Whole;)V"⟩
theorem qK_improve : yK_improve.cls ≠ "java/lang/invoke/MethodHandle" ∧ yK_improve.cls ≠ "java/lang/invoke/VarHandle" ∧ (parseMethodDescriptor yK_improve.desc).map (fun d => d.parameters.length) = some 4 := by decide +kernel
theorem dK_improve_0 : decode cK_improve 0 = .ok (.aload_n 0, 1) := by decide +kernel
theorem dK_improve_1 : decode cK_improve 1 = .ok (.getfield 18, 3) := by decide +kernel
theorem dK_improve_4 : decode cK_improve 4 = .ok (.aload_n 1, 1) := by decide +kernel
theorem dK_improve_5 : decode cK_improve 5 = .ok (.invokevirtual 47, 3) := by decide +kernel
theorem dK_improve_8 : decode cK_improve 8 = .ok (.aload_n 0, 1) := by decide +kernel
theorem dK_improve_9 : decode cK_improve 9 = .ok (.getfield 18, 3) := by decide +kernel
theorem dK_improve_12 : decode cK_improve 12 = .ok (.aload_n 0, 1) := by decide +kernel
theorem dK_improve_13 : decode cK_improve 13 = .ok (.aload_n 3, 1) := by decide +kernel
theorem dK_improve_14 : decode cK_improve 14 = .ok (.iload_n 2, 1) := by decide +kernel
theorem dK_improve_15 : decode cK_improve 15 = .ok (.iconst 1, 1) := by decide +kernel
theorem dK_improve_16 : decode cK_improve 16 = .ok (.isub, 1) := by decide +kernel
theorem dK_improve_17 : decode cK_improve 17 = .ok (.invokevirtual 106, 3) := by decide +kernel
theorem dK_improve_20 : decode cK_improve 20 = .ok (.aload 4, 2) := by decide +kernel
theorem dK_improve_22 : decode cK_improve 22 = .ok (.invokevirtual 85, 3) := by decide +kernel
theorem dK_improve_25 : decode cK_improve 25 = .ok (.aload 4, 2) := by decide +kernel
theorem dK_improve_27 : decode cK_improve 27 = .ok (.aload 4, 2) := by decide +kernel
theorem dK_improve_29 : decode cK_improve 29 = .ok (.getfield 51, 3) := by decide +kernel
theorem dK_improve_32 : decode cK_improve 32 = .ok (.aload_n 3, 1) := by decide +kernel
theorem dK_improve_33 : decode cK_improve 33 = .ok (.getfield 51, 3) := by decide +kernel
theorem dK_improve_36 : decode cK_improve 36 = .ok (.invokestatic 55, 3) := by decide +kernel
theorem dK_improve_39 : decode cK_improve 39 = .ok (.iconst 1, 1) := by decide +kernel
theorem dK_improve_40 : decode cK_improve 40 = .ok (.iadd, 1) := by decide +kernel
theorem dK_improve_41 : decode cK_improve 41 = .ok (.invokevirtual 61, 3) := by decide +kernel
theorem dK_improve_44 : decode cK_improve 44 = .ok (.aload 4, 2) := by decide +kernel
theorem dK_improve_46 : decode cK_improve 46 = .ok (.aload_n 3, 1) := by decide +kernel
theorem dK_improve_47 : decode cK_improve 47 = .ok (.iload_n 2, 1) := by decide +kernel
theorem dK_improve_48 : decode cK_improve 48 = .ok (.iconst 1, 1) := by decide +kernel
theorem dK_improve_49 : decode cK_improve 49 = .ok (.isub, 1) := by decide +kernel
theorem dK_improve_50 : decode cK_improve 50 = .ok (.i2l, 1) := by decide +kernel
theorem dK_improve_51 : decode cK_improve 51 = .ok (.iconst 0, 1) := by decide +kernel
theorem dK_improve_52 : decode cK_improve 52 = .ok (.invokevirtual 65, 3) := by decide +kernel
theorem dK_improve_55 : decode cK_improve 55 = .ok (.pop2, 1) := by decide +kernel
theorem dK_improve_56 : decode cK_improve 56 = .ok (.aload 4, 2) := by decide +kernel
theorem dK_improve_58 : decode cK_improve 58 = .ok (.iload_n 2, 1) := by decide +kernel
theorem dK_improve_59 : decode cK_improve 59 = .ok (.i2l, 1) := by decide +kernel
theorem dK_improve_60 : decode cK_improve 60 = .ok (.invokevirtual 110, 3) := by decide +kernel
theorem dK_improve_63 : decode cK_improve 63 = .ok (.pop2, 1) := by decide +kernel
theorem dK_improve_64 : decode cK_improve 64 = .ok (.return_, 1) := by decide +kernel
abbrev cK_shared : ByteArray := prog_3_method_10_code
abbrev yK_shared : MethodName := ⟨"WholeDesk$Reckoner", "shared", "(LWholeDesk$Whole;LWholeDesk$Whole;)LWholeDesk$Whole;"⟩
theorem qK_shared : yK_shared.cls ≠ "java/lang/invoke/MethodHandle" ∧ yK_shared.cls ≠ "java/lang/invoke/VarHandle" ∧ (parseMethodDescriptor yK_shared.desc).map (fun d => d.parameters.length) = some 2 := by decide +kernel
theorem dK_shared_0 : decode cK_shared 0 = .ok (.aload_n 0, 1) := by decide +kernel
theorem dK_shared_1 : decode cK_shared 1 = .ok (.getfield 27, 3) := by decide +kernel
theorem dK_shared_4 : decode cK_shared 4 = .ok (.astore_n 3, 1) := by decide +kernel
theorem dK_shared_5 : decode cK_shared 5 = .ok (.aload_n 0, 1) := by decide +kernel
theorem dK_shared_6 : decode cK_shared 6 = .ok (.getfield 30, 3) := by decide +kernel
theorem dK_shared_9 : decode cK_shared 9 = .ok (.astore 4, 2) := by decide +kernel
theorem dK_shared_11 : decode cK_shared 11 = .ok (.aload_n 3, 1) := by decide +kernel
theorem dK_shared_12 : decode cK_shared 12 = .ok (.aload_n 1, 1) := by decide +kernel
theorem dK_shared_13 : decode cK_shared 13 = .ok (.invokevirtual 47, 3) := by decide +kernel
theorem dK_shared_16 : decode cK_shared 16 = .ok (.aload 4, 2) := by decide +kernel
theorem dK_shared_18 : decode cK_shared 18 = .ok (.aload_n 2, 1) := by decide +kernel
theorem dK_shared_19 : decode cK_shared 19 = .ok (.invokevirtual 47, 3) := by decide +kernel
theorem dK_shared_22 : decode cK_shared 22 = .ok (.iconst 0, 1) := by decide +kernel
theorem dK_shared_23 : decode cK_shared 23 = .ok (.istore 5, 2) := by decide +kernel
theorem dK_shared_25 : decode cK_shared 25 = .ok (.iload 5, 2) := by decide +kernel
theorem dK_shared_27 : decode cK_shared 27 = .ok (.sipush 4096, 3) := by decide +kernel
theorem dK_shared_30 : decode cK_shared 30 = .ok (.if_icmp .ge 37, 3) := by decide +kernel
theorem dK_shared_33 : decode cK_shared 33 = .ok (.aload 4, 2) := by decide +kernel
theorem dK_shared_35 : decode cK_shared 35 = .ok (.getfield 51, 3) := by decide +kernel
theorem dK_shared_38 : decode cK_shared 38 = .ok (.ifCond .le 29, 3) := by decide +kernel
theorem dK_shared_41 : decode cK_shared 41 = .ok (.aload_n 3, 1) := by decide +kernel
theorem dK_shared_42 : decode cK_shared 42 = .ok (.aload 4, 2) := by decide +kernel
theorem dK_shared_44 : decode cK_shared 44 = .ok (.aload_n 0, 1) := by decide +kernel
theorem dK_shared_45 : decode cK_shared 45 = .ok (.getfield 12, 3) := by decide +kernel
theorem dK_shared_48 : decode cK_shared 48 = .ok (.invokevirtual 85, 3) := by decide +kernel
theorem dK_shared_51 : decode cK_shared 51 = .ok (.aload_n 3, 1) := by decide +kernel
theorem dK_shared_52 : decode cK_shared 52 = .ok (.astore 6, 2) := by decide +kernel
theorem dK_shared_54 : decode cK_shared 54 = .ok (.aload 4, 2) := by decide +kernel
theorem dK_shared_56 : decode cK_shared 56 = .ok (.astore_n 3, 1) := by decide +kernel
theorem dK_shared_57 : decode cK_shared 57 = .ok (.aload 6, 2) := by decide +kernel
theorem dK_shared_59 : decode cK_shared 59 = .ok (.astore 4, 2) := by decide +kernel
theorem dK_shared_61 : decode cK_shared 61 = .ok (.iinc 5 1, 3) := by decide +kernel
theorem dK_shared_64 : decode cK_shared 64 = .ok (.goto (-39), 3) := by decide +kernel
theorem dK_shared_67 : decode cK_shared 67 = .ok (.aload_n 3, 1) := by decide +kernel
theorem dK_shared_68 : decode cK_shared 68 = .ok (.iconst 0, 1) := by decide +kernel
theorem dK_shared_69 : decode cK_shared 69 = .ok (.putfield 43, 3) := by decide +kernel
theorem dK_shared_72 : decode cK_shared 72 = .ok (.aload_n 3, 1) := by decide +kernel
theorem dK_shared_73 : decode cK_shared 73 = .ok (.areturn, 1) := by decide +kernel
abbrev cK_inverted : ByteArray := prog_3_method_11_code
abbrev yK_inverted : MethodName := ⟨"WholeDesk$Reckoner", "inverted", "(LWholeDesk$Whole;LWholeDesk$Whole;)LWholeDesk$Whole;"⟩
theorem qK_inverted : yK_inverted.cls ≠ "java/lang/invoke/MethodHandle" ∧ yK_inverted.cls ≠ "java/lang/invoke/VarHandle" ∧ (parseMethodDescriptor yK_inverted.desc).map (fun d => d.parameters.length) = some 2 := by decide +kernel
theorem dK_inverted_0 : decode cK_inverted 0 = .ok (.aload_n 0, 1) := by decide +kernel
theorem dK_inverted_1 : decode cK_inverted 1 = .ok (.getfield 27, 3) := by decide +kernel
theorem dK_inverted_4 : decode cK_inverted 4 = .ok (.astore_n 3, 1) := by decide +kernel
theorem dK_inverted_5 : decode cK_inverted 5 = .ok (.aload_n 0, 1) := by decide +kernel
theorem dK_inverted_6 : decode cK_inverted 6 = .ok (.getfield 30, 3) := by decide +kernel
theorem dK_inverted_9 : decode cK_inverted 9 = .ok (.astore 4, 2) := by decide +kernel
theorem dK_inverted_11 : decode cK_inverted 11 = .ok (.aload_n 0, 1) := by decide +kernel
theorem dK_inverted_12 : decode cK_inverted 12 = .ok (.getfield 33, 3) := by decide +kernel
theorem dK_inverted_15 : decode cK_inverted 15 = .ok (.astore 5, 2) := by decide +kernel
theorem dK_inverted_17 : decode cK_inverted 17 = .ok (.aload_n 0, 1) := by decide +kernel
theorem dK_inverted_18 : decode cK_inverted 18 = .ok (.getfield 36, 3) := by decide +kernel
theorem dK_inverted_21 : decode cK_inverted 21 = .ok (.astore 6, 2) := by decide +kernel
theorem dK_inverted_23 : decode cK_inverted 23 = .ok (.aload_n 3, 1) := by decide +kernel
theorem dK_inverted_24 : decode cK_inverted 24 = .ok (.aload_n 2, 1) := by decide +kernel
theorem dK_inverted_25 : decode cK_inverted 25 = .ok (.invokevirtual 47, 3) := by decide +kernel
theorem dK_inverted_28 : decode cK_inverted 28 = .ok (.aload 4, 2) := by decide +kernel
theorem dK_inverted_30 : decode cK_inverted 30 = .ok (.aload_n 0, 1) := by decide +kernel
theorem dK_inverted_31 : decode cK_inverted 31 = .ok (.aload_n 1, 1) := by decide +kernel
theorem dK_inverted_32 : decode cK_inverted 32 = .ok (.aload_n 2, 1) := by decide +kernel
theorem dK_inverted_33 : decode cK_inverted 33 = .ok (.invokevirtual 114, 3) := by decide +kernel
theorem dK_inverted_36 : decode cK_inverted 36 = .ok (.invokevirtual 47, 3) := by decide +kernel
theorem dK_inverted_39 : decode cK_inverted 39 = .ok (.aload 5, 2) := by decide +kernel
theorem dK_inverted_41 : decode cK_inverted 41 = .ok (.lconst 0, 1) := by decide +kernel
theorem dK_inverted_42 : decode cK_inverted 42 = .ok (.invokevirtual 88, 3) := by decide +kernel
theorem dK_inverted_45 : decode cK_inverted 45 = .ok (.aload 6, 2) := by decide +kernel
theorem dK_inverted_47 : decode cK_inverted 47 = .ok (.lconst 1, 1) := by decide +kernel
theorem dK_inverted_48 : decode cK_inverted 48 = .ok (.invokevirtual 88, 3) := by decide +kernel
theorem dK_inverted_51 : decode cK_inverted 51 = .ok (.iconst 1, 1) := by decide +kernel
theorem dK_inverted_52 : decode cK_inverted 52 = .ok (.istore 7, 2) := by decide +kernel
theorem dK_inverted_54 : decode cK_inverted 54 = .ok (.iconst 0, 1) := by decide +kernel
theorem dK_inverted_55 : decode cK_inverted 55 = .ok (.istore 8, 2) := by decide +kernel
theorem dK_inverted_57 : decode cK_inverted 57 = .ok (.iload 8, 2) := by decide +kernel
theorem dK_inverted_59 : decode cK_inverted 59 = .ok (.sipush 4096, 3) := by decide +kernel
theorem dK_inverted_62 : decode cK_inverted 62 = .ok (.if_icmp .ge 72, 3) := by decide +kernel
theorem dK_inverted_65 : decode cK_inverted 65 = .ok (.aload 4, 2) := by decide +kernel
theorem dK_inverted_67 : decode cK_inverted 67 = .ok (.getfield 51, 3) := by decide +kernel
theorem dK_inverted_70 : decode cK_inverted 70 = .ok (.ifCond .le 64, 3) := by decide +kernel
theorem dK_inverted_73 : decode cK_inverted 73 = .ok (.aload_n 3, 1) := by decide +kernel
theorem dK_inverted_74 : decode cK_inverted 74 = .ok (.aload 4, 2) := by decide +kernel
theorem dK_inverted_76 : decode cK_inverted 76 = .ok (.aload_n 0, 1) := by decide +kernel
theorem dK_inverted_77 : decode cK_inverted 77 = .ok (.getfield 12, 3) := by decide +kernel
theorem dK_inverted_80 : decode cK_inverted 80 = .ok (.invokevirtual 85, 3) := by decide +kernel
theorem dK_inverted_83 : decode cK_inverted 83 = .ok (.aload 5, 2) := by decide +kernel
theorem dK_inverted_85 : decode cK_inverted 85 = .ok (.aload_n 0, 1) := by decide +kernel
theorem dK_inverted_86 : decode cK_inverted 86 = .ok (.getfield 12, 3) := by decide +kernel
theorem dK_inverted_89 : decode cK_inverted 89 = .ok (.aload 6, 2) := by decide +kernel
theorem dK_inverted_91 : decode cK_inverted 91 = .ok (.invokevirtual 118, 3) := by decide +kernel
theorem dK_inverted_94 : decode cK_inverted 94 = .ok (.aload_n 3, 1) := by decide +kernel
theorem dK_inverted_95 : decode cK_inverted 95 = .ok (.astore 9, 2) := by decide +kernel
theorem dK_inverted_97 : decode cK_inverted 97 = .ok (.aload 4, 2) := by decide +kernel
theorem dK_inverted_99 : decode cK_inverted 99 = .ok (.astore_n 3, 1) := by decide +kernel
theorem dK_inverted_100 : decode cK_inverted 100 = .ok (.aload 9, 2) := by decide +kernel
theorem dK_inverted_102 : decode cK_inverted 102 = .ok (.astore 4, 2) := by decide +kernel
theorem dK_inverted_104 : decode cK_inverted 104 = .ok (.aload 5, 2) := by decide +kernel
theorem dK_inverted_106 : decode cK_inverted 106 = .ok (.astore 10, 2) := by decide +kernel
theorem dK_inverted_108 : decode cK_inverted 108 = .ok (.aload 6, 2) := by decide +kernel
theorem dK_inverted_110 : decode cK_inverted 110 = .ok (.astore 5, 2) := by decide +kernel
theorem dK_inverted_112 : decode cK_inverted 112 = .ok (.aload 10, 2) := by decide +kernel
theorem dK_inverted_114 : decode cK_inverted 114 = .ok (.astore 6, 2) := by decide +kernel
theorem dK_inverted_116 : decode cK_inverted 116 = .ok (.iload 7, 2) := by decide +kernel
theorem dK_inverted_118 : decode cK_inverted 118 = .ok (.ifCond .ne 7, 3) := by decide +kernel
theorem dK_inverted_121 : decode cK_inverted 121 = .ok (.iconst 1, 1) := by decide +kernel
theorem dK_inverted_122 : decode cK_inverted 122 = .ok (.goto 4, 3) := by decide +kernel
theorem dK_inverted_125 : decode cK_inverted 125 = .ok (.iconst 0, 1) := by decide +kernel
theorem dK_inverted_126 : decode cK_inverted 126 = .ok (.istore 7, 2) := by decide +kernel
theorem dK_inverted_128 : decode cK_inverted 128 = .ok (.iinc 8 1, 3) := by decide +kernel
theorem dK_inverted_131 : decode cK_inverted 131 = .ok (.goto (-74), 3) := by decide +kernel
theorem dK_inverted_134 : decode cK_inverted 134 = .ok (.aload_n 3, 1) := by decide +kernel
theorem dK_inverted_135 : decode cK_inverted 135 = .ok (.invokevirtual 121, 3) := by decide +kernel
theorem dK_inverted_138 : decode cK_inverted 138 = .ok (.ifCond .ne 13, 3) := by decide +kernel
theorem dK_inverted_141 : decode cK_inverted 141 = .ok (.new 125, 3) := by decide +kernel
theorem dK_inverted_144 : decode cK_inverted 144 = .ok (.dup, 1) := by decide +kernel
theorem dK_inverted_145 : decode cK_inverted 145 = .ok (.ldc 127, 2) := by decide +kernel
theorem dK_inverted_147 : decode cK_inverted 147 = .ok (.invokespecial 129, 3) := by decide +kernel
theorem dK_inverted_150 : decode cK_inverted 150 = .ok (.athrow, 1) := by decide +kernel
theorem dK_inverted_151 : decode cK_inverted 151 = .ok (.iload 7, 2) := by decide +kernel
theorem dK_inverted_153 : decode cK_inverted 153 = .ok (.ifCond .eq 17, 3) := by decide +kernel
theorem dK_inverted_156 : decode cK_inverted 156 = .ok (.aload 5, 2) := by decide +kernel
theorem dK_inverted_158 : decode cK_inverted 158 = .ok (.getfield 51, 3) := by decide +kernel
theorem dK_inverted_161 : decode cK_inverted 161 = .ok (.ifCond .le 9, 3) := by decide +kernel
theorem dK_inverted_164 : decode cK_inverted 164 = .ok (.aload 5, 2) := by decide +kernel
theorem dK_inverted_166 : decode cK_inverted 166 = .ok (.aload_n 2, 1) := by decide +kernel
theorem dK_inverted_167 : decode cK_inverted 167 = .ok (.invokevirtual 75, 3) := by decide +kernel
theorem dK_inverted_170 : decode cK_inverted 170 = .ok (.aload 5, 2) := by decide +kernel
theorem dK_inverted_172 : decode cK_inverted 172 = .ok (.areturn, 1) := by decide +kernel
abbrev cK_raisedModulo : ByteArray := prog_3_method_12_code
abbrev yK_raisedModulo : MethodName := ⟨"WholeDesk$Reckoner", "raisedModulo", "(LWholeDesk$Whole;LWholeDesk$Whole;LWholeDesk$Whole;)LWholeDesk$Whole;"⟩
theorem qK_raisedModulo : yK_raisedModulo.cls ≠ "java/lang/invoke/MethodHandle" ∧ yK_raisedModulo.cls ≠ "java/lang/invoke/VarHandle" ∧ (parseMethodDescriptor yK_raisedModulo.desc).map (fun d => d.parameters.length) = some 3 := by decide +kernel
theorem dK_raisedModulo_0 : decode cK_raisedModulo 0 = .ok (.aload_n 0, 1) := by decide +kernel
theorem dK_raisedModulo_1 : decode cK_raisedModulo 1 = .ok (.aload_n 2, 1) := by decide +kernel
theorem dK_raisedModulo_2 : decode cK_raisedModulo 2 = .ok (.getfield 43, 3) := by decide +kernel
theorem dK_raisedModulo_5 : decode cK_raisedModulo 5 = .ok (.ifCond .eq 12, 3) := by decide +kernel
theorem dK_raisedModulo_8 : decode cK_raisedModulo 8 = .ok (.aload_n 0, 1) := by decide +kernel
theorem dK_raisedModulo_9 : decode cK_raisedModulo 9 = .ok (.aload_n 1, 1) := by decide +kernel
theorem dK_raisedModulo_10 : decode cK_raisedModulo 10 = .ok (.aload_n 3, 1) := by decide +kernel
theorem dK_raisedModulo_11 : decode cK_raisedModulo 11 = .ok (.invokevirtual 132, 3) := by decide +kernel
theorem dK_raisedModulo_14 : decode cK_raisedModulo 14 = .ok (.goto 9, 3) := by decide +kernel
theorem dK_raisedModulo_17 : decode cK_raisedModulo 17 = .ok (.aload_n 0, 1) := by decide +kernel
theorem dK_raisedModulo_18 : decode cK_raisedModulo 18 = .ok (.aload_n 1, 1) := by decide +kernel
theorem dK_raisedModulo_19 : decode cK_raisedModulo 19 = .ok (.aload_n 3, 1) := by decide +kernel
theorem dK_raisedModulo_20 : decode cK_raisedModulo 20 = .ok (.invokevirtual 114, 3) := by decide +kernel
theorem dK_raisedModulo_23 : decode cK_raisedModulo 23 = .ok (.aload_n 3, 1) := by decide +kernel
theorem dK_raisedModulo_24 : decode cK_raisedModulo 24 = .ok (.invokevirtual 135, 3) := by decide +kernel
theorem dK_raisedModulo_27 : decode cK_raisedModulo 27 = .ok (.aload_n 0, 1) := by decide +kernel
theorem dK_raisedModulo_28 : decode cK_raisedModulo 28 = .ok (.getfield 21, 3) := by decide +kernel
theorem dK_raisedModulo_31 : decode cK_raisedModulo 31 = .ok (.aload_n 0, 1) := by decide +kernel
theorem dK_raisedModulo_32 : decode cK_raisedModulo 32 = .ok (.getfield 39, 3) := by decide +kernel
theorem dK_raisedModulo_35 : decode cK_raisedModulo 35 = .ok (.iconst 0, 1) := by decide +kernel
theorem dK_raisedModulo_36 : decode cK_raisedModulo 36 = .ok (.aaload, 1) := by decide +kernel
theorem dK_raisedModulo_37 : decode cK_raisedModulo 37 = .ok (.invokevirtual 47, 3) := by decide +kernel
theorem dK_raisedModulo_40 : decode cK_raisedModulo 40 = .ok (.aload_n 2, 1) := by decide +kernel
theorem dK_raisedModulo_41 : decode cK_raisedModulo 41 = .ok (.getfield 51, 3) := by decide +kernel
theorem dK_raisedModulo_44 : decode cK_raisedModulo 44 = .ok (.iconst 1, 1) := by decide +kernel
theorem dK_raisedModulo_45 : decode cK_raisedModulo 45 = .ok (.isub, 1) := by decide +kernel
theorem dK_raisedModulo_46 : decode cK_raisedModulo 46 = .ok (.istore 4, 2) := by decide +kernel
theorem dK_raisedModulo_48 : decode cK_raisedModulo 48 = .ok (.iload 4, 2) := by decide +kernel
theorem dK_raisedModulo_50 : decode cK_raisedModulo 50 = .ok (.ifCond .lt 80, 3) := by decide +kernel
theorem dK_raisedModulo_53 : decode cK_raisedModulo 53 = .ok (.bipush 24, 2) := by decide +kernel
theorem dK_raisedModulo_55 : decode cK_raisedModulo 55 = .ok (.istore 5, 2) := by decide +kernel
theorem dK_raisedModulo_57 : decode cK_raisedModulo 57 = .ok (.iload 5, 2) := by decide +kernel
theorem dK_raisedModulo_59 : decode cK_raisedModulo 59 = .ok (.ifCond .lt 65, 3) := by decide +kernel
theorem dK_raisedModulo_62 : decode cK_raisedModulo 62 = .ok (.iconst 0, 1) := by decide +kernel
theorem dK_raisedModulo_63 : decode cK_raisedModulo 63 = .ok (.istore 6, 2) := by decide +kernel
theorem dK_raisedModulo_65 : decode cK_raisedModulo 65 = .ok (.iload 6, 2) := by decide +kernel
theorem dK_raisedModulo_67 : decode cK_raisedModulo 67 = .ok (.iconst 4, 1) := by decide +kernel
theorem dK_raisedModulo_68 : decode cK_raisedModulo 68 = .ok (.if_icmp .ge 18, 3) := by decide +kernel
theorem dK_raisedModulo_71 : decode cK_raisedModulo 71 = .ok (.aload_n 0, 1) := by decide +kernel
theorem dK_raisedModulo_72 : decode cK_raisedModulo 72 = .ok (.aload_n 0, 1) := by decide +kernel
theorem dK_raisedModulo_73 : decode cK_raisedModulo 73 = .ok (.getfield 21, 3) := by decide +kernel
theorem dK_raisedModulo_76 : decode cK_raisedModulo 76 = .ok (.aload_n 3, 1) := by decide +kernel
theorem dK_raisedModulo_77 : decode cK_raisedModulo 77 = .ok (.invokevirtual 138, 3) := by decide +kernel
theorem dK_raisedModulo_80 : decode cK_raisedModulo 80 = .ok (.iinc 6 1, 3) := by decide +kernel
theorem dK_raisedModulo_83 : decode cK_raisedModulo 83 = .ok (.goto (-18), 3) := by decide +kernel
theorem dK_raisedModulo_86 : decode cK_raisedModulo 86 = .ok (.aload_n 2, 1) := by decide +kernel
theorem dK_raisedModulo_87 : decode cK_raisedModulo 87 = .ok (.iload 4, 2) := by decide +kernel
theorem dK_raisedModulo_89 : decode cK_raisedModulo 89 = .ok (.invokevirtual 141, 3) := by decide +kernel
theorem dK_raisedModulo_92 : decode cK_raisedModulo 92 = .ok (.iload 5, 2) := by decide +kernel
theorem dK_raisedModulo_94 : decode cK_raisedModulo 94 = .ok (.lushr, 1) := by decide +kernel
theorem dK_raisedModulo_95 : decode cK_raisedModulo 95 = .ok (.l2i, 1) := by decide +kernel
theorem dK_raisedModulo_96 : decode cK_raisedModulo 96 = .ok (.bipush 15, 2) := by decide +kernel
theorem dK_raisedModulo_98 : decode cK_raisedModulo 98 = .ok (.iand, 1) := by decide +kernel
theorem dK_raisedModulo_99 : decode cK_raisedModulo 99 = .ok (.istore 6, 2) := by decide +kernel
theorem dK_raisedModulo_101 : decode cK_raisedModulo 101 = .ok (.iload 6, 2) := by decide +kernel
theorem dK_raisedModulo_103 : decode cK_raisedModulo 103 = .ok (.ifCond .eq 15, 3) := by decide +kernel
theorem dK_raisedModulo_106 : decode cK_raisedModulo 106 = .ok (.aload_n 0, 1) := by decide +kernel
theorem dK_raisedModulo_107 : decode cK_raisedModulo 107 = .ok (.aload_n 0, 1) := by decide +kernel
theorem dK_raisedModulo_108 : decode cK_raisedModulo 108 = .ok (.getfield 39, 3) := by decide +kernel
theorem dK_raisedModulo_111 : decode cK_raisedModulo 111 = .ok (.iload 6, 2) := by decide +kernel
theorem dK_raisedModulo_113 : decode cK_raisedModulo 113 = .ok (.aaload, 1) := by decide +kernel
theorem dK_raisedModulo_114 : decode cK_raisedModulo 114 = .ok (.aload_n 3, 1) := by decide +kernel
theorem dK_raisedModulo_115 : decode cK_raisedModulo 115 = .ok (.invokevirtual 138, 3) := by decide +kernel
theorem dK_raisedModulo_118 : decode cK_raisedModulo 118 = .ok (.iinc 5 (-4), 3) := by decide +kernel
theorem dK_raisedModulo_121 : decode cK_raisedModulo 121 = .ok (.goto (-64), 3) := by decide +kernel
theorem dK_raisedModulo_124 : decode cK_raisedModulo 124 = .ok (.iinc 4 (-1), 3) := by decide +kernel
theorem dK_raisedModulo_127 : decode cK_raisedModulo 127 = .ok (.goto (-79), 3) := by decide +kernel
theorem dK_raisedModulo_130 : decode cK_raisedModulo 130 = .ok (.aload_n 0, 1) := by decide +kernel
theorem dK_raisedModulo_131 : decode cK_raisedModulo 131 = .ok (.getfield 21, 3) := by decide +kernel
theorem dK_raisedModulo_134 : decode cK_raisedModulo 134 = .ok (.areturn, 1) := by decide +kernel
abbrev cK_fillPowers : ByteArray := prog_3_method_13_code
abbrev yK_fillPowers : MethodName := ⟨"WholeDesk$Reckoner", "fillPowers", "(LWholeDesk$Whole;LWholeDesk$Whole;)V"⟩
theorem qK_fillPowers : yK_fillPowers.cls ≠ "java/lang/invoke/MethodHandle" ∧ yK_fillPowers.cls ≠ "java/lang/invoke/VarHandle" ∧ (parseMethodDescriptor yK_fillPowers.desc).map (fun d => d.parameters.length) = some 2 := by decide +kernel
theorem dK_fillPowers_0 : decode cK_fillPowers 0 = .ok (.aload_n 0, 1) := by decide +kernel
theorem dK_fillPowers_1 : decode cK_fillPowers 1 = .ok (.getfield 27, 3) := by decide +kernel
theorem dK_fillPowers_4 : decode cK_fillPowers 4 = .ok (.aload_n 1, 1) := by decide +kernel
theorem dK_fillPowers_5 : decode cK_fillPowers 5 = .ok (.invokevirtual 47, 3) := by decide +kernel
theorem dK_fillPowers_8 : decode cK_fillPowers 8 = .ok (.aload_n 0, 1) := by decide +kernel
theorem dK_fillPowers_9 : decode cK_fillPowers 9 = .ok (.getfield 21, 3) := by decide +kernel
theorem dK_fillPowers_12 : decode cK_fillPowers 12 = .ok (.lconst 1, 1) := by decide +kernel
theorem dK_fillPowers_13 : decode cK_fillPowers 13 = .ok (.invokevirtual 88, 3) := by decide +kernel
theorem dK_fillPowers_16 : decode cK_fillPowers 16 = .ok (.aload_n 0, 1) := by decide +kernel
theorem dK_fillPowers_17 : decode cK_fillPowers 17 = .ok (.getfield 21, 3) := by decide +kernel
theorem dK_fillPowers_20 : decode cK_fillPowers 20 = .ok (.aload_n 2, 1) := by decide +kernel
theorem dK_fillPowers_21 : decode cK_fillPowers 21 = .ok (.aload_n 0, 1) := by decide +kernel
theorem dK_fillPowers_22 : decode cK_fillPowers 22 = .ok (.getfield 12, 3) := by decide +kernel
theorem dK_fillPowers_25 : decode cK_fillPowers 25 = .ok (.invokevirtual 85, 3) := by decide +kernel
theorem dK_fillPowers_28 : decode cK_fillPowers 28 = .ok (.aload_n 0, 1) := by decide +kernel
theorem dK_fillPowers_29 : decode cK_fillPowers 29 = .ok (.getfield 39, 3) := by decide +kernel
theorem dK_fillPowers_32 : decode cK_fillPowers 32 = .ok (.iconst 0, 1) := by decide +kernel
theorem dK_fillPowers_33 : decode cK_fillPowers 33 = .ok (.aaload, 1) := by decide +kernel
theorem dK_fillPowers_34 : decode cK_fillPowers 34 = .ok (.aload_n 0, 1) := by decide +kernel
theorem dK_fillPowers_35 : decode cK_fillPowers 35 = .ok (.getfield 21, 3) := by decide +kernel
theorem dK_fillPowers_38 : decode cK_fillPowers 38 = .ok (.invokevirtual 47, 3) := by decide +kernel
theorem dK_fillPowers_41 : decode cK_fillPowers 41 = .ok (.iconst 1, 1) := by decide +kernel
theorem dK_fillPowers_42 : decode cK_fillPowers 42 = .ok (.istore_n 3, 1) := by decide +kernel
theorem dK_fillPowers_43 : decode cK_fillPowers 43 = .ok (.iload_n 3, 1) := by decide +kernel
theorem dK_fillPowers_44 : decode cK_fillPowers 44 = .ok (.bipush 16, 2) := by decide +kernel
theorem dK_fillPowers_46 : decode cK_fillPowers 46 = .ok (.if_icmp .ge 31, 3) := by decide +kernel
theorem dK_fillPowers_49 : decode cK_fillPowers 49 = .ok (.aload_n 0, 1) := by decide +kernel
theorem dK_fillPowers_50 : decode cK_fillPowers 50 = .ok (.aload_n 0, 1) := by decide +kernel
theorem dK_fillPowers_51 : decode cK_fillPowers 51 = .ok (.getfield 27, 3) := by decide +kernel
theorem dK_fillPowers_54 : decode cK_fillPowers 54 = .ok (.aload_n 2, 1) := by decide +kernel
theorem dK_fillPowers_55 : decode cK_fillPowers 55 = .ok (.invokevirtual 138, 3) := by decide +kernel
theorem dK_fillPowers_58 : decode cK_fillPowers 58 = .ok (.aload_n 0, 1) := by decide +kernel
theorem dK_fillPowers_59 : decode cK_fillPowers 59 = .ok (.getfield 39, 3) := by decide +kernel
theorem dK_fillPowers_62 : decode cK_fillPowers 62 = .ok (.iload_n 3, 1) := by decide +kernel
theorem dK_fillPowers_63 : decode cK_fillPowers 63 = .ok (.aaload, 1) := by decide +kernel
theorem dK_fillPowers_64 : decode cK_fillPowers 64 = .ok (.aload_n 0, 1) := by decide +kernel
theorem dK_fillPowers_65 : decode cK_fillPowers 65 = .ok (.getfield 21, 3) := by decide +kernel
theorem dK_fillPowers_68 : decode cK_fillPowers 68 = .ok (.invokevirtual 47, 3) := by decide +kernel
theorem dK_fillPowers_71 : decode cK_fillPowers 71 = .ok (.iinc 3 1, 3) := by decide +kernel
theorem dK_fillPowers_74 : decode cK_fillPowers 74 = .ok (.goto (-31), 3) := by decide +kernel
theorem dK_fillPowers_77 : decode cK_fillPowers 77 = .ok (.return_, 1) := by decide +kernel
abbrev cK_timesModulo : ByteArray := prog_3_method_14_code
abbrev yK_timesModulo : MethodName := ⟨"WholeDesk$Reckoner", "timesModulo", "(LWholeDesk$Whole;LWholeDesk$Whole;)V"⟩
theorem qK_timesModulo : yK_timesModulo.cls ≠ "java/lang/invoke/MethodHandle" ∧ yK_timesModulo.cls ≠ "java/lang/invoke/VarHandle" ∧ (parseMethodDescriptor yK_timesModulo.desc).map (fun d => d.parameters.length) = some 2 := by decide +kernel
theorem dK_timesModulo_0 : decode cK_timesModulo 0 = .ok (.aload_n 0, 1) := by decide +kernel
theorem dK_timesModulo_1 : decode cK_timesModulo 1 = .ok (.aload_n 1, 1) := by decide +kernel
theorem dK_timesModulo_2 : decode cK_timesModulo 2 = .ok (.invokevirtual 92, 3) := by decide +kernel
theorem dK_timesModulo_5 : decode cK_timesModulo 5 = .ok (.aload_n 0, 1) := by decide +kernel
theorem dK_timesModulo_6 : decode cK_timesModulo 6 = .ok (.getfield 21, 3) := by decide +kernel
theorem dK_timesModulo_9 : decode cK_timesModulo 9 = .ok (.aload_n 2, 1) := by decide +kernel
theorem dK_timesModulo_10 : decode cK_timesModulo 10 = .ok (.aload_n 0, 1) := by decide +kernel
theorem dK_timesModulo_11 : decode cK_timesModulo 11 = .ok (.getfield 12, 3) := by decide +kernel
theorem dK_timesModulo_14 : decode cK_timesModulo 14 = .ok (.invokevirtual 85, 3) := by decide +kernel
theorem dK_timesModulo_17 : decode cK_timesModulo 17 = .ok (.return_, 1) := by decide +kernel
abbrev cK_combined : ByteArray := prog_3_method_15_code
abbrev yK_combined : MethodName := ⟨"WholeDesk$Reckoner", "combined", "(LWholeDesk$Whole;LWholeDesk$Whole;I)LWholeDesk$Whole;"⟩
theorem qK_combined : yK_combined.cls ≠ "java/lang/invoke/MethodHandle" ∧ yK_combined.cls ≠ "java/lang/invoke/VarHandle" ∧ (parseMethodDescriptor yK_combined.desc).map (fun d => d.parameters.length) = some 3 := by decide +kernel
theorem dK_combined_0 : decode cK_combined 0 = .ok (.aload_n 1, 1) := by decide +kernel
theorem dK_combined_1 : decode cK_combined 1 = .ok (.getfield 51, 3) := by decide +kernel
theorem dK_combined_4 : decode cK_combined 4 = .ok (.aload_n 2, 1) := by decide +kernel
theorem dK_combined_5 : decode cK_combined 5 = .ok (.getfield 51, 3) := by decide +kernel
theorem dK_combined_8 : decode cK_combined 8 = .ok (.invokestatic 55, 3) := by decide +kernel
theorem dK_combined_11 : decode cK_combined 11 = .ok (.istore 4, 2) := by decide +kernel
theorem dK_combined_13 : decode cK_combined 13 = .ok (.aload_n 1, 1) := by decide +kernel
theorem dK_combined_14 : decode cK_combined 14 = .ok (.iload 4, 2) := by decide +kernel
theorem dK_combined_16 : decode cK_combined 16 = .ok (.iconst 1, 1) := by decide +kernel
theorem dK_combined_17 : decode cK_combined 17 = .ok (.iadd, 1) := by decide +kernel
theorem dK_combined_18 : decode cK_combined 18 = .ok (.aload_n 0, 1) := by decide +kernel
theorem dK_combined_19 : decode cK_combined 19 = .ok (.getfield 21, 3) := by decide +kernel
theorem dK_combined_22 : decode cK_combined 22 = .ok (.invokestatic 145, 3) := by decide +kernel
theorem dK_combined_25 : decode cK_combined 25 = .ok (.aload_n 2, 1) := by decide +kernel
theorem dK_combined_26 : decode cK_combined 26 = .ok (.iload 4, 2) := by decide +kernel
theorem dK_combined_28 : decode cK_combined 28 = .ok (.iconst 1, 1) := by decide +kernel
theorem dK_combined_29 : decode cK_combined 29 = .ok (.iadd, 1) := by decide +kernel
theorem dK_combined_30 : decode cK_combined 30 = .ok (.aload_n 0, 1) := by decide +kernel
theorem dK_combined_31 : decode cK_combined 31 = .ok (.getfield 24, 3) := by decide +kernel
theorem dK_combined_34 : decode cK_combined 34 = .ok (.invokestatic 145, 3) := by decide +kernel
theorem dK_combined_37 : decode cK_combined 37 = .ok (.iconst 0, 1) := by decide +kernel
theorem dK_combined_38 : decode cK_combined 38 = .ok (.istore 5, 2) := by decide +kernel
theorem dK_combined_40 : decode cK_combined 40 = .ok (.iload 5, 2) := by decide +kernel
theorem dK_combined_42 : decode cK_combined 42 = .ok (.aload_n 0, 1) := by decide +kernel
theorem dK_combined_43 : decode cK_combined 43 = .ok (.getfield 21, 3) := by decide +kernel
theorem dK_combined_46 : decode cK_combined 46 = .ok (.getfield 51, 3) := by decide +kernel
theorem dK_combined_49 : decode cK_combined 49 = .ok (.if_icmp .ge 42, 3) := by decide +kernel
theorem dK_combined_52 : decode cK_combined 52 = .ok (.aload_n 0, 1) := by decide +kernel
theorem dK_combined_53 : decode cK_combined 53 = .ok (.getfield 21, 3) := by decide +kernel
theorem dK_combined_56 : decode cK_combined 56 = .ok (.getfield 149, 3) := by decide +kernel
theorem dK_combined_59 : decode cK_combined 59 = .ok (.iload 5, 2) := by decide +kernel
theorem dK_combined_61 : decode cK_combined 61 = .ok (.aload_n 0, 1) := by decide +kernel
theorem dK_combined_62 : decode cK_combined 62 = .ok (.getfield 21, 3) := by decide +kernel
theorem dK_combined_65 : decode cK_combined 65 = .ok (.getfield 149, 3) := by decide +kernel
theorem dK_combined_68 : decode cK_combined 68 = .ok (.iload 5, 2) := by decide +kernel
theorem dK_combined_70 : decode cK_combined 70 = .ok (.laload, 1) := by decide +kernel
theorem dK_combined_71 : decode cK_combined 71 = .ok (.aload_n 0, 1) := by decide +kernel
theorem dK_combined_72 : decode cK_combined 72 = .ok (.getfield 24, 3) := by decide +kernel
theorem dK_combined_75 : decode cK_combined 75 = .ok (.iload 5, 2) := by decide +kernel
theorem dK_combined_77 : decode cK_combined 77 = .ok (.invokevirtual 141, 3) := by decide +kernel
theorem dK_combined_80 : decode cK_combined 80 = .ok (.iload_n 3, 1) := by decide +kernel
theorem dK_combined_81 : decode cK_combined 81 = .ok (.invokestatic 153, 3) := by decide +kernel
theorem dK_combined_84 : decode cK_combined 84 = .ok (.lastore, 1) := by decide +kernel
theorem dK_combined_85 : decode cK_combined 85 = .ok (.iinc 5 1, 3) := by decide +kernel
theorem dK_combined_88 : decode cK_combined 88 = .ok (.goto (-48), 3) := by decide +kernel
theorem dK_combined_91 : decode cK_combined 91 = .ok (.aload_n 0, 1) := by decide +kernel
theorem dK_combined_92 : decode cK_combined 92 = .ok (.getfield 21, 3) := by decide +kernel
theorem dK_combined_95 : decode cK_combined 95 = .ok (.aload_n 0, 1) := by decide +kernel
theorem dK_combined_96 : decode cK_combined 96 = .ok (.getfield 21, 3) := by decide +kernel
theorem dK_combined_99 : decode cK_combined 99 = .ok (.iload 4, 2) := by decide +kernel
theorem dK_combined_101 : decode cK_combined 101 = .ok (.invokevirtual 141, 3) := by decide +kernel
theorem dK_combined_104 : decode cK_combined 104 = .ok (.lconst 0, 1) := by decide +kernel
theorem dK_combined_105 : decode cK_combined 105 = .ok (.lcmp, 1) := by decide +kernel
theorem dK_combined_106 : decode cK_combined 106 = .ok (.ifCond .eq 7, 3) := by decide +kernel
theorem dK_combined_109 : decode cK_combined 109 = .ok (.iconst 1, 1) := by decide +kernel
theorem dK_combined_110 : decode cK_combined 110 = .ok (.goto 4, 3) := by decide +kernel
theorem dK_combined_113 : decode cK_combined 113 = .ok (.iconst 0, 1) := by decide +kernel
theorem dK_combined_114 : decode cK_combined 114 = .ok (.putfield 43, 3) := by decide +kernel
theorem dK_combined_117 : decode cK_combined 117 = .ok (.aload_n 0, 1) := by decide +kernel
theorem dK_combined_118 : decode cK_combined 118 = .ok (.getfield 21, 3) := by decide +kernel
theorem dK_combined_121 : decode cK_combined 121 = .ok (.getfield 43, 3) := by decide +kernel
theorem dK_combined_124 : decode cK_combined 124 = .ok (.ifCond .eq 10, 3) := by decide +kernel
theorem dK_combined_127 : decode cK_combined 127 = .ok (.aload_n 0, 1) := by decide +kernel
theorem dK_combined_128 : decode cK_combined 128 = .ok (.getfield 21, 3) := by decide +kernel
theorem dK_combined_131 : decode cK_combined 131 = .ok (.invokevirtual 157, 3) := by decide +kernel
theorem dK_combined_134 : decode cK_combined 134 = .ok (.aload_n 0, 1) := by decide +kernel
theorem dK_combined_135 : decode cK_combined 135 = .ok (.getfield 21, 3) := by decide +kernel
theorem dK_combined_138 : decode cK_combined 138 = .ok (.invokevirtual 78, 3) := by decide +kernel
theorem dK_combined_141 : decode cK_combined 141 = .ok (.aload_n 0, 1) := by decide +kernel
theorem dK_combined_142 : decode cK_combined 142 = .ok (.getfield 21, 3) := by decide +kernel
theorem dK_combined_145 : decode cK_combined 145 = .ok (.areturn, 1) := by decide +kernel
abbrev cK_spread : ByteArray := prog_3_method_16_code
abbrev yK_spread : MethodName := ⟨"WholeDesk$Reckoner", "spread", "(LWholeDesk$Whole;ILWholeDesk$Whole;)V"⟩
theorem qK_spread : yK_spread.cls ≠ "java/lang/invoke/MethodHandle" ∧ yK_spread.cls ≠ "java/lang/invoke/VarHandle" ∧ (parseMethodDescriptor yK_spread.desc).map (fun d => d.parameters.length) = some 3 := by decide +kernel
theorem dK_spread_0 : decode cK_spread 0 = .ok (.aload_n 2, 1) := by decide +kernel
theorem dK_spread_1 : decode cK_spread 1 = .ok (.aload_n 0, 1) := by decide +kernel
theorem dK_spread_2 : decode cK_spread 2 = .ok (.invokevirtual 47, 3) := by decide +kernel
theorem dK_spread_5 : decode cK_spread 5 = .ok (.aload_n 2, 1) := by decide +kernel
theorem dK_spread_6 : decode cK_spread 6 = .ok (.iload_n 1, 1) := by decide +kernel
theorem dK_spread_7 : decode cK_spread 7 = .ok (.invokevirtual 61, 3) := by decide +kernel
theorem dK_spread_10 : decode cK_spread 10 = .ok (.aload_n 0, 1) := by decide +kernel
theorem dK_spread_11 : decode cK_spread 11 = .ok (.getfield 43, 3) := by decide +kernel
theorem dK_spread_14 : decode cK_spread 14 = .ok (.ifCond .eq 7, 3) := by decide +kernel
theorem dK_spread_17 : decode cK_spread 17 = .ok (.aload_n 2, 1) := by decide +kernel
theorem dK_spread_18 : decode cK_spread 18 = .ok (.invokevirtual 157, 3) := by decide +kernel
theorem dK_spread_21 : decode cK_spread 21 = .ok (.return_, 1) := by decide +kernel
abbrev cK_joined : ByteArray := prog_3_method_17_code
abbrev yK_joined : MethodName := ⟨"WholeDesk$Reckoner", "joined", "(JJI)J"⟩
theorem qK_joined : yK_joined.cls ≠ "java/lang/invoke/MethodHandle" ∧ yK_joined.cls ≠ "java/lang/invoke/VarHandle" ∧ (parseMethodDescriptor yK_joined.desc).map (fun d => d.parameters.length) = some 3 := by decide +kernel
theorem dK_joined_0 : decode cK_joined 0 = .ok (.iload 4, 2) := by decide +kernel
theorem dK_joined_2 : decode cK_joined 2 = .ok (.tableswitch 38 0 2 #[26, 30, 34], 26) := by decide +kernel
theorem dK_joined_28 : decode cK_joined 28 = .ok (.lload_n 0, 1) := by decide +kernel
theorem dK_joined_29 : decode cK_joined 29 = .ok (.lload_n 2, 1) := by decide +kernel
theorem dK_joined_30 : decode cK_joined 30 = .ok (.land, 1) := by decide +kernel
theorem dK_joined_31 : decode cK_joined 31 = .ok (.lreturn, 1) := by decide +kernel
theorem dK_joined_32 : decode cK_joined 32 = .ok (.lload_n 0, 1) := by decide +kernel
theorem dK_joined_33 : decode cK_joined 33 = .ok (.lload_n 2, 1) := by decide +kernel
theorem dK_joined_34 : decode cK_joined 34 = .ok (.lor, 1) := by decide +kernel
theorem dK_joined_35 : decode cK_joined 35 = .ok (.lreturn, 1) := by decide +kernel
theorem dK_joined_36 : decode cK_joined 36 = .ok (.lload_n 0, 1) := by decide +kernel
theorem dK_joined_37 : decode cK_joined 37 = .ok (.lload_n 2, 1) := by decide +kernel
theorem dK_joined_38 : decode cK_joined 38 = .ok (.lxor, 1) := by decide +kernel
theorem dK_joined_39 : decode cK_joined 39 = .ok (.lreturn, 1) := by decide +kernel
theorem dK_joined_40 : decode cK_joined 40 = .ok (.lload_n 0, 1) := by decide +kernel
theorem dK_joined_41 : decode cK_joined 41 = .ok (.lload_n 2, 1) := by decide +kernel
theorem dK_joined_42 : decode cK_joined 42 = .ok (.ldc2_w 73, 3) := by decide +kernel
theorem dK_joined_45 : decode cK_joined 45 = .ok (.lxor, 1) := by decide +kernel
theorem dK_joined_46 : decode cK_joined 46 = .ok (.land, 1) := by decide +kernel
theorem dK_joined_47 : decode cK_joined 47 = .ok (.lreturn, 1) := by decide +kernel
abbrev cK_shiftedUp : ByteArray := prog_3_method_18_code
abbrev yK_shiftedUp : MethodName := ⟨"WholeDesk$Reckoner", "shiftedUp", "(LWholeDesk$Whole;I)LWholeDesk$Whole;"⟩
theorem qK_shiftedUp : yK_shiftedUp.cls ≠ "java/lang/invoke/MethodHandle" ∧ yK_shiftedUp.cls ≠ "java/lang/invoke/VarHandle" ∧ (parseMethodDescriptor yK_shiftedUp.desc).map (fun d => d.parameters.length) = some 2 := by decide +kernel
theorem dK_shiftedUp_0 : decode cK_shiftedUp 0 = .ok (.aload_n 0, 1) := by decide +kernel
theorem dK_shiftedUp_1 : decode cK_shiftedUp 1 = .ok (.getfield 21, 3) := by decide +kernel
theorem dK_shiftedUp_4 : decode cK_shiftedUp 4 = .ok (.lconst 0, 1) := by decide +kernel
theorem dK_shiftedUp_5 : decode cK_shiftedUp 5 = .ok (.invokevirtual 88, 3) := by decide +kernel
theorem dK_shiftedUp_8 : decode cK_shiftedUp 8 = .ok (.aload_n 1, 1) := by decide +kernel
theorem dK_shiftedUp_9 : decode cK_shiftedUp 9 = .ok (.getfield 51, 3) := by decide +kernel
theorem dK_shiftedUp_12 : decode cK_shiftedUp 12 = .ok (.ifCond .eq 7, 3) := by decide +kernel
theorem dK_shiftedUp_15 : decode cK_shiftedUp 15 = .ok (.iload_n 2, 1) := by decide +kernel
theorem dK_shiftedUp_16 : decode cK_shiftedUp 16 = .ok (.ifCond .ge 8, 3) := by decide +kernel
theorem dK_shiftedUp_19 : decode cK_shiftedUp 19 = .ok (.aload_n 0, 1) := by decide +kernel
theorem dK_shiftedUp_20 : decode cK_shiftedUp 20 = .ok (.getfield 21, 3) := by decide +kernel
theorem dK_shiftedUp_23 : decode cK_shiftedUp 23 = .ok (.areturn, 1) := by decide +kernel
theorem dK_shiftedUp_24 : decode cK_shiftedUp 24 = .ok (.iload_n 2, 1) := by decide +kernel
theorem dK_shiftedUp_25 : decode cK_shiftedUp 25 = .ok (.bipush 28, 2) := by decide +kernel
theorem dK_shiftedUp_27 : decode cK_shiftedUp 27 = .ok (.idiv, 1) := by decide +kernel
theorem dK_shiftedUp_28 : decode cK_shiftedUp 28 = .ok (.istore_n 3, 1) := by decide +kernel
theorem dK_shiftedUp_29 : decode cK_shiftedUp 29 = .ok (.aload_n 0, 1) := by decide +kernel
theorem dK_shiftedUp_30 : decode cK_shiftedUp 30 = .ok (.getfield 21, 3) := by decide +kernel
theorem dK_shiftedUp_33 : decode cK_shiftedUp 33 = .ok (.iload_n 3, 1) := by decide +kernel
theorem dK_shiftedUp_34 : decode cK_shiftedUp 34 = .ok (.aload_n 1, 1) := by decide +kernel
theorem dK_shiftedUp_35 : decode cK_shiftedUp 35 = .ok (.getfield 51, 3) := by decide +kernel
theorem dK_shiftedUp_38 : decode cK_shiftedUp 38 = .ok (.iadd, 1) := by decide +kernel
theorem dK_shiftedUp_39 : decode cK_shiftedUp 39 = .ok (.iconst 1, 1) := by decide +kernel
theorem dK_shiftedUp_40 : decode cK_shiftedUp 40 = .ok (.iadd, 1) := by decide +kernel
theorem dK_shiftedUp_41 : decode cK_shiftedUp 41 = .ok (.invokevirtual 61, 3) := by decide +kernel
theorem dK_shiftedUp_44 : decode cK_shiftedUp 44 = .ok (.iload_n 3, 1) := by decide +kernel
theorem dK_shiftedUp_45 : decode cK_shiftedUp 45 = .ok (.istore 4, 2) := by decide +kernel
theorem dK_shiftedUp_47 : decode cK_shiftedUp 47 = .ok (.iload 4, 2) := by decide +kernel
theorem dK_shiftedUp_49 : decode cK_shiftedUp 49 = .ok (.aload_n 0, 1) := by decide +kernel
theorem dK_shiftedUp_50 : decode cK_shiftedUp 50 = .ok (.getfield 21, 3) := by decide +kernel
theorem dK_shiftedUp_53 : decode cK_shiftedUp 53 = .ok (.getfield 51, 3) := by decide +kernel
theorem dK_shiftedUp_56 : decode cK_shiftedUp 56 = .ok (.if_icmp .ge 31, 3) := by decide +kernel
theorem dK_shiftedUp_59 : decode cK_shiftedUp 59 = .ok (.aload_n 0, 1) := by decide +kernel
theorem dK_shiftedUp_60 : decode cK_shiftedUp 60 = .ok (.getfield 21, 3) := by decide +kernel
theorem dK_shiftedUp_63 : decode cK_shiftedUp 63 = .ok (.getfield 149, 3) := by decide +kernel
theorem dK_shiftedUp_66 : decode cK_shiftedUp 66 = .ok (.iload 4, 2) := by decide +kernel
theorem dK_shiftedUp_68 : decode cK_shiftedUp 68 = .ok (.aload_n 1, 1) := by decide +kernel
theorem dK_shiftedUp_69 : decode cK_shiftedUp 69 = .ok (.iload 4, 2) := by decide +kernel
theorem dK_shiftedUp_71 : decode cK_shiftedUp 71 = .ok (.iload_n 3, 1) := by decide +kernel
theorem dK_shiftedUp_72 : decode cK_shiftedUp 72 = .ok (.isub, 1) := by decide +kernel
theorem dK_shiftedUp_73 : decode cK_shiftedUp 73 = .ok (.iload_n 2, 1) := by decide +kernel
theorem dK_shiftedUp_74 : decode cK_shiftedUp 74 = .ok (.bipush 28, 2) := by decide +kernel
theorem dK_shiftedUp_76 : decode cK_shiftedUp 76 = .ok (.irem, 1) := by decide +kernel
theorem dK_shiftedUp_77 : decode cK_shiftedUp 77 = .ok (.invokevirtual 160, 3) := by decide +kernel
theorem dK_shiftedUp_80 : decode cK_shiftedUp 80 = .ok (.lastore, 1) := by decide +kernel
theorem dK_shiftedUp_81 : decode cK_shiftedUp 81 = .ok (.iinc 4 1, 3) := by decide +kernel
theorem dK_shiftedUp_84 : decode cK_shiftedUp 84 = .ok (.goto (-37), 3) := by decide +kernel
theorem dK_shiftedUp_87 : decode cK_shiftedUp 87 = .ok (.aload_n 0, 1) := by decide +kernel
theorem dK_shiftedUp_88 : decode cK_shiftedUp 88 = .ok (.getfield 21, 3) := by decide +kernel
theorem dK_shiftedUp_91 : decode cK_shiftedUp 91 = .ok (.aload_n 1, 1) := by decide +kernel
theorem dK_shiftedUp_92 : decode cK_shiftedUp 92 = .ok (.getfield 43, 3) := by decide +kernel
theorem dK_shiftedUp_95 : decode cK_shiftedUp 95 = .ok (.putfield 43, 3) := by decide +kernel
theorem dK_shiftedUp_98 : decode cK_shiftedUp 98 = .ok (.aload_n 0, 1) := by decide +kernel
theorem dK_shiftedUp_99 : decode cK_shiftedUp 99 = .ok (.getfield 21, 3) := by decide +kernel
theorem dK_shiftedUp_102 : decode cK_shiftedUp 102 = .ok (.invokevirtual 78, 3) := by decide +kernel
theorem dK_shiftedUp_105 : decode cK_shiftedUp 105 = .ok (.aload_n 0, 1) := by decide +kernel
theorem dK_shiftedUp_106 : decode cK_shiftedUp 106 = .ok (.getfield 21, 3) := by decide +kernel
theorem dK_shiftedUp_109 : decode cK_shiftedUp 109 = .ok (.areturn, 1) := by decide +kernel
abbrev cK_shiftedDown : ByteArray := prog_3_method_19_code
abbrev yK_shiftedDown : MethodName := ⟨"WholeDesk$Reckoner", "shiftedDown", "(LWholeDesk$Whole;J)LWholeDesk$Whole;"⟩
theorem qK_shiftedDown : yK_shiftedDown.cls ≠ "java/lang/invoke/MethodHandle" ∧ yK_shiftedDown.cls ≠ "java/lang/invoke/VarHandle" ∧ (parseMethodDescriptor yK_shiftedDown.desc).map (fun d => d.parameters.length) = some 2 := by decide +kernel
theorem dK_shiftedDown_0 : decode cK_shiftedDown 0 = .ok (.aload_n 0, 1) := by decide +kernel
theorem dK_shiftedDown_1 : decode cK_shiftedDown 1 = .ok (.getfield 21, 3) := by decide +kernel
theorem dK_shiftedDown_4 : decode cK_shiftedDown 4 = .ok (.lconst 0, 1) := by decide +kernel
theorem dK_shiftedDown_5 : decode cK_shiftedDown 5 = .ok (.invokevirtual 88, 3) := by decide +kernel
theorem dK_shiftedDown_8 : decode cK_shiftedDown 8 = .ok (.lload_n 2, 1) := by decide +kernel
theorem dK_shiftedDown_9 : decode cK_shiftedDown 9 = .ok (.ldc2_w 164, 3) := by decide +kernel
theorem dK_shiftedDown_12 : decode cK_shiftedDown 12 = .ok (.invokestatic 166, 3) := by decide +kernel
theorem dK_shiftedDown_15 : decode cK_shiftedDown 15 = .ok (.l2i, 1) := by decide +kernel
theorem dK_shiftedDown_16 : decode cK_shiftedDown 16 = .ok (.istore 4, 2) := by decide +kernel
theorem dK_shiftedDown_18 : decode cK_shiftedDown 18 = .ok (.iload 4, 2) := by decide +kernel
theorem dK_shiftedDown_20 : decode cK_shiftedDown 20 = .ok (.bipush 28, 2) := by decide +kernel
theorem dK_shiftedDown_22 : decode cK_shiftedDown 22 = .ok (.idiv, 1) := by decide +kernel
theorem dK_shiftedDown_23 : decode cK_shiftedDown 23 = .ok (.istore 5, 2) := by decide +kernel
theorem dK_shiftedDown_25 : decode cK_shiftedDown 25 = .ok (.aload_n 0, 1) := by decide +kernel
theorem dK_shiftedDown_26 : decode cK_shiftedDown 26 = .ok (.getfield 21, 3) := by decide +kernel
theorem dK_shiftedDown_29 : decode cK_shiftedDown 29 = .ok (.aload_n 1, 1) := by decide +kernel
theorem dK_shiftedDown_30 : decode cK_shiftedDown 30 = .ok (.getfield 51, 3) := by decide +kernel
theorem dK_shiftedDown_33 : decode cK_shiftedDown 33 = .ok (.iload 5, 2) := by decide +kernel
theorem dK_shiftedDown_35 : decode cK_shiftedDown 35 = .ok (.isub, 1) := by decide +kernel
theorem dK_shiftedDown_36 : decode cK_shiftedDown 36 = .ok (.invokevirtual 61, 3) := by decide +kernel
theorem dK_shiftedDown_39 : decode cK_shiftedDown 39 = .ok (.iconst 0, 1) := by decide +kernel
theorem dK_shiftedDown_40 : decode cK_shiftedDown 40 = .ok (.istore 6, 2) := by decide +kernel
theorem dK_shiftedDown_42 : decode cK_shiftedDown 42 = .ok (.iload 6, 2) := by decide +kernel
theorem dK_shiftedDown_44 : decode cK_shiftedDown 44 = .ok (.aload_n 0, 1) := by decide +kernel
theorem dK_shiftedDown_45 : decode cK_shiftedDown 45 = .ok (.getfield 21, 3) := by decide +kernel
theorem dK_shiftedDown_48 : decode cK_shiftedDown 48 = .ok (.getfield 51, 3) := by decide +kernel
theorem dK_shiftedDown_51 : decode cK_shiftedDown 51 = .ok (.if_icmp .ge 38, 3) := by decide +kernel
theorem dK_shiftedDown_54 : decode cK_shiftedDown 54 = .ok (.aload_n 0, 1) := by decide +kernel
theorem dK_shiftedDown_55 : decode cK_shiftedDown 55 = .ok (.getfield 21, 3) := by decide +kernel
theorem dK_shiftedDown_58 : decode cK_shiftedDown 58 = .ok (.getfield 149, 3) := by decide +kernel
theorem dK_shiftedDown_61 : decode cK_shiftedDown 61 = .ok (.iload 6, 2) := by decide +kernel
theorem dK_shiftedDown_63 : decode cK_shiftedDown 63 = .ok (.aload_n 1, 1) := by decide +kernel
theorem dK_shiftedDown_64 : decode cK_shiftedDown 64 = .ok (.iload 6, 2) := by decide +kernel
theorem dK_shiftedDown_66 : decode cK_shiftedDown 66 = .ok (.iload 5, 2) := by decide +kernel
theorem dK_shiftedDown_68 : decode cK_shiftedDown 68 = .ok (.iadd, 1) := by decide +kernel
theorem dK_shiftedDown_69 : decode cK_shiftedDown 69 = .ok (.iconst 1, 1) := by decide +kernel
theorem dK_shiftedDown_70 : decode cK_shiftedDown 70 = .ok (.iadd, 1) := by decide +kernel
theorem dK_shiftedDown_71 : decode cK_shiftedDown 71 = .ok (.bipush 28, 2) := by decide +kernel
theorem dK_shiftedDown_73 : decode cK_shiftedDown 73 = .ok (.iload 4, 2) := by decide +kernel
theorem dK_shiftedDown_75 : decode cK_shiftedDown 75 = .ok (.bipush 28, 2) := by decide +kernel
theorem dK_shiftedDown_77 : decode cK_shiftedDown 77 = .ok (.irem, 1) := by decide +kernel
theorem dK_shiftedDown_78 : decode cK_shiftedDown 78 = .ok (.isub, 1) := by decide +kernel
theorem dK_shiftedDown_79 : decode cK_shiftedDown 79 = .ok (.invokevirtual 160, 3) := by decide +kernel
theorem dK_shiftedDown_82 : decode cK_shiftedDown 82 = .ok (.lastore, 1) := by decide +kernel
theorem dK_shiftedDown_83 : decode cK_shiftedDown 83 = .ok (.iinc 6 1, 3) := by decide +kernel
theorem dK_shiftedDown_86 : decode cK_shiftedDown 86 = .ok (.goto (-44), 3) := by decide +kernel
theorem dK_shiftedDown_89 : decode cK_shiftedDown 89 = .ok (.aload_n 1, 1) := by decide +kernel
theorem dK_shiftedDown_90 : decode cK_shiftedDown 90 = .ok (.getfield 43, 3) := by decide +kernel
theorem dK_shiftedDown_93 : decode cK_shiftedDown 93 = .ok (.ifCond .eq 21, 3) := by decide +kernel
theorem dK_shiftedDown_96 : decode cK_shiftedDown 96 = .ok (.aload_n 1, 1) := by decide +kernel
theorem dK_shiftedDown_97 : decode cK_shiftedDown 97 = .ok (.invokevirtual 170, 3) := by decide +kernel
theorem dK_shiftedDown_100 : decode cK_shiftedDown 100 = .ok (.iload 4, 2) := by decide +kernel
theorem dK_shiftedDown_102 : decode cK_shiftedDown 102 = .ok (.if_icmp .ge 12, 3) := by decide +kernel
theorem dK_shiftedDown_105 : decode cK_shiftedDown 105 = .ok (.aload_n 0, 1) := by decide +kernel
theorem dK_shiftedDown_106 : decode cK_shiftedDown 106 = .ok (.getfield 21, 3) := by decide +kernel
theorem dK_shiftedDown_109 : decode cK_shiftedDown 109 = .ok (.lconst 1, 1) := by decide +kernel
theorem dK_shiftedDown_110 : decode cK_shiftedDown 110 = .ok (.lconst 1, 1) := by decide +kernel
theorem dK_shiftedDown_111 : decode cK_shiftedDown 111 = .ok (.invokevirtual 173, 3) := by decide +kernel
theorem dK_shiftedDown_114 : decode cK_shiftedDown 114 = .ok (.aload_n 0, 1) := by decide +kernel
theorem dK_shiftedDown_115 : decode cK_shiftedDown 115 = .ok (.getfield 21, 3) := by decide +kernel
theorem dK_shiftedDown_118 : decode cK_shiftedDown 118 = .ok (.aload_n 1, 1) := by decide +kernel
theorem dK_shiftedDown_119 : decode cK_shiftedDown 119 = .ok (.getfield 43, 3) := by decide +kernel
theorem dK_shiftedDown_122 : decode cK_shiftedDown 122 = .ok (.putfield 43, 3) := by decide +kernel
theorem dK_shiftedDown_125 : decode cK_shiftedDown 125 = .ok (.aload_n 0, 1) := by decide +kernel
theorem dK_shiftedDown_126 : decode cK_shiftedDown 126 = .ok (.getfield 21, 3) := by decide +kernel
theorem dK_shiftedDown_129 : decode cK_shiftedDown 129 = .ok (.invokevirtual 78, 3) := by decide +kernel
theorem dK_shiftedDown_132 : decode cK_shiftedDown 132 = .ok (.aload_n 0, 1) := by decide +kernel
theorem dK_shiftedDown_133 : decode cK_shiftedDown 133 = .ok (.getfield 21, 3) := by decide +kernel
theorem dK_shiftedDown_136 : decode cK_shiftedDown 136 = .ok (.areturn, 1) := by decide +kernel
end
section
/-! the classes: fields in the order of the slots, types, their words -/
def TW : u_T := fun k => match k with
  | 0 => ("WholeDesk$Whole", "limbs", "[J", true)
  | 1 => ("WholeDesk$Whole", "count", "I", false)
  | _ => ("WholeDesk$Whole", "below", "Z", false)
def tyW : Nat → FieldType := fun k => match k with
  | 0 => .array .long
  | 1 => .int
  | _ => .boolean
theorem nmW : ∀ a, a < 3 → ∀ b, b < 3 → a ≠ b → (TW a).2.1 ≠ (TW b).2.1 := by decide +kernel
theorem tyW_ok : ∀ k, k < 3 → parseFieldDescriptor (TW k).2.2.1 = some (tyW k) := by decide +kernel
theorem inW : ∀ w ∈ u_ws "WholeDesk$Whole" TW 3, w ∈ zt := by
  show ∀ w ∈ [Cond.laysFinal "WholeDesk$Whole" "WholeDesk$Whole" "limbs" "[J", Cond.lays "WholeDesk$Whole" "WholeDesk$Whole" "count" "I", Cond.lays "WholeDesk$Whole" "WholeDesk$Whole" "below" "Z"], w ∈ zt
  exact List.forall_mem_cons.mpr ⟨tw_43, List.forall_mem_cons.mpr ⟨tw_45, List.forall_mem_cons.mpr ⟨tw_47, fun _ h => absurd h List.not_mem_nil⟩⟩⟩
def TK : u_T := fun k => match k with
  | 0 => ("WholeDesk$Reckoner", "quotient", "LWholeDesk$Whole;", true)
  | 1 => ("WholeDesk$Reckoner", "rest", "LWholeDesk$Whole;", true)
  | 2 => ("WholeDesk$Reckoner", "answer", "LWholeDesk$Whole;", false)
  | 3 => ("WholeDesk$Reckoner", "spare", "LWholeDesk$Whole;", false)
  | 4 => ("WholeDesk$Reckoner", "first", "LWholeDesk$Whole;", true)
  | 5 => ("WholeDesk$Reckoner", "second", "LWholeDesk$Whole;", true)
  | 6 => ("WholeDesk$Reckoner", "third", "LWholeDesk$Whole;", true)
  | 7 => ("WholeDesk$Reckoner", "fourth", "LWholeDesk$Whole;", true)
  | _ => ("WholeDesk$Reckoner", "powers", "[LWholeDesk$Whole;", true)
def tyK : Nat → FieldType := fun k => match k with
  | 0 => .object "WholeDesk$Whole"
  | 1 => .object "WholeDesk$Whole"
  | 2 => .object "WholeDesk$Whole"
  | 3 => .object "WholeDesk$Whole"
  | 4 => .object "WholeDesk$Whole"
  | 5 => .object "WholeDesk$Whole"
  | 6 => .object "WholeDesk$Whole"
  | 7 => .object "WholeDesk$Whole"
  | _ => .array (.object "WholeDesk$Whole")
theorem nmK : ∀ a, a < 9 → ∀ b, b < 9 → a ≠ b → (TK a).2.1 ≠ (TK b).2.1 := by decide +kernel
theorem tyK_ok : ∀ k, k < 9 → parseFieldDescriptor (TK k).2.2.1 = some (tyK k) := by decide +kernel
theorem inK : ∀ w ∈ u_ws "WholeDesk$Reckoner" TK 9, w ∈ zt := by
  show ∀ w ∈ [Cond.laysFinal "WholeDesk$Reckoner" "WholeDesk$Reckoner" "quotient" "LWholeDesk$Whole;", Cond.laysFinal "WholeDesk$Reckoner" "WholeDesk$Reckoner" "rest" "LWholeDesk$Whole;", Cond.lays "WholeDesk$Reckoner" "WholeDesk$Reckoner" "answer" "LWholeDesk$Whole;", Cond.lays "WholeDesk$Reckoner" "WholeDesk$Reckoner" "spare" "LWholeDesk$Whole;", Cond.laysFinal "WholeDesk$Reckoner" "WholeDesk$Reckoner" "first" "LWholeDesk$Whole;", Cond.laysFinal "WholeDesk$Reckoner" "WholeDesk$Reckoner" "second" "LWholeDesk$Whole;", Cond.laysFinal "WholeDesk$Reckoner" "WholeDesk$Reckoner" "third" "LWholeDesk$Whole;", Cond.laysFinal "WholeDesk$Reckoner" "WholeDesk$Reckoner" "fourth" "LWholeDesk$Whole;", Cond.laysFinal "WholeDesk$Reckoner" "WholeDesk$Reckoner" "powers" "[LWholeDesk$Whole;"], w ∈ zt
  exact List.forall_mem_cons.mpr ⟨tw_70, List.forall_mem_cons.mpr ⟨tw_72, List.forall_mem_cons.mpr ⟨tw_74, List.forall_mem_cons.mpr ⟨tw_76, List.forall_mem_cons.mpr ⟨tw_78, List.forall_mem_cons.mpr ⟨tw_80, List.forall_mem_cons.mpr ⟨tw_82, List.forall_mem_cons.mpr ⟨tw_84, List.forall_mem_cons.mpr ⟨tw_86, fun _ h => absurd h List.not_mem_nil⟩⟩⟩⟩⟩⟩⟩⟩⟩
def TD : u_T := fun k => match k with
  | 0 => ("WholeDesk$Draft", "count", "I", false)
  | 1 => ("WholeDesk$Draft", "characters", "[B", true)
  | _ => ("WholeDesk$Draft", "value", "LWholeDesk$Whole;", true)
def tyD : Nat → FieldType := fun k => match k with
  | 0 => .int
  | 1 => .array .byte
  | _ => .object "WholeDesk$Whole"
theorem nmD : ∀ a, a < 3 → ∀ b, b < 3 → a ≠ b → (TD a).2.1 ≠ (TD b).2.1 := by decide +kernel
theorem tyD_ok : ∀ k, k < 3 → parseFieldDescriptor (TD k).2.2.1 = some (tyD k) := by decide +kernel
theorem inD : ∀ w ∈ u_ws "WholeDesk$Draft" TD 3, w ∈ zt := by
  show ∀ w ∈ [Cond.lays "WholeDesk$Draft" "WholeDesk$Draft" "count" "I", Cond.laysFinal "WholeDesk$Draft" "WholeDesk$Draft" "characters" "[B", Cond.laysFinal "WholeDesk$Draft" "WholeDesk$Draft" "value" "LWholeDesk$Whole;"], w ∈ zt
  exact List.forall_mem_cons.mpr ⟨tw_101, List.forall_mem_cons.mpr ⟨tw_103, List.forall_mem_cons.mpr ⟨tw_105, fun _ h => absurd h List.not_mem_nil⟩⟩⟩
def TG : u_T := fun k => match k with
  | 0 => ("WholeDesk$Writing", "row", "[B", true)
  | 1 => ("WholeDesk$Writing", "start", "I", false)
  | _ => ("WholeDesk$Writing", "left", "LWholeDesk$Whole;", true)
def tyG : Nat → FieldType := fun k => match k with
  | 0 => .array .byte
  | 1 => .int
  | _ => .object "WholeDesk$Whole"
theorem nmG : ∀ a, a < 3 → ∀ b, b < 3 → a ≠ b → (TG a).2.1 ≠ (TG b).2.1 := by decide +kernel
theorem tyG_ok : ∀ k, k < 3 → parseFieldDescriptor (TG k).2.2.1 = some (tyG k) := by decide +kernel
theorem inG : ∀ w ∈ u_ws "WholeDesk$Writing" TG 3, w ∈ zt := by
  show ∀ w ∈ [Cond.laysFinal "WholeDesk$Writing" "WholeDesk$Writing" "row" "[B", Cond.lays "WholeDesk$Writing" "WholeDesk$Writing" "start" "I", Cond.laysFinal "WholeDesk$Writing" "WholeDesk$Writing" "left" "LWholeDesk$Whole;"], w ∈ zt
  exact List.forall_mem_cons.mpr ⟨tw_120, List.forall_mem_cons.mpr ⟨tw_122, List.forall_mem_cons.mpr ⟨tw_124, fun _ h => absurd h List.not_mem_nil⟩⟩⟩
def TS : u_T := fun k => match k with
  | 0 => ("WholeDesk", "registers", "[LWholeDesk$Whole;", true)
  | 1 => ("WholeDesk", "reckoner", "LWholeDesk$Reckoner;", true)
  | 2 => ("WholeDesk", "draft", "LWholeDesk$Draft;", true)
  | _ => ("WholeDesk", "writing", "LWholeDesk$Writing;", true)
def tyS : Nat → FieldType := fun k => match k with
  | 0 => .array (.object "WholeDesk$Whole")
  | 1 => .object "WholeDesk$Reckoner"
  | 2 => .object "WholeDesk$Draft"
  | _ => .object "WholeDesk$Writing"
theorem nmS : ∀ a, a < 4 → ∀ b, b < 4 → a ≠ b → (TS a).2.1 ≠ (TS b).2.1 := by decide +kernel
theorem tyS_ok : ∀ k, k < 4 → parseFieldDescriptor (TS k).2.2.1 = some (tyS k) := by decide +kernel
theorem inS : ∀ w ∈ u_ws "WholeDesk" TS 4, w ∈ zt := by
  show ∀ w ∈ [Cond.laysFinal "WholeDesk" "WholeDesk" "registers" "[LWholeDesk$Whole;", Cond.laysFinal "WholeDesk" "WholeDesk" "reckoner" "LWholeDesk$Reckoner;", Cond.laysFinal "WholeDesk" "WholeDesk" "draft" "LWholeDesk$Draft;", Cond.laysFinal "WholeDesk" "WholeDesk" "writing" "LWholeDesk$Writing;"], w ∈ zt
  exact List.forall_mem_cons.mpr ⟨tw_131, List.forall_mem_cons.mpr ⟨tw_133, List.forall_mem_cons.mpr ⟨tw_135, List.forall_mem_cons.mpr ⟨tw_137, fun _ h => absurd h List.not_mem_nil⟩⟩⟩⟩
def TM : u_T := fun k => match k with
  | 0 => ("WholeDeskModel", "thrown", "I", false)
  | 1 => ("WholeDeskModel", "fault", "I", false)
  | 2 => ("WholeDeskModel", "draft", "[I", true)
  | 3 => ("WholeDeskModel", "length", "I", false)
  | 4 => ("WholeDeskModel", "kept", "[I", true)
  | 5 => ("WholeDeskModel", "minus", "[Z", true)
  | 6 => ("WholeDeskModel", "row", "[I", true)
  | 7 => ("WholeDeskModel", "below", "Z", false)
  | 8 => ("WholeDeskModel", "other", "[I", true)
  | 9 => ("WholeDeskModel", "product", "[I", true)
  | 10 => ("WholeDeskModel", "rest", "[I", true)
  | 11 => ("WholeDeskModel", "quotient", "[I", true)
  | 12 => ("WholeDeskModel", "one", "[I", true)
  | 13 => ("WholeDeskModel", "two", "[I", true)
  | 14 => ("WholeDeskModel", "first", "[I", true)
  | 15 => ("WholeDeskModel", "second", "[I", true)
  | 16 => ("WholeDeskModel", "firstBelow", "Z", false)
  | 17 => ("WholeDeskModel", "secondBelow", "Z", false)
  | 18 => ("WholeDeskModel", "modulus", "[I", true)
  | 19 => ("WholeDeskModel", "paper", "[I", true)
  | _ => ("WholeDeskModel", "printed", "I", false)
def tyM : Nat → FieldType := fun k => match k with
  | 0 => .int
  | 1 => .int
  | 2 => .array .int
  | 3 => .int
  | 4 => .array .int
  | 5 => .array .boolean
  | 6 => .array .int
  | 7 => .boolean
  | 8 => .array .int
  | 9 => .array .int
  | 10 => .array .int
  | 11 => .array .int
  | 12 => .array .int
  | 13 => .array .int
  | 14 => .array .int
  | 15 => .array .int
  | 16 => .boolean
  | 17 => .boolean
  | 18 => .array .int
  | 19 => .array .int
  | _ => .int
theorem nmM : ∀ a, a < 21 → ∀ b, b < 21 → a ≠ b → (TM a).2.1 ≠ (TM b).2.1 := by decide +kernel
theorem tyM_ok : ∀ k, k < 21 → parseFieldDescriptor (TM k).2.2.1 = some (tyM k) := by decide +kernel
theorem inM : ∀ w ∈ u_ws "WholeDeskModel" TM 21, w ∈ zt := by
  show ∀ w ∈ [Cond.lays "WholeDeskModel" "WholeDeskModel" "thrown" "I", Cond.lays "WholeDeskModel" "WholeDeskModel" "fault" "I", Cond.laysFinal "WholeDeskModel" "WholeDeskModel" "draft" "[I", Cond.lays "WholeDeskModel" "WholeDeskModel" "length" "I", Cond.laysFinal "WholeDeskModel" "WholeDeskModel" "kept" "[I", Cond.laysFinal "WholeDeskModel" "WholeDeskModel" "minus" "[Z", Cond.laysFinal "WholeDeskModel" "WholeDeskModel" "row" "[I", Cond.lays "WholeDeskModel" "WholeDeskModel" "below" "Z", Cond.laysFinal "WholeDeskModel" "WholeDeskModel" "other" "[I", Cond.laysFinal "WholeDeskModel" "WholeDeskModel" "product" "[I", Cond.laysFinal "WholeDeskModel" "WholeDeskModel" "rest" "[I", Cond.laysFinal "WholeDeskModel" "WholeDeskModel" "quotient" "[I", Cond.laysFinal "WholeDeskModel" "WholeDeskModel" "one" "[I", Cond.laysFinal "WholeDeskModel" "WholeDeskModel" "two" "[I", Cond.laysFinal "WholeDeskModel" "WholeDeskModel" "first" "[I", Cond.laysFinal "WholeDeskModel" "WholeDeskModel" "second" "[I", Cond.lays "WholeDeskModel" "WholeDeskModel" "firstBelow" "Z", Cond.lays "WholeDeskModel" "WholeDeskModel" "secondBelow" "Z", Cond.laysFinal "WholeDeskModel" "WholeDeskModel" "modulus" "[I", Cond.laysFinal "WholeDeskModel" "WholeDeskModel" "paper" "[I", Cond.lays "WholeDeskModel" "WholeDeskModel" "printed" "I"], w ∈ zt
  exact List.forall_mem_cons.mpr ⟨tw_698, List.forall_mem_cons.mpr ⟨tw_700, List.forall_mem_cons.mpr ⟨tw_702, List.forall_mem_cons.mpr ⟨tw_704, List.forall_mem_cons.mpr ⟨tw_706, List.forall_mem_cons.mpr ⟨tw_708, List.forall_mem_cons.mpr ⟨tw_710, List.forall_mem_cons.mpr ⟨tw_712, List.forall_mem_cons.mpr ⟨tw_714, List.forall_mem_cons.mpr ⟨tw_716, List.forall_mem_cons.mpr ⟨tw_718, List.forall_mem_cons.mpr ⟨tw_720, List.forall_mem_cons.mpr ⟨tw_722, List.forall_mem_cons.mpr ⟨tw_724, List.forall_mem_cons.mpr ⟨tw_726, List.forall_mem_cons.mpr ⟨tw_728, List.forall_mem_cons.mpr ⟨tw_730, List.forall_mem_cons.mpr ⟨tw_732, List.forall_mem_cons.mpr ⟨tw_734, List.forall_mem_cons.mpr ⟨tw_736, List.forall_mem_cons.mpr ⟨tw_738, fun _ h => absurd h List.not_mem_nil⟩⟩⟩⟩⟩⟩⟩⟩⟩⟩⟩⟩⟩⟩⟩⟩⟩⟩⟩⟩⟩
abbrev zCl : List vw_C := [("WholeDesk$Whole", TW, 3), ("WholeDesk$Reckoner", TK, 9), ("WholeDesk$Draft", TD, 3), ("WholeDesk$Writing", TG, 3), ("WholeDesk", TS, 4), ("WholeDeskModel", TM, 21)]
/-- what the tables say of the classes: their numbers and slots, and the array classes of long, byte, Whole, int, boolean -/
abbrev zE : Type := va_G × ClassId × ClassId × ClassId × ClassId × ClassId
abbrev zTy (E : zE) : List (ClassId × FieldType) := [(E.2.1, .long), (E.2.2.1, .byte), (E.2.2.2.1, .object "WholeDesk$Whole"), (E.2.2.2.2.1, .int), (E.2.2.2.2.2, .boolean)]
abbrev zK (E : zE) (U : State) : Prop := va_K E.1 zCl (zTy E) U
def bZ (b : Bool) : Int := if b then 1 else 0
theorem bZ_01 (b : Bool) : 0 ≤ bZ b ∧ bZ b ≤ 1 := by cases b <;> decide
theorem bZ_t {b : Bool} : bZ b = 1 ↔ b = true := by cases b <;> decide
theorem bZ_f {b : Bool} : bZ b = 0 ↔ b = false := by cases b <;> decide
theorem bZ_nf {b : Bool} : ¬ bZ b = 0 ↔ b = true := by cases b <;> decide
theorem bZ_eq {a b : Bool} : bZ a = bZ b ↔ a = b := by cases a <;> cases b <;> decide
/-- a Whole: its limbs, how many are in use, whether it is below 0 -/
abbrev zV : Type := (Nat → Nat) × Nat × Bool
/-- the places of Wholes in the desk's block of 80 cells; the limbs of the one at k lie at k + 1 -/
def lp (k : Nat) : Bool := decide ((2 ≤ k ∧ k < 22 ∧ k % 2 = 0) ∨ (23 ≤ k ∧ k < 39 ∧ k % 2 = 1) ∨ (40 ≤ k ∧ k < 72 ∧ k % 2 = 0) ∨ k = 74 ∨ k = 78)
theorem lp_iff {k : Nat} : lp k = true ↔ ((2 ≤ k ∧ k < 22 ∧ k % 2 = 0) ∨ (23 ≤ k ∧ k < 39 ∧ k % 2 = 1) ∨ (40 ≤ k ∧ k < 72 ∧ k % 2 = 0) ∨ k = 74 ∨ k = 78) := decide_eq_true_iff
theorem lp_lt {k : Nat} (h : lp k = true) : k + 1 < 80 := by rw [lp_iff] at h; omega
theorem lp_s {k : Nat} (h : lp k = true) : ¬ lp (k + 1) = true := by rw [lp_iff] at h ⊢; omega
theorem lp_ne {j k : Nat} (hj : lp j = true) (hk : lp k = true) : j ≠ k + 1 := fun e => lp_s hk (e ▸ hj)
def zO (E : zE) (B : Nat) (v : Nat → zV) (o : Nat → va_E) : Nat → va_E := fun k =>
  if lp k = true then .inr (0, [.ref (B + (k + 1)), .int (iZ (v k).2.1), .int (iZ (bZ (v k).2.2))])
  else if 1 ≤ k ∧ lp (k - 1) = true then .inl (E.2.1, 152, .inr (.inl (fun i => lZ ((v (k - 1)).1 i))))
  else o k
theorem zO_W {E : zE} {B k : Nat} {v : Nat → zV} {o : Nat → va_E} (h : lp k = true) : zO E B v o k = .inr (0, [.ref (B + (k + 1)), .int (iZ (v k).2.1), .int (iZ (bZ (v k).2.2))]) := if_pos h
theorem zO_A {E : zE} {B k : Nat} {v : Nat → zV} {o : Nat → va_E} (h : lp k = true) : zO E B v o (k + 1) = .inl (E.2.1, 152, .inr (.inl (fun i => lZ ((v k).1 i)))) := by
  unfold zO
  rw [if_neg (lp_s h), if_pos ⟨by omega, h⟩]
  rfl
theorem zO_o {E : zE} {B k : Nat} {v : Nat → zV} {o : Nat → va_E} (h : ¬ lp k = true) (h2 : ¬ (1 ≤ k ∧ lp (k - 1) = true)) : zO E B v o k = o k := by
  unfold zO
  rw [if_neg h, if_neg h2]
theorem zO_upW {E : zE} {B k : Nat} {v : Nat → zV} {o : Nat → va_E} {w : zV} (h : lp k = true) (hd : w.1 = (v k).1) : va_up (zO E B v o) k (.inr (0, [.ref (B + (k + 1)), .int (iZ w.2.1), .int (iZ (bZ w.2.2))])) = zO E B (va_up v k w) o := by
  funext j
  by_cases e : j = k
  · subst e
    rw [va_up_self, zO_W h, va_up_self]
  · rw [va_up_ne _ _ e]
    unfold zO
    rw [va_up_ne v w e]
    by_cases h2 : 1 ≤ j ∧ lp (j - 1) = true
    · by_cases e2 : j - 1 = k
      · rw [e2, va_up_self, hd]
      · rw [va_up_ne v w e2]
    · rw [if_neg h2, if_neg h2]
theorem zO_upA {E : zE} {B k : Nat} {v : Nat → zV} {o : Nat → va_E} {d : Nat → Nat} (h : lp k = true) : va_up (zO E B v o) (k + 1) (.inl (E.2.1, 152, .inr (.inl (fun i => lZ (d i))))) = zO E B (va_up v k (d, (v k).2)) o := by
  funext j
  by_cases e : j = k + 1
  · subst e
    rw [va_up_self, zO_A h, va_up_self]
  · rw [va_up_ne _ _ e]
    unfold zO
    by_cases h1 : lp j = true
    · rw [if_pos h1, if_pos h1]
      by_cases e2 : j = k
      · rw [e2, va_up_self]
      · rw [va_up_ne v _ e2]
    · rw [if_neg h1, if_neg h1]
      by_cases h2 : 1 ≤ j ∧ lp (j - 1) = true
      · rw [va_up_ne v _ (show j - 1 ≠ k by omega)]
      · rw [if_neg h2, if_neg h2]
theorem zO_upo {E : zE} {B k : Nat} {v : Nat → zV} {o : Nat → va_E} {x : va_E} (h : ¬ lp k = true) (h2 : ¬ (1 ≤ k ∧ lp (k - 1) = true)) : va_up (zO E B v o) k x = zO E B v (va_up o k x) := by
  funext j
  by_cases e : j = k
  · subst e
    rw [va_up_self, zO_o h h2, va_up_self]
  · rw [va_up_ne _ _ e]
    unfold zO
    rw [va_up_ne o x e]
/-- limbs are below 2 to the 28, at most 152 are in use -/
def zok (v : Nat → zV) : Prop := ∀ k, lp k = true → (∀ i, (v k).1 i < 268435456) ∧ (v k).2.1 ≤ 152
theorem zok.up {v : Nat → zV} (h : zok v) {k : Nat} {w : zV} (h1 : ∀ i, w.1 i < 268435456) (h2 : w.2.1 ≤ 152) : zok (va_up v k w) := fun j hj => by
  by_cases e : j = k
  · rw [e, va_up_self]; exact ⟨h1, h2⟩
  · rw [va_up_ne v w e]; exact h j hj
/-- the desk's world: Wholes v, the other cells o -/
def zD (E : zE) (B : Nat) (v : Nat → zV) (o : Nat → va_E) (H : Heap) : Prop := va_P E.1 zCl (zB B 80 (zO E B v o)) H ∧ zok v
theorem updL_lZ (d : Nat → Nat) (j x : Nat) : vp_updL (fun i => lZ (d i)) j (lZ x) = fun i => lZ ((va_up d j x i : Nat) : Int) := by
  funext i
  unfold vp_updL va_up
  split <;> rfl
section ZW
variable {p : Program} {l : Launch} {e : Env} {R : Room} {s : State} {m : MethodId} {args : Array Value} {below : List Frame} {meth : Method} {c : Code} {H : Heap} {locs : List Loc} {cells slots : Nat} {Q : State → Prop}
variable {cc : ByteArray} {pc : Nat} {ls : Array Slot} {rest : List Value} {E : zE} {B : Nat} {v : Nat → zV} {o : Nat → va_E} {H0 : Heap} {own : String} {index k : Nat} {d : Nat → Nat} {n : Nat} {b : Bool}
theorem zw_limbs (hx : p.tables.exec = Jvm.exec) (hb : c.code = cc) (ht : ∀ w ∈ zt, w.before args s = true) (hown : s.vm.findClass own = some m.cls) (hK : zK E s) (hZ : zD E B v o H) (hk : lp k = true) (ev : v k = (d, n, b)) (hl : Cond.fieldLink own index "WholeDesk$Whole" "limbs" "[J" ∈ zt) (hd : decode cc pc = .ok (.getfield index, 3))
    (kk : W p l e R s m args below meth c H locs cells slots Q (F0 m (pc + 3) ls (.ref (B + (k + 1)) :: rest))) : W p l e R s m args below meth c H locs cells slots Q (F0 m pc ls (.ref (B + k) :: rest)) :=
  va_get (D := E.1) (cl := zCl) (ci := 0) (C := "WholeDesk$Whole") (T := TW) (N := 3) hx hb ht inW hown hK hZ.1 k (by rw [zB_at (by have := lp_lt hk; omega), zO_W hk, ev]) rfl 0 (by decide) (ht _ hl) (fun _ h9 => h9) rfl hd kk
theorem zw_count (hx : p.tables.exec = Jvm.exec) (hb : c.code = cc) (ht : ∀ w ∈ zt, w.before args s = true) (hown : s.vm.findClass own = some m.cls) (hK : zK E s) (hZ : zD E B v o H) (hk : lp k = true) (ev : v k = (d, n, b)) (hl : Cond.fieldLink own index "WholeDesk$Whole" "count" "I" ∈ zt) (hd : decode cc pc = .ok (.getfield index, 3))
    (kk : W p l e R s m args below meth c H locs cells slots Q (F0 m (pc + 3) ls (.int (iZ n) :: rest))) : W p l e R s m args below meth c H locs cells slots Q (F0 m pc ls (.ref (B + k) :: rest)) :=
  va_get (D := E.1) (cl := zCl) (ci := 0) (C := "WholeDesk$Whole") (T := TW) (N := 3) hx hb ht inW hown hK hZ.1 k (by rw [zB_at (by have := lp_lt hk; omega), zO_W hk, ev]) rfl 1 (by decide) (ht _ hl) (fun _ h9 => h9) rfl hd kk
theorem zw_below (hx : p.tables.exec = Jvm.exec) (hb : c.code = cc) (ht : ∀ w ∈ zt, w.before args s = true) (hown : s.vm.findClass own = some m.cls) (hK : zK E s) (hZ : zD E B v o H) (hk : lp k = true) (ev : v k = (d, n, b)) (hl : Cond.fieldLink own index "WholeDesk$Whole" "below" "Z" ∈ zt) (hd : decode cc pc = .ok (.getfield index, 3))
    (kk : W p l e R s m args below meth c H locs cells slots Q (F0 m (pc + 3) ls (.int (iZ (bZ b)) :: rest))) : W p l e R s m args below meth c H locs cells slots Q (F0 m pc ls (.ref (B + k) :: rest)) :=
  va_get (D := E.1) (cl := zCl) (ci := 0) (C := "WholeDesk$Whole") (T := TW) (N := 3) hx hb ht inW hown hK hZ.1 k (by rw [zB_at (by have := lp_lt hk; omega), zO_W hk, ev]) rfl 2 (by decide) (ht _ hl) (fun _ h9 => h9) rfl hd kk
theorem bZ_nar (b : Bool) : narrow .boolean (.int (iZ (bZ b))) = .int (iZ (bZ b)) := by cases b <;> decide +kernel
theorem bZ_fit (b : Bool) : fits .boolean (.int (iZ (bZ b))) = true := by cases b <;> decide +kernel
theorem zw_put_count (hx : p.tables.exec = Jvm.exec) (hb : c.code = cc) (ht : ∀ w ∈ zt, w.before args s = true) (hown : s.vm.findClass own = some m.cls) (hK : zK E s) (hZ : zD E B v o H) (hk : lp k = true) (ev : v k = (d, n, b)) (hS : va_S (zA B 80) H0 H locs) {n1 : Nat} (h1 : n1 ≤ 152) (hl : Cond.fieldLink own index "WholeDesk$Whole" "count" "I" ∈ zt) (hd : decode cc pc = .ok (.putfield index, 3))
    (kk : ∀ (v1 : Nat → zV) (H1 : Heap) (locs1 : List Loc), v1 k = (d, n1, b) → (∀ j, j ≠ k → v1 j = v j) → zD E B v1 o H1 → va_S (zA B 80) H0 H1 locs1 → W p l e R s m args below meth c H1 locs1 cells slots Q (F0 m (pc + 3) ls rest)) : W p l e R s m args below meth c H locs cells slots Q (F0 m pc ls (.int (iZ n1) :: .ref (B + k) :: rest)) := by
  have hk80 : k < 80 := by have := lp_lt hk; omega
  have hok := hZ.2 k hk
  rw [ev] at hok
  refine va_put (D := E.1) (cl := zCl) (ci := 0) (C := "WholeDesk$Whole") (T := TW) (N := 3) (ty := .int) (fs := [.ref (B + (k + 1)), .int (iZ n), .int (iZ (bZ b))]) hx hb ht inW tyW tyW_ok nmW hown hK hZ.1 (zB_DA B 80 _) hS k (by rw [zB_at hk80, zO_W hk, ev]) rfl 1 (by decide) (ht _ hl) (fun _ h9 => h9) rfl (by decide +kernel) rfl rfl (Nat.le_of_ble_eq_true rfl) hd fun H1 locs1 hP hD hS1 => ?_
  refine kk (va_up v k (d, n1, b)) H1 locs1 (va_up_self _ _ _) (fun j hj => va_up_ne _ _ hj) ⟨?_, hZ.2.up hok.1 h1⟩ hS1
  rw [zB_set hk80] at hP
  rw [← zO_upW (w := (d, n1, b)) hk (by rw [ev])]
  exact hP
theorem zw_put_below (hx : p.tables.exec = Jvm.exec) (hb : c.code = cc) (ht : ∀ w ∈ zt, w.before args s = true) (hown : s.vm.findClass own = some m.cls) (hK : zK E s) (hZ : zD E B v o H) (hk : lp k = true) (ev : v k = (d, n, b)) (hS : va_S (zA B 80) H0 H locs) {b1 : Bool}  (hl : Cond.fieldLink own index "WholeDesk$Whole" "below" "Z" ∈ zt) (hd : decode cc pc = .ok (.putfield index, 3))
    (kk : ∀ (v1 : Nat → zV) (H1 : Heap) (locs1 : List Loc), v1 k = (d, n, b1) → (∀ j, j ≠ k → v1 j = v j) → zD E B v1 o H1 → va_S (zA B 80) H0 H1 locs1 → W p l e R s m args below meth c H1 locs1 cells slots Q (F0 m (pc + 3) ls rest)) : W p l e R s m args below meth c H locs cells slots Q (F0 m pc ls (.int (iZ (bZ b1)) :: .ref (B + k) :: rest)) := by
  have hk80 : k < 80 := by have := lp_lt hk; omega
  have hok := hZ.2 k hk
  rw [ev] at hok
  refine va_put (D := E.1) (cl := zCl) (ci := 0) (C := "WholeDesk$Whole") (T := TW) (N := 3) (ty := .boolean) (fs := [.ref (B + (k + 1)), .int (iZ n), .int (iZ (bZ b))]) hx hb ht inW tyW tyW_ok nmW hown hK hZ.1 (zB_DA B 80 _) hS k (by rw [zB_at hk80, zO_W hk, ev]) rfl 2 (by decide) (ht _ hl) (fun _ h9 => h9) rfl (by decide +kernel) (bZ_nar b1) (bZ_fit b1) (Nat.le_of_ble_eq_true rfl) hd fun H1 locs1 hP hD hS1 => ?_
  refine kk (va_up v k (d, n, b1)) H1 locs1 (va_up_self _ _ _) (fun j hj => va_up_ne _ _ hj) ⟨?_, hZ.2.up hok.1 hok.2⟩ hS1
  rw [zB_set hk80] at hP
  rw [← zO_upW (w := (d, n, b1)) hk (by rw [ev])]
  exact hP
theorem zw_ld (hx : p.tables.exec = Jvm.exec) (hb : c.code = cc) (hK : zK E s) (hZ : zD E B v o H) (hk : lp k = true) (ev : v k = (d, n, b)) {z : Int} (h0 : 0 ≤ z) (h1 : z < 152) (hd : decode cc pc = .ok (.laload, 1))
    (kk : W p l e R s m args below meth c H locs cells slots Q (F0 m (pc + 1) ls (.long (lZ (d z.toNat)) :: rest))) : W p l e R s m args below meth c H locs cells slots Q (F0 m pc ls (.int (iZ z) :: .ref (B + (k + 1)) :: rest)) := by
  have hzi : zi z := ⟨by omega, by omega⟩
  refine va_lald (D := E.1) (cl := zCl) (cA := E.2.1) (n := 152) (f := fun i => lZ (d i)) hx hb hK hZ.1 (k + 1) 0 (by rw [zB_at (lp_lt hk), zO_A hk, ev]) rfl (iZ_in hzi h0 h1) hd ?_
  rw [iZ_clamp hzi]
  exact kk
theorem zw_st (hx : p.tables.exec = Jvm.exec) (hb : c.code = cc) (hK : zK E s) (hZ : zD E B v o H) (hk : lp k = true) (ev : v k = (d, n, b)) (hS : va_S (zA B 80) H0 H locs) {z : Int} {x : Nat} (h0 : 0 ≤ z) (h1 : z < 152) (h2 : x < 268435456) (hd : decode cc pc = .ok (.lastore, 1))
    (kk : ∀ (v1 : Nat → zV) (H1 : Heap) (locs1 : List Loc), v1 k = (va_up d z.toNat x, n, b) → (∀ j, j ≠ k → v1 j = v j) → zD E B v1 o H1 → va_S (zA B 80) H0 H1 locs1 → W p l e R s m args below meth c H1 locs1 cells slots Q (F0 m (pc + 1) ls rest)) : W p l e R s m args below meth c H locs cells slots Q (F0 m pc ls (.long (lZ x) :: .int (iZ z) :: .ref (B + (k + 1)) :: rest)) := by
  have hzi : zi z := ⟨by omega, by omega⟩
  have hok := hZ.2 k hk
  rw [ev] at hok
  refine va_last (D := E.1) (cl := zCl) (cA := E.2.1) (n := 152) (f := fun i => lZ (d i)) hx hb hK hZ.1 (zB_DA B 80 _) hS (k + 1) 0 (by rw [zB_at (lp_lt hk), zO_A hk, ev]) rfl (iZ_in hzi h0 h1) hd fun H1 locs1 hP hD hS1 => ?_
  refine kk (va_up v k (va_up d z.toNat x, n, b)) H1 locs1 (va_up_self _ _ _) (fun j hj => va_up_ne _ _ hj) ⟨?_, hZ.2.up (up_lt hok.1 h2) hok.2⟩ hS1
  rw [zB_set (lp_lt hk), iZ_clamp hzi, updL_lZ, zO_upA hk, ev] at hP
  exact hP
end ZW
/-- a method's words: its code, and the tables' -/
abbrev zws (y : MethodName) (bytes : ByteArray) (maxL : Nat) (ret : Option FieldType) : List Cond := Cond.code y bytes maxL ret :: zt
theorem good_zws {y : MethodName} {bytes : ByteArray} {maxL : Nat} {ret : Option FieldType} (hc : Cond.code y bytes maxL ret ∈ zt) : GoodIn zt (zws y bytes maxL ret) := fun w hw => by
  rcases List.mem_cons.mp hw with h | h
  · subst h; exact ⟨hc, good_of_word (zt_good _ hc)⟩
  · exact ⟨h, good_of_word (zt_good _ h)⟩
abbrev zPc (E : zE) (P : Heap → Prop) (av : List Value) : Array Value → State → Prop := va_Pc av (fun U => P U.heap ∧ zK E U)
theorem zPc_blind (E : zE) (P : Heap → Prop) (av : List Value) : FrameBlind (zPc E P av) := fun a U g mk q => ⟨q.1, q.2.1, va_K.moved (u := U) (U := U.calling g mk a) (Vm.Alike.refl U.vm) q.2.2⟩
theorem zPc_pre {E : zE} {P : Heap → Prop} {av : List Value} {s : State} {H : Heap} (hP : P H) (hK : zK E s) : ∀ U : State, U.heap = H → s.WarmedH U.vm → zPc E P av av.toArray U := fun U hU hW => ⟨rfl, by rw [hU]; exact hP, va_K.moved hW.alike hK⟩

theorem zcV_i {p : Program} {l : Launch} {e : Env} {R : Room} {s : State} {m : MethodId} {args : Array Value} {below : List Frame} {meth : Method} {c : Code} {H : Heap} {locs : List Loc} {cells slots : Nat} {Q : State → Prop} {cc : ByteArray} {pc : Nat} {ls : Array Slot} {rest st : List Value} {E : zE} {H0 : Heap} {own : String} {index maxL nL fr lo : Nat} {y : MethodName} {bytes : ByteArray} {ret : Option FieldType} {S : Type} {post : Int32 → S → Prop} {P : Heap → Prop} {P' : S → Heap → Prop} {A : Nat → Prop} (n : Nat) {C : String} {a : Nat} {As av : List Value} (hav : av = .ref a :: As) (F : CallFix p m c cc nL s args zt own) (hM : Met l y (zws y bytes maxL ret) { frames := fr, cells := 0, slots := 0, locals := lo } (zPc E P av) (va_Qi post (fun u t => P' u t.heap ∧ zK E t) A) 0 0 A) (hcode : Cond.code y bytes maxL ret ∈ zt) (hlink : Cond.methodLink own index y ∈ zt) (hinst : Cond.instanceMethod y ∈ zt) (hsel : Cond.selects C y y ∈ zt) (hini : Cond.initialized y.cls ∈ zt) (hd : y.cls ≠ "java/lang/invoke/MethodHandle" ∧ y.cls ≠ "java/lang/invoke/VarHandle" ∧ (parseMethodDescriptor y.desc).map (fun d => d.parameters.length) = some n) (hR : fr + 1 ≤ R.frames ∧ 8 + (maxL + 11) + lo ≤ R.locals)
    (hrecv : ∃ cellB : Cell, H[a]? = some cellB ∧ cellB.vm.isStatics = false ∧ s.vm.findClass C = some cellB.cls) (hP : P H) (hK : zK E s) (hsize : ls.size = nL) (hst : st = As.reverse ++ .ref a :: rest) (hn : As.length = n) (hroom : (rest.map fun v => v.category).sum ≤ 8) (hdg : decode cc pc = .ok (.invokevirtual index, 3)) (hf : cells ≤ R.cells ∧ slots ≤ R.slots) (hS : va_S A H0 H locs)
    (kk : ∀ (r : Int32) (u : S) (H1 : Heap) (locs1 : List Loc), post r u → P' u H1 → H1.size ≥ H.size → va_S A H0 H1 locs1 → W p l e R s m args below meth c H1 locs1 cells slots Q (F0 m (pc + 3) ls (.int r :: rest))) : W p l e R s m args below meth c H locs cells slots Q (F0 m pc ls st) := by
  subst hav
  have ht := F.2.2.2.2
  have cb : CallB R s args own index y bytes maxL ret (zws y bytes maxL ret) { frames := fr, cells := 0, slots := 0, locals := lo } 0 0 n := callB_of n ht (good_zws hcode) rfl rfl rfl (ht _ hini) (ht _ hlink) hd hR
  exact va_calli (va_runV (As := As) (rest := rest) (b := a) F hM ⟨cb, ht _ hinst, ht _ hsel⟩ ⟨zPc_blind E P _, hrecv, zPc_pre hP hK⟩ rfl hn hsize hst (lv_room hroom) hdg hf) hS (fun _ _ h => h) (fun _ h => h) (fun r u t H1 locs1 ht1 hvm hw hB hz1 hk1 hS1 => kk r u H1 locs1 hw (by rw [← ht1]; exact hB.1) hz1 hS1)
theorem zcS_i {p : Program} {l : Launch} {e : Env} {R : Room} {s : State} {m : MethodId} {args : Array Value} {below : List Frame} {meth : Method} {c : Code} {H : Heap} {locs : List Loc} {cells slots : Nat} {Q : State → Prop} {cc : ByteArray} {pc : Nat} {ls : Array Slot} {rest st : List Value} {E : zE} {H0 : Heap} {own : String} {index maxL nL fr lo : Nat} {y : MethodName} {bytes : ByteArray} {ret : Option FieldType} {S : Type} {post : Int32 → S → Prop} {P : Heap → Prop} {P' : S → Heap → Prop} {A : Nat → Prop} (n : Nat) {As : List Value} (F : CallFix p m c cc nL s args zt own) (hM : Met l y (zws y bytes maxL ret) { frames := fr, cells := 0, slots := 0, locals := lo } (zPc E P As) (va_Qi post (fun u t => P' u t.heap ∧ zK E t) A) 0 0 A) (hcode : Cond.code y bytes maxL ret ∈ zt) (hlink : Cond.methodLink own index y ∈ zt) (hstat : Cond.static y ∈ zt) (hini : Cond.initialized y.cls ∈ zt) (hd : y.cls ≠ "java/lang/invoke/MethodHandle" ∧ y.cls ≠ "java/lang/invoke/VarHandle" ∧ (parseMethodDescriptor y.desc).map (fun d => d.parameters.length) = some n) (hR : fr + 1 ≤ R.frames ∧ 8 + (maxL + 11) + lo ≤ R.locals)
    (hP : P H) (hK : zK E s) (hsize : ls.size = nL) (hst : st = As.reverse ++ rest) (hn : As.length = n) (hroom : (rest.map fun v => v.category).sum ≤ 8) (hdg : decode cc pc = .ok (.invokestatic index, 3)) (hf : cells ≤ R.cells ∧ slots ≤ R.slots) (hS : va_S A H0 H locs)
    (kk : ∀ (r : Int32) (u : S) (H1 : Heap) (locs1 : List Loc), post r u → P' u H1 → H1.size ≥ H.size → va_S A H0 H1 locs1 → W p l e R s m args below meth c H1 locs1 cells slots Q (F0 m (pc + 3) ls (.int r :: rest))) : W p l e R s m args below meth c H locs cells slots Q (F0 m pc ls st) := by
  have ht := F.2.2.2.2
  have cb : CallB R s args own index y bytes maxL ret (zws y bytes maxL ret) { frames := fr, cells := 0, slots := 0, locals := lo } 0 0 n := callB_of n ht (good_zws hcode) rfl rfl rfl (ht _ hini) (ht _ hlink) hd hR
  exact va_calli (va_runS (As := As) (rest := rest) F hM ⟨cb, ht _ hstat⟩ ⟨zPc_blind E P _, zPc_pre hP hK⟩ rfl hn hsize hst (lv_room hroom) hdg hf) hS (fun _ _ h => h) (fun _ h => h) (fun r u t H1 locs1 ht1 hvm hw hB hz1 hk1 hS1 => kk r u H1 locs1 hw (by rw [← ht1]; exact hB.1) hz1 hS1)
theorem zcV_l {p : Program} {l : Launch} {e : Env} {R : Room} {s : State} {m : MethodId} {args : Array Value} {below : List Frame} {meth : Method} {c : Code} {H : Heap} {locs : List Loc} {cells slots : Nat} {Q : State → Prop} {cc : ByteArray} {pc : Nat} {ls : Array Slot} {rest st : List Value} {E : zE} {H0 : Heap} {own : String} {index maxL nL fr lo : Nat} {y : MethodName} {bytes : ByteArray} {ret : Option FieldType} {S : Type} {post : Int64 → S → Prop} {P : Heap → Prop} {P' : S → Heap → Prop} {A : Nat → Prop} (n : Nat) {C : String} {a : Nat} {As av : List Value} (hav : av = .ref a :: As) (F : CallFix p m c cc nL s args zt own) (hM : Met l y (zws y bytes maxL ret) { frames := fr, cells := 0, slots := 0, locals := lo } (zPc E P av) (va_Ql post (fun u t => P' u t.heap ∧ zK E t) A) 0 0 A) (hcode : Cond.code y bytes maxL ret ∈ zt) (hlink : Cond.methodLink own index y ∈ zt) (hinst : Cond.instanceMethod y ∈ zt) (hsel : Cond.selects C y y ∈ zt) (hini : Cond.initialized y.cls ∈ zt) (hd : y.cls ≠ "java/lang/invoke/MethodHandle" ∧ y.cls ≠ "java/lang/invoke/VarHandle" ∧ (parseMethodDescriptor y.desc).map (fun d => d.parameters.length) = some n) (hR : fr + 1 ≤ R.frames ∧ 8 + (maxL + 11) + lo ≤ R.locals)
    (hrecv : ∃ cellB : Cell, H[a]? = some cellB ∧ cellB.vm.isStatics = false ∧ s.vm.findClass C = some cellB.cls) (hP : P H) (hK : zK E s) (hsize : ls.size = nL) (hst : st = As.reverse ++ .ref a :: rest) (hn : As.length = n) (hroom : (rest.map fun v => v.category).sum ≤ 8) (hdg : decode cc pc = .ok (.invokevirtual index, 3)) (hf : cells ≤ R.cells ∧ slots ≤ R.slots) (hS : va_S A H0 H locs)
    (kk : ∀ (r : Int64) (u : S) (H1 : Heap) (locs1 : List Loc), post r u → P' u H1 → H1.size ≥ H.size → va_S A H0 H1 locs1 → W p l e R s m args below meth c H1 locs1 cells slots Q (F0 m (pc + 3) ls (.long r :: rest))) : W p l e R s m args below meth c H locs cells slots Q (F0 m pc ls st) := by
  subst hav
  have ht := F.2.2.2.2
  have cb : CallB R s args own index y bytes maxL ret (zws y bytes maxL ret) { frames := fr, cells := 0, slots := 0, locals := lo } 0 0 n := callB_of n ht (good_zws hcode) rfl rfl rfl (ht _ hini) (ht _ hlink) hd hR
  exact va_calll (va_runV (As := As) (rest := rest) (b := a) F hM ⟨cb, ht _ hinst, ht _ hsel⟩ ⟨zPc_blind E P _, hrecv, zPc_pre hP hK⟩ rfl hn hsize hst (lv_room hroom) hdg hf) hS (fun _ _ h => h) (fun _ h => h) (fun r u t H1 locs1 ht1 hvm hw hB hz1 hk1 hS1 => kk r u H1 locs1 hw (by rw [← ht1]; exact hB.1) hz1 hS1)
theorem zcS_l {p : Program} {l : Launch} {e : Env} {R : Room} {s : State} {m : MethodId} {args : Array Value} {below : List Frame} {meth : Method} {c : Code} {H : Heap} {locs : List Loc} {cells slots : Nat} {Q : State → Prop} {cc : ByteArray} {pc : Nat} {ls : Array Slot} {rest st : List Value} {E : zE} {H0 : Heap} {own : String} {index maxL nL fr lo : Nat} {y : MethodName} {bytes : ByteArray} {ret : Option FieldType} {S : Type} {post : Int64 → S → Prop} {P : Heap → Prop} {P' : S → Heap → Prop} {A : Nat → Prop} (n : Nat) {As : List Value} (F : CallFix p m c cc nL s args zt own) (hM : Met l y (zws y bytes maxL ret) { frames := fr, cells := 0, slots := 0, locals := lo } (zPc E P As) (va_Ql post (fun u t => P' u t.heap ∧ zK E t) A) 0 0 A) (hcode : Cond.code y bytes maxL ret ∈ zt) (hlink : Cond.methodLink own index y ∈ zt) (hstat : Cond.static y ∈ zt) (hini : Cond.initialized y.cls ∈ zt) (hd : y.cls ≠ "java/lang/invoke/MethodHandle" ∧ y.cls ≠ "java/lang/invoke/VarHandle" ∧ (parseMethodDescriptor y.desc).map (fun d => d.parameters.length) = some n) (hR : fr + 1 ≤ R.frames ∧ 8 + (maxL + 11) + lo ≤ R.locals)
    (hP : P H) (hK : zK E s) (hsize : ls.size = nL) (hst : st = As.reverse ++ rest) (hn : As.length = n) (hroom : (rest.map fun v => v.category).sum ≤ 8) (hdg : decode cc pc = .ok (.invokestatic index, 3)) (hf : cells ≤ R.cells ∧ slots ≤ R.slots) (hS : va_S A H0 H locs)
    (kk : ∀ (r : Int64) (u : S) (H1 : Heap) (locs1 : List Loc), post r u → P' u H1 → H1.size ≥ H.size → va_S A H0 H1 locs1 → W p l e R s m args below meth c H1 locs1 cells slots Q (F0 m (pc + 3) ls (.long r :: rest))) : W p l e R s m args below meth c H locs cells slots Q (F0 m pc ls st) := by
  have ht := F.2.2.2.2
  have cb : CallB R s args own index y bytes maxL ret (zws y bytes maxL ret) { frames := fr, cells := 0, slots := 0, locals := lo } 0 0 n := callB_of n ht (good_zws hcode) rfl rfl rfl (ht _ hini) (ht _ hlink) hd hR
  exact va_calll (va_runS (As := As) (rest := rest) F hM ⟨cb, ht _ hstat⟩ ⟨zPc_blind E P _, zPc_pre hP hK⟩ rfl hn hsize hst (lv_room hroom) hdg hf) hS (fun _ _ h => h) (fun _ h => h) (fun r u t H1 locs1 ht1 hvm hw hB hz1 hk1 hS1 => kk r u H1 locs1 hw (by rw [← ht1]; exact hB.1) hz1 hS1)
theorem zcV_v {p : Program} {l : Launch} {e : Env} {R : Room} {s : State} {m : MethodId} {args : Array Value} {below : List Frame} {meth : Method} {c : Code} {H : Heap} {locs : List Loc} {cells slots : Nat} {Q : State → Prop} {cc : ByteArray} {pc : Nat} {ls : Array Slot} {rest st : List Value} {E : zE} {H0 : Heap} {own : String} {index maxL nL fr lo : Nat} {y : MethodName} {bytes : ByteArray} {ret : Option FieldType} {S : Type} {post : S → Prop} {P : Heap → Prop} {P' : S → Heap → Prop} {A : Nat → Prop} (n : Nat) {C : String} {a : Nat} {As av : List Value} (hav : av = .ref a :: As) (F : CallFix p m c cc nL s args zt own) (hM : Met l y (zws y bytes maxL ret) { frames := fr, cells := 0, slots := 0, locals := lo } (zPc E P av) (va_Qv post (fun u t => P' u t.heap ∧ zK E t) A) 0 0 A) (hcode : Cond.code y bytes maxL ret ∈ zt) (hlink : Cond.methodLink own index y ∈ zt) (hinst : Cond.instanceMethod y ∈ zt) (hsel : Cond.selects C y y ∈ zt) (hini : Cond.initialized y.cls ∈ zt) (hd : y.cls ≠ "java/lang/invoke/MethodHandle" ∧ y.cls ≠ "java/lang/invoke/VarHandle" ∧ (parseMethodDescriptor y.desc).map (fun d => d.parameters.length) = some n) (hR : fr + 1 ≤ R.frames ∧ 8 + (maxL + 11) + lo ≤ R.locals)
    (hrecv : ∃ cellB : Cell, H[a]? = some cellB ∧ cellB.vm.isStatics = false ∧ s.vm.findClass C = some cellB.cls) (hP : P H) (hK : zK E s) (hsize : ls.size = nL) (hst : st = As.reverse ++ .ref a :: rest) (hn : As.length = n) (hroom : (rest.map fun v => v.category).sum ≤ 8) (hdg : decode cc pc = .ok (.invokevirtual index, 3)) (hf : cells ≤ R.cells ∧ slots ≤ R.slots) (hS : va_S A H0 H locs)
    (kk : ∀ (u : S) (H1 : Heap) (locs1 : List Loc), post u → P' u H1 → H1.size ≥ H.size → va_S A H0 H1 locs1 → W p l e R s m args below meth c H1 locs1 cells slots Q (F0 m (pc + 3) ls (rest))) : W p l e R s m args below meth c H locs cells slots Q (F0 m pc ls st) := by
  subst hav
  have ht := F.2.2.2.2
  have cb : CallB R s args own index y bytes maxL ret (zws y bytes maxL ret) { frames := fr, cells := 0, slots := 0, locals := lo } 0 0 n := callB_of n ht (good_zws hcode) rfl rfl rfl (ht _ hini) (ht _ hlink) hd hR
  exact va_callv (va_runV (As := As) (rest := rest) (b := a) F hM ⟨cb, ht _ hinst, ht _ hsel⟩ ⟨zPc_blind E P _, hrecv, zPc_pre hP hK⟩ rfl hn hsize hst (lv_room hroom) hdg hf) hS (fun _ _ h => h) (fun _ h => h) (fun u t H1 locs1 ht1 hvm hw hB hz1 hk1 hS1 => kk u H1 locs1 hw (by rw [← ht1]; exact hB.1) hz1 hS1)
theorem zcS_v {p : Program} {l : Launch} {e : Env} {R : Room} {s : State} {m : MethodId} {args : Array Value} {below : List Frame} {meth : Method} {c : Code} {H : Heap} {locs : List Loc} {cells slots : Nat} {Q : State → Prop} {cc : ByteArray} {pc : Nat} {ls : Array Slot} {rest st : List Value} {E : zE} {H0 : Heap} {own : String} {index maxL nL fr lo : Nat} {y : MethodName} {bytes : ByteArray} {ret : Option FieldType} {S : Type} {post : S → Prop} {P : Heap → Prop} {P' : S → Heap → Prop} {A : Nat → Prop} (n : Nat) {As : List Value} (F : CallFix p m c cc nL s args zt own) (hM : Met l y (zws y bytes maxL ret) { frames := fr, cells := 0, slots := 0, locals := lo } (zPc E P As) (va_Qv post (fun u t => P' u t.heap ∧ zK E t) A) 0 0 A) (hcode : Cond.code y bytes maxL ret ∈ zt) (hlink : Cond.methodLink own index y ∈ zt) (hstat : Cond.static y ∈ zt) (hini : Cond.initialized y.cls ∈ zt) (hd : y.cls ≠ "java/lang/invoke/MethodHandle" ∧ y.cls ≠ "java/lang/invoke/VarHandle" ∧ (parseMethodDescriptor y.desc).map (fun d => d.parameters.length) = some n) (hR : fr + 1 ≤ R.frames ∧ 8 + (maxL + 11) + lo ≤ R.locals)
    (hP : P H) (hK : zK E s) (hsize : ls.size = nL) (hst : st = As.reverse ++ rest) (hn : As.length = n) (hroom : (rest.map fun v => v.category).sum ≤ 8) (hdg : decode cc pc = .ok (.invokestatic index, 3)) (hf : cells ≤ R.cells ∧ slots ≤ R.slots) (hS : va_S A H0 H locs)
    (kk : ∀ (u : S) (H1 : Heap) (locs1 : List Loc), post u → P' u H1 → H1.size ≥ H.size → va_S A H0 H1 locs1 → W p l e R s m args below meth c H1 locs1 cells slots Q (F0 m (pc + 3) ls (rest))) : W p l e R s m args below meth c H locs cells slots Q (F0 m pc ls st) := by
  have ht := F.2.2.2.2
  have cb : CallB R s args own index y bytes maxL ret (zws y bytes maxL ret) { frames := fr, cells := 0, slots := 0, locals := lo } 0 0 n := callB_of n ht (good_zws hcode) rfl rfl rfl (ht _ hini) (ht _ hlink) hd hR
  exact va_callv (va_runS (As := As) (rest := rest) F hM ⟨cb, ht _ hstat⟩ ⟨zPc_blind E P _, zPc_pre hP hK⟩ rfl hn hsize hst (lv_room hroom) hdg hf) hS (fun _ _ h => h) (fun _ h => h) (fun u t H1 locs1 ht1 hvm hw hB hz1 hk1 hS1 => kk u H1 locs1 hw (by rw [← ht1]; exact hB.1) hz1 hS1)
/-- the class of a Whole -/
theorem zW_recv {E : zE} {B k : Nat} {v : Nat → zV} {o : Nat → va_E} {H : Heap} {s : State} (hK : zK E s) (hZ : zD E B v o H) (hk : lp k = true) : ∃ cellB : Cell, H[B + k]? = some cellB ∧ cellB.vm.isStatics = false ∧ s.vm.findClass "WholeDesk$Whole" = some cellB.cls :=
  va_recv (q := ("WholeDesk$Whole", TW, 3)) hK hZ.1 (ci := 0) (q0 := k) rfl (by rw [zB_at (by have := lp_lt hk; omega), zO_W hk])
end
section
/-- a contract out of a walk of the body -/
theorem zof_v {l : Launch} {y : MethodName} {cc : ByteArray} {maxL fr lo : Nat} {E : zE} {P : Heap → Prop} {S : Type} {post : S → Prop} {P' : S → Heap → Prop} {A : Nat → Prop} {av : List Value} (hy : plainName y.cls = true) (hlen : (lg_sl av).length ≤ maxL)
    (body : ∀ (p : Program) (e : Env) (R : Room) (s : State) (m : MethodId) (args : Array Value) (below : List Frame) (meth : Method) (c : Code) (Q : State → Prop) (ls : Array Slot), R = { frames := fr, cells := 0, slots := 0, locals := lo } → p.tables.exec = Jvm.exec → c.code = cc → c.maxLocals = maxL → (∀ w ∈ zt, w.before args s = true) → s.vm.findClass y.cls = some m.cls → zK E s → P s.heap → lv_has ls maxL (lv_args 0 av) →
      (∀ (pc : Nat) (u : S) (H : Heap) (locs : List Loc) (ls : Array Slot), decode cc pc = .ok (.return_, 1) → post u → P' u H → va_S A s.heap H locs → W p l e R s m args below meth c H locs 0 0 Q (F0 m pc ls [])) → W p l e R s m args below meth c s.heap [] 0 0 Q (F0 m 0 ls [])) :
    Met l y (zws y cc maxL none) { frames := fr, cells := 0, slots := 0, locals := lo } (zPc E P av) (va_Qv post (fun u t => P' u t.heap ∧ zK E t) A) 0 0 A := by
  refine Met.ofW (cc := cc) (maxL := maxL) (ret := none) hy rfl ?_
  intro p e s m args below meth c s₁ BB hml hv
  obtain ⟨rfl, hZ, hK⟩ := hv
  have hlocks := BB.notSynchronized
  have hl := lv_entry av (n := maxL) hlen
  rw [lg_entry_eq]
  refine body p e _ s m _ below meth c _ _ rfl BB.exec BB.bytes hml (fun w h => atoms_spec (ws := zws y cc maxL none) BB.pre w (List.mem_cons_of_mem _ h)) (findClass_of_methodNamed BB.named) hK hZ hl ?_
  intro pc u H locs ls hd hp hP hS
  exact W.vret BB.exec BB.bytes BB.returns (fun t ht9 hW9 => ⟨⟨u, rfl, hp, by rw [ht9]; exact hP, va_K.moved hW9.alike hK⟩, hS.F ht9⟩) hS.2.2 hd hlocks
/-- a contract out of a walk of the body -/
theorem zof_i {l : Launch} {y : MethodName} {cc : ByteArray} {maxL fr lo : Nat} {E : zE} {P : Heap → Prop} {S : Type} {post : Int32 → S → Prop} {P' : S → Heap → Prop} {A : Nat → Prop} {av : List Value} (hy : plainName y.cls = true) (hlen : (lg_sl av).length ≤ maxL)
    (body : ∀ (p : Program) (e : Env) (R : Room) (s : State) (m : MethodId) (args : Array Value) (below : List Frame) (meth : Method) (c : Code) (Q : State → Prop) (ls : Array Slot), R = { frames := fr, cells := 0, slots := 0, locals := lo } → p.tables.exec = Jvm.exec → c.code = cc → c.maxLocals = maxL → (∀ w ∈ zt, w.before args s = true) → s.vm.findClass y.cls = some m.cls → zK E s → P s.heap → lv_has ls maxL (lv_args 0 av) →
      (∀ (pc : Nat) (r : Int32) (u : S) (H : Heap) (locs : List Loc) (ls : Array Slot), decode cc pc = .ok (.ireturn, 1) → post r u → P' u H → va_S A s.heap H locs → W p l e R s m args below meth c H locs 0 0 Q (F0 m pc ls [.int r])) → W p l e R s m args below meth c s.heap [] 0 0 Q (F0 m 0 ls [])) :
    Met l y (zws y cc maxL (some .int)) { frames := fr, cells := 0, slots := 0, locals := lo } (zPc E P av) (va_Qi post (fun u t => P' u t.heap ∧ zK E t) A) 0 0 A := by
  refine Met.ofW (cc := cc) (maxL := maxL) (ret := (some .int)) hy rfl ?_
  intro p e s m args below meth c s₁ BB hml hv
  obtain ⟨rfl, hZ, hK⟩ := hv
  have hlocks := BB.notSynchronized
  have hl := lv_entry av (n := maxL) hlen
  rw [lg_entry_eq]
  refine body p e _ s m _ below meth c _ _ rfl BB.exec BB.bytes hml (fun w h => atoms_spec (ws := zws y cc maxL (some .int)) BB.pre w (List.mem_cons_of_mem _ h)) (findClass_of_methodNamed BB.named) hK hZ hl ?_
  intro pc r u H locs ls hd hp hP hS
  exact W.iret (v := r) BB.exec BB.bytes BB.returns (fun t ht9 hW9 => ⟨⟨r, u, rfl, hp, by rw [ht9]; exact hP, va_K.moved hW9.alike hK⟩, hS.F ht9⟩) hS.2.2 hd hlocks
/-- a contract out of a walk of the body -/
theorem zof_l {l : Launch} {y : MethodName} {cc : ByteArray} {maxL fr lo : Nat} {E : zE} {P : Heap → Prop} {S : Type} {post : Int64 → S → Prop} {P' : S → Heap → Prop} {A : Nat → Prop} {av : List Value} (hy : plainName y.cls = true) (hlen : (lg_sl av).length ≤ maxL)
    (body : ∀ (p : Program) (e : Env) (R : Room) (s : State) (m : MethodId) (args : Array Value) (below : List Frame) (meth : Method) (c : Code) (Q : State → Prop) (ls : Array Slot), R = { frames := fr, cells := 0, slots := 0, locals := lo } → p.tables.exec = Jvm.exec → c.code = cc → c.maxLocals = maxL → (∀ w ∈ zt, w.before args s = true) → s.vm.findClass y.cls = some m.cls → zK E s → P s.heap → lv_has ls maxL (lv_args 0 av) →
      (∀ (pc : Nat) (r : Int64) (u : S) (H : Heap) (locs : List Loc) (ls : Array Slot), decode cc pc = .ok (.lreturn, 1) → post r u → P' u H → va_S A s.heap H locs → W p l e R s m args below meth c H locs 0 0 Q (F0 m pc ls [.long r])) → W p l e R s m args below meth c s.heap [] 0 0 Q (F0 m 0 ls [])) :
    Met l y (zws y cc maxL (some .long)) { frames := fr, cells := 0, slots := 0, locals := lo } (zPc E P av) (va_Ql post (fun u t => P' u t.heap ∧ zK E t) A) 0 0 A := by
  refine Met.ofW (cc := cc) (maxL := maxL) (ret := (some .long)) hy rfl ?_
  intro p e s m args below meth c s₁ BB hml hv
  obtain ⟨rfl, hZ, hK⟩ := hv
  have hlocks := BB.notSynchronized
  have hl := lv_entry av (n := maxL) hlen
  rw [lg_entry_eq]
  refine body p e _ s m _ below meth c _ _ rfl BB.exec BB.bytes hml (fun w h => atoms_spec (ws := zws y cc maxL (some .long)) BB.pre w (List.mem_cons_of_mem _ h)) (findClass_of_methodNamed BB.named) hK hZ hl ?_
  intro pc r u H locs ls hd hp hP hS
  exact W.lret (v := r) BB.exec BB.bytes BB.returns (fun t ht9 hW9 => ⟨⟨r, u, rfl, hp, by rw [ht9]; exact hP, va_K.moved hW9.alike hK⟩, hS.F ht9⟩) hS.2.2 hd hlocks
/-- a contract out of a walk of the body -/
theorem zof_z {l : Launch} {y : MethodName} {cc : ByteArray} {maxL fr lo : Nat} {E : zE} {P : Heap → Prop} {S : Type} {post : Int32 → S → Prop} {P' : S → Heap → Prop} {A : Nat → Prop} {av : List Value} (hy : plainName y.cls = true) (hlen : (lg_sl av).length ≤ maxL)
    (body : ∀ (p : Program) (e : Env) (R : Room) (s : State) (m : MethodId) (args : Array Value) (below : List Frame) (meth : Method) (c : Code) (Q : State → Prop) (ls : Array Slot), R = { frames := fr, cells := 0, slots := 0, locals := lo } → p.tables.exec = Jvm.exec → c.code = cc → c.maxLocals = maxL → (∀ w ∈ zt, w.before args s = true) → s.vm.findClass y.cls = some m.cls → zK E s → P s.heap → lv_has ls maxL (lv_args 0 av) →
      (∀ (pc : Nat) (r : Bool) (u : S) (H : Heap) (locs : List Loc) (ls : Array Slot), decode cc pc = .ok (.ireturn, 1) → post (iZ (bZ r)) u → P' u H → va_S A s.heap H locs → W p l e R s m args below meth c H locs 0 0 Q (F0 m pc ls [.int (iZ (bZ r))])) → W p l e R s m args below meth c s.heap [] 0 0 Q (F0 m 0 ls [])) :
    Met l y (zws y cc maxL (some .boolean)) { frames := fr, cells := 0, slots := 0, locals := lo } (zPc E P av) (va_Qi post (fun u t => P' u t.heap ∧ zK E t) A) 0 0 A := by
  refine Met.ofW (cc := cc) (maxL := maxL) (ret := (some .boolean)) hy rfl ?_
  intro p e s m args below meth c s₁ BB hml hv
  obtain ⟨rfl, hZ, hK⟩ := hv
  have hlocks := BB.notSynchronized
  have hl := lv_entry av (n := maxL) hlen
  rw [lg_entry_eq]
  refine body p e _ s m _ below meth c _ _ rfl BB.exec BB.bytes hml (fun w h => atoms_spec (ws := zws y cc maxL (some .boolean)) BB.pre w (List.mem_cons_of_mem _ h)) (findClass_of_methodNamed BB.named) hK hZ hl ?_
  intro pc r u H locs ls hd hp hP hS
  exact W.zret (v := iZ (bZ r)) BB.exec BB.bytes BB.returns (bZ_nar r) (fun t ht9 hW9 => ⟨⟨iZ (bZ r), u, rfl, hp, by rw [ht9]; exact hP, va_K.moved hW9.alike hK⟩, hS.F ht9⟩) hS.2.2 hd hlocks
theorem iZ_dec (x : Int) (n : Int) : iZ x + Int32.ofInt (-n) = iZ (x - n) := by rw [show Int32.ofInt (-n) = iZ (-n) from rfl, iZ_add, Int.sub_eq_add_neg]
theorem zi_nat {n M : Nat} (h : n ≤ M) (hM : M < 2147483648) : zi n := ⟨by omega, by omega⟩
end
section
theorem p2_1 : ((2 ^ 1 : Nat) : Int) = 2 := by decide +kernel
theorem p2_4 : ((2 ^ 4 : Nat) : Int) = 16 := by decide +kernel
theorem p2_8 : ((2 ^ 8 : Nat) : Int) = 256 := by decide +kernel
theorem p2_16 : ((2 ^ 16 : Nat) : Int) = 65536 := by decide +kernel
theorem p2_28 : ((2 ^ 28 : Nat) : Int) = 268435456 := by decide +kernel
theorem p2_32 : ((2 ^ 32 : Nat) : Int) = 4294967296 := by decide +kernel
theorem p2_48 : ((2 ^ 48 : Nat) : Int) = 281474976710656 := by decide +kernel
theorem p2_56 : ((2 ^ 56 : Nat) : Int) = 72057594037927936 := by decide +kernel
theorem m2_8 : lZ 255 = lN (2 ^ 8 - 1) := by decide +kernel
theorem m2_16 : lZ 65535 = lN (2 ^ 16 - 1) := by decide +kernel
theorem m2_28 : lZ 268435455 = lN (2 ^ 28 - 1) := by decide +kernel
theorem m2_32 : lZ 4294967295 = lN (2 ^ 32 - 1) := by decide +kernel
section ZR2
variable {p : Program} {l : Launch} {e : Env} {R : Room} {s : State} {m : MethodId} {args : Array Value} {below : List Frame} {meth : Method} {c : Code} {H : Heap} {locs : List Loc} {cells slots : Nat} {Q : State → Prop} {cc : ByteArray} {pc : Nat} {ls : Array Slot} {rest : List Value}
theorem zm_min {x y : Int} (h1 : zi x) (h2 : zi y) : (if iZ y < iZ x then iZ y else iZ x) = iZ (min x y) := by
  by_cases h : iZ y < iZ x
  · rw [if_pos h]; rw [iZ_lt h2 h1] at h; congr 1; omega
  · rw [if_neg h]; rw [iZ_lt h2 h1] at h; congr 1; omega
theorem zr_min (hx : p.tables.exec = Jvm.exec) (hb : c.code = cc) (hml : c.maxLocals = ls.size) {own : String} {index : Nat} (ht : ∀ w ∈ zt, w.before args s = true) (hown : s.vm.findClass own = some m.cls) (hl : Cond.methodLink own index ⟨"java/lang/Math", "min", "(II)I"⟩ ∈ zt) (hf : 1 ≤ R.frames) (hlo : (rest.map fun v => v.category).sum + 13 ≤ R.locals) (hc : cells ≤ R.cells) (hs : slots ≤ R.slots) {x y : Int} (h1 : zi x) (h2 : zi y) (hd : decode cc pc = .ok (.invokestatic index, 3)) (k : W p l e R s m args below meth c H locs cells slots Q (F0 m (pc + 3) ls (.int (iZ (min x y)) :: rest))) : W p l e R s m args below meth c H locs cells slots Q (F0 m pc ls (.int (iZ y) :: .int (iZ x) :: rest)) :=
  va_mmin hx hb hml hown (ht _ hl) (ht _ tw_306) (ht _ tw_12) (ht _ tw_307) hf hlo hc hs hd (by rw [zm_min h1 h2]; exact k)
theorem zm_max {x y : Int} (h1 : zi x) (h2 : zi y) : (if iZ x < iZ y then iZ y else iZ x) = iZ (max x y) := by
  by_cases h : iZ x < iZ y
  · rw [if_pos h]; rw [iZ_lt h1 h2] at h; congr 1; omega
  · rw [if_neg h]; rw [iZ_lt h1 h2] at h; congr 1; omega
theorem zr_max (hx : p.tables.exec = Jvm.exec) (hb : c.code = cc) (hml : c.maxLocals = ls.size) {own : String} {index : Nat} (ht : ∀ w ∈ zt, w.before args s = true) (hown : s.vm.findClass own = some m.cls) (hl : Cond.methodLink own index ⟨"java/lang/Math", "max", "(II)I"⟩ ∈ zt) (hf : 1 ≤ R.frames) (hlo : (rest.map fun v => v.category).sum + 13 ≤ R.locals) (hc : cells ≤ R.cells) (hs : slots ≤ R.slots) {x y : Int} (h1 : zi x) (h2 : zi y) (hd : decode cc pc = .ok (.invokestatic index, 3)) (k : W p l e R s m args below meth c H locs cells slots Q (F0 m (pc + 3) ls (.int (iZ (max x y)) :: rest))) : W p l e R s m args below meth c H locs cells slots Q (F0 m pc ls (.int (iZ y) :: .int (iZ x) :: rest)) :=
  va_mmax hx hb hml hown (ht _ hl) (ht _ tw_309) (ht _ tw_12) (ht _ tw_310) hf hlo hc hs hd (by rw [zm_max h1 h2]; exact k)
end ZR2
theorem cpy_lZ (f g : Nat → Nat) (a b n : Nat) : va_cpy (fun i => lZ (f i)) (fun i => lZ (g i)) a b n = fun i => lZ ((va_cpy f g a b n i : Nat) : Int) := by
  funext i
  unfold va_cpy
  split <;> rfl
theorem cpy_lt {f g : Nat → Nat} {a b n M : Nat} (hf : ∀ i, f i < M) (hg : ∀ i, g i < M) : ∀ i, va_cpy f g a b n i < M := fun i => by
  unfold va_cpy
  split
  · exact hf _
  · exact hg _
theorem zw_copy {p : Program} {l : Launch} {e : Env} {R : Room} {s : State} {m : MethodId} {args : Array Value} {below : List Frame} {meth : Method} {c : Code} {H : Heap} {locs : List Loc} {cells slots : Nat} {Q : State → Prop} {cc : ByteArray} {pc : Nat} {ls : Array Slot} {rest : List Value} {E : zE} {B : Nat} {v : Nat → zV} {o : Nat → va_E} {H0 : Heap} {own : String} {index k j : Nat} {d d2 : Nat → Nat} {n n2 : Nat} {b b2 : Bool} (hx : p.tables.exec = Jvm.exec) (hb : c.code = cc) (hml : c.maxLocals = ls.size) (ht : ∀ w ∈ zt, w.before args s = true) (hown : s.vm.findClass own = some m.cls) (hK : zK E s) (hZ : zD E B v o H) (hS : va_S (zA B 80) H0 H locs) (hk : lp k = true) (ev : v k = (d, n, b)) (hj : lp j = true) (ev2 : v j = (d2, n2, b2)) (hl : Cond.methodLink own index ⟨"java/lang/System", "arraycopy", "(Ljava/lang/Object;ILjava/lang/Object;II)V"⟩ ∈ zt)
    {z : Int} (h0 : 0 ≤ z) (h1 : z ≤ 152) (hf : 1 ≤ R.frames) (hlo : (rest.map fun v => v.category).sum + (nativeFrameWords "java/lang/System" "arraycopy" 5 + 11) ≤ R.locals) (hd : decode cc pc = .ok (.invokestatic index, 3))
    (kk : ∀ (v1 : Nat → zV) (H1 : Heap) (locs1 : List Loc), v1 k = (va_cpy d2 d 0 0 z.toNat, n, b) → (∀ j, j ≠ k → v1 j = v j) → zD E B v1 o H1 → va_S (zA B 80) H0 H1 locs1 → W p l e R s m args below meth c H1 locs1 cells slots Q (F0 m (pc + 3) ls rest)) : W p l e R s m args below meth c H locs cells slots Q (F0 m pc ls (.int (iZ z) :: .int (iZ 0) :: .ref (B + (k + 1)) :: .int (iZ 0) :: .ref (B + (j + 1)) :: rest)) := by
  have hzi : zi z := ⟨by omega, by omega⟩
  have z0 : (iZ 0).toNatClampNeg = 0 := rfl
  have n0 : ¬ iZ 0 < 0 := by decide
  have nz : ¬ iZ z < 0 := by rw [iZ_0, iZ_lt hzi ⟨by decide, by decide⟩]; omega
  have hok := hZ.2 k hk
  have hok2 := hZ.2 j hj
  rw [ev] at hok
  rw [ev2] at hok2
  refine va_copyl (D := E.1) (cl := zCl) (c0 := E.2.1) (c1 := E.2.1) (n0 := 152) (n1 := 152) (f := fun i => lZ (d2 i)) (g := fun i => lZ (d i)) (ty := .long) hx hb hml hown (ht _ hl) (ht _ tw_348) (ht _ tw_347) (ht _ tw_14) hK hZ.1 (zB_DA B 80 _) hS (j + 1) (k + 1) 0 0 (by rw [zB_at (lp_lt hj), zO_A hj, ev2]) (by rw [zB_at (lp_lt hk), zO_A hk, ev]) rfl rfl rfl n0 n0 nz (by rw [z0, iZ_clamp hzi]; omega) (by rw [z0, iZ_clamp hzi]; omega) (fun _ _ => rfl) hf hlo hd fun H1 locs1 hP hD hS1 => ?_
  refine kk (va_up v k (va_cpy d2 d 0 0 z.toNat, n, b)) H1 locs1 (va_up_self _ _ _) (fun j hj => va_up_ne _ _ hj) ⟨?_, hZ.2.up (cpy_lt hok2.1 hok.1) hok.2⟩ hS1
  rw [zB_set (lp_lt hk), z0, iZ_clamp hzi, cpy_lZ, zO_upA hk, ev] at hP
  exact hP
theorem tp_0 : Cond.selects "WholeDesk$Writing" ⟨"WholeDesk$Writing", "characterAt", "(J)I"⟩ ⟨"WholeDesk$Writing", "characterAt", "(J)I"⟩ ∈ zt := List.mem_filter.mpr ⟨List.mem_append_left _ (List.mem_of_getElem? (i := 0) rfl), by decide +kernel⟩
theorem tp_1 : Cond.selects "java/lang/Throwable" ⟨"java/lang/Throwable", "fillInStackTrace", "(I)Ljava/lang/Throwable;"⟩ ⟨"java/lang/Throwable", "fillInStackTrace", "(I)Ljava/lang/Throwable;"⟩ ∈ zt := List.mem_filter.mpr ⟨List.mem_append_left _ (List.mem_of_getElem? (i := 1) rfl), by decide +kernel⟩
theorem tp_2 : Cond.selects "WholeDesk$Draft" ⟨"WholeDesk$Draft", "start", "()I"⟩ ⟨"WholeDesk$Draft", "start", "()I"⟩ ∈ zt := List.mem_filter.mpr ⟨List.mem_append_left _ (List.mem_of_getElem? (i := 2) rfl), by decide +kernel⟩
theorem tp_3 : Cond.selects "WholeDesk$Draft" ⟨"WholeDesk$Draft", "startsWith", "(C)Z"⟩ ⟨"WholeDesk$Draft", "startsWith", "(C)Z"⟩ ∈ zt := List.mem_filter.mpr ⟨List.mem_append_left _ (List.mem_of_getElem? (i := 3) rfl), by decide +kernel⟩
theorem tp_4 : Cond.selects "WholeDesk" ⟨"WholeDesk", "keep", "(LWholeDesk$Whole;I)V"⟩ ⟨"WholeDesk", "keep", "(LWholeDesk$Whole;I)V"⟩ ∈ zt := List.mem_filter.mpr ⟨List.mem_append_left _ (List.mem_of_getElem? (i := 4) rfl), by decide +kernel⟩
theorem tp_5 : Cond.selects "WholeDesk$Whole" ⟨"WholeDesk$Whole", "guess", "(IIJJ)J"⟩ ⟨"WholeDesk$Whole", "guess", "(IIJJ)J"⟩ ∈ zt := List.mem_filter.mpr ⟨List.mem_append_left _ (List.mem_of_getElem? (i := 5) rfl), by decide +kernel⟩
theorem tp_6 : Cond.selects "WholeDesk$Reckoner" ⟨"WholeDesk$Reckoner", "times", "(LWholeDesk$Whole;)V"⟩ ⟨"WholeDesk$Reckoner", "times", "(LWholeDesk$Whole;)V"⟩ ∈ zt := List.mem_filter.mpr ⟨List.mem_append_left _ (List.mem_of_getElem? (i := 6) rfl), by decide +kernel⟩
theorem tp_7 : Cond.selects "WholeDesk$Reckoner" ⟨"WholeDesk$Reckoner", "improve", "(LWholeDesk$Whole;ILWholeDesk$Whole;LWholeDesk$Whole;)V"⟩ ⟨"WholeDesk$Reckoner", "improve", "(LWholeDesk$Whole;ILWholeDesk$Whole;LWholeDesk$Whole;)V"⟩ ∈ zt := List.mem_filter.mpr ⟨List.mem_append_left _ (List.mem_of_getElem? (i := 7) rfl), by decide +kernel⟩
theorem tp_8 : Cond.selects "WholeDesk$Reckoner" ⟨"WholeDesk$Reckoner", "fillPowers", "(LWholeDesk$Whole;LWholeDesk$Whole;)V"⟩ ⟨"WholeDesk$Reckoner", "fillPowers", "(LWholeDesk$Whole;LWholeDesk$Whole;)V"⟩ ∈ zt := List.mem_filter.mpr ⟨List.mem_append_left _ (List.mem_of_getElem? (i := 8) rfl), by decide +kernel⟩
theorem tp_9 : Cond.selects "WholeDesk$Reckoner" ⟨"WholeDesk$Reckoner", "timesModulo", "(LWholeDesk$Whole;LWholeDesk$Whole;)V"⟩ ⟨"WholeDesk$Reckoner", "timesModulo", "(LWholeDesk$Whole;LWholeDesk$Whole;)V"⟩ ∈ zt := List.mem_filter.mpr ⟨List.mem_append_left _ (List.mem_of_getElem? (i := 9) rfl), by decide +kernel⟩
theorem tp_10 : Cond.selects "WholeDesk$Writing" ⟨"WholeDesk$Writing", "prependDigits", "(JII)V"⟩ ⟨"WholeDesk$Writing", "prependDigits", "(JII)V"⟩ ∈ zt := List.mem_filter.mpr ⟨List.mem_append_left _ (List.mem_of_getElem? (i := 10) rfl), by decide +kernel⟩
theorem tp_11 : Cond.selects "WholeDesk$Writing" ⟨"WholeDesk$Writing", "prepend", "(C)V"⟩ ⟨"WholeDesk$Writing", "prepend", "(C)V"⟩ ∈ zt := List.mem_filter.mpr ⟨List.mem_append_left _ (List.mem_of_getElem? (i := 11) rfl), by decide +kernel⟩
theorem tp_12 : Cond.selects "WholeDeskModel" ⟨"WholeDeskModel", "store", "(I)V"⟩ ⟨"WholeDeskModel", "store", "(I)V"⟩ ∈ zt := List.mem_filter.mpr ⟨List.mem_append_left _ (List.mem_of_getElem? (i := 12) rfl), by decide +kernel⟩
theorem tp_13 : Cond.selects "WholeDeskModel" ⟨"WholeDeskModel", "take", "(I[I)V"⟩ ⟨"WholeDeskModel", "take", "(I[I)V"⟩ ∈ zt := List.mem_filter.mpr ⟨List.mem_append_left _ (List.mem_of_getElem? (i := 13) rfl), by decide +kernel⟩
theorem tp_14 : Cond.selects "WholeDeskModel" ⟨"WholeDeskModel", "sum", "([IZ[IZ)V"⟩ ⟨"WholeDeskModel", "sum", "([IZ[IZ)V"⟩ ∈ zt := List.mem_filter.mpr ⟨List.mem_append_left _ (List.mem_of_getElem? (i := 14) rfl), by decide +kernel⟩
theorem tp_15 : Cond.selects "WholeDeskModel" ⟨"WholeDeskModel", "multiplyRows", "([I[I[I)V"⟩ ⟨"WholeDeskModel", "multiplyRows", "([I[I[I)V"⟩ ∈ zt := List.mem_filter.mpr ⟨List.mem_append_left _ (List.mem_of_getElem? (i := 15) rfl), by decide +kernel⟩
theorem tp_16 : Cond.selects "WholeDeskModel" ⟨"WholeDeskModel", "isZero", "(I)Z"⟩ ⟨"WholeDeskModel", "isZero", "(I)Z"⟩ ∈ zt := List.mem_filter.mpr ⟨List.mem_append_left _ (List.mem_of_getElem? (i := 16) rfl), by decide +kernel⟩
theorem tp_17 : Cond.selects "WholeDeskModel" ⟨"WholeDeskModel", "divideRows", "([I[I)V"⟩ ⟨"WholeDeskModel", "divideRows", "([I[I)V"⟩ ∈ zt := List.mem_filter.mpr ⟨List.mem_append_left _ (List.mem_of_getElem? (i := 17) rfl), by decide +kernel⟩
theorem tp_18 : Cond.selects "WholeDeskModel" ⟨"WholeDeskModel", "isAbove0", "(I)Z"⟩ ⟨"WholeDeskModel", "isAbove0", "(I)Z"⟩ ∈ zt := List.mem_filter.mpr ⟨List.mem_append_left _ (List.mem_of_getElem? (i := 18) rfl), by decide +kernel⟩
theorem tp_19 : Cond.selects "WholeDeskModel" ⟨"WholeDeskModel", "reduce", "(I[I)V"⟩ ⟨"WholeDeskModel", "reduce", "(I[I)V"⟩ ∈ zt := List.mem_filter.mpr ⟨List.mem_append_left _ (List.mem_of_getElem? (i := 19) rfl), by decide +kernel⟩
theorem tp_20 : Cond.selects "WholeDeskModel" ⟨"WholeDeskModel", "setOne", "([I)V"⟩ ⟨"WholeDeskModel", "setOne", "([I)V"⟩ ∈ zt := List.mem_filter.mpr ⟨List.mem_append_left _ (List.mem_of_getElem? (i := 20) rfl), by decide +kernel⟩
theorem tp_21 : Cond.selects "WholeDeskModel" ⟨"WholeDeskModel", "fits", "(I)Z"⟩ ⟨"WholeDeskModel", "fits", "(I)Z"⟩ ∈ zt := List.mem_filter.mpr ⟨List.mem_append_left _ (List.mem_of_getElem? (i := 21) rfl), by decide +kernel⟩
theorem tp_22 : Cond.selects "WholeDeskModel" ⟨"WholeDeskModel", "inverts", "()Z"⟩ ⟨"WholeDeskModel", "inverts", "()Z"⟩ ∈ zt := List.mem_filter.mpr ⟨List.mem_append_left _ (List.mem_of_getElem? (i := 22) rfl), by decide +kernel⟩
theorem tp_23 : Cond.selects "WholeDeskModel" ⟨"WholeDeskModel", "limb", "(II)I"⟩ ⟨"WholeDeskModel", "limb", "(II)I"⟩ ∈ zt := List.mem_filter.mpr ⟨List.mem_append_left _ (List.mem_of_getElem? (i := 23) rfl), by decide +kernel⟩
end
section
/-- limb z of the n in use, 0 elsewhere -/
def wz (d : Nat → Nat) (n : Nat) (z : Int) : Nat := if 0 ≤ z then wx d n z.toNat else 0
theorem wz_in {d : Nat → Nat} {n : Nat} {z : Int} (h0 : 0 ≤ z) (h1 : z < n) : wz d n z = d z.toNat := by
  unfold wz
  rw [if_pos h0, wx_in (by omega)]
theorem wz_out {d : Nat → Nat} {n : Nat} {z : Int} (h : z < 0 ∨ (n : Int) ≤ z) : wz d n z = 0 := by
  unfold wz
  by_cases h0 : 0 ≤ z
  · rw [if_pos h0, wx_out (by omega)]
  · rw [if_neg h0]
theorem wz_nat (d : Nat → Nat) (n i : Nat) : wz d n i = wx d n i := by
  unfold wz
  rw [if_pos (by omega), Int.toNat_natCast]
theorem wz_lt {d : Nat → Nat} (hd : ∀ i, d i < 268435456) (n : Nat) (z : Int) : wz d n z < 268435456 := by
  unfold wz
  split
  · exact wx_lt hd n _
  · decide
theorem lsh_z (d : Nat → Nat) (n : Nat) {up : Nat} {z : Int} (hz : -1 ≤ z) : ((lsh d n up (z + 1).toNat : Nat) : Int) = ((wz d n z : Int) * ((2 ^ up : Nat) : Int) + (wz d n (z - 1) : Int) / ((2 ^ (28 - up) : Nat) : Int)) % 268435456 := by
  obtain ⟨j, hj⟩ : ∃ j : Nat, z = (j : Int) - 1 := ⟨(z + 1).toNat, by omega⟩
  subst hj
  rw [show ((j : Int) - 1 + 1).toNat = j by omega]
  match j with
  | 0 =>
    rw [wz_out (z := ((0 : Nat) : Int) - 1) (by omega), wz_out (z := ((0 : Nat) : Int) - 1 - 1) (by omega)]
    show (0 : Int) = _
    simp
  | 1 =>
    rw [show (((1 : Nat) : Int) - 1) = ((0 : Nat) : Int) by omega, wz_nat, wz_out (z := ((0 : Nat) : Int) - 1) (by omega)]
    show ((wx d n 0 * 2 ^ up % 268435456 : Nat) : Int) = _
    simp [Int.natCast_emod, Int.natCast_mul]
  | i + 2 =>
    rw [show (((i + 2 : Nat) : Int) - 1) = ((i + 1 : Nat) : Int) by omega, wz_nat, show (((i + 1 : Nat) : Int) - 1) = ((i : Nat) : Int) by omega, wz_nat]
    show (((wx d n (i + 1) * 2 ^ up + wx d n i / 2 ^ (28 - up)) % 268435456 : Nat) : Int) = _
    rw [Int.natCast_emod, Int.natCast_add, Int.natCast_mul, Int.natCast_ediv]
    rfl
/-- no zero limb above -/
def nz (d : Nat → Nat) (n : Nat) : Prop := n ≠ 0 → d (n - 1) ≠ 0
theorem nz_0 (d : Nat → Nat) : nz d 0 := fun h => absurd rfl h
theorem nz_pos {d : Nat → Nat} {n : Nat} (h : nz d n) : n ≠ 0 ↔ 0 < wv d n := by
  constructor
  · intro hn
    have := wv_ge (h hn)
    rw [show n - 1 + 1 = n by omega] at this
    have := wP_pos (n - 1)
    omega
  · intro h0 e
    subst e
    rw [wv_0] at h0
    omega
theorem nz_le {d : Nat → Nat} {n m : Nat} (hd : ∀ i, d i < 268435456) (h : nz d n) : n ≤ m ↔ wv d n < wP m := by
  constructor
  · intro hn
    exact Nat.lt_of_lt_of_le (wv_lt hd n) (wP_mono hn)
  · intro hw
    rcases Nat.lt_or_ge m n with h2 | h2
    · have h1 := wv_ge (h (by omega))
      rw [show n - 1 + 1 = n by omega] at h1
      have := wP_mono (show m ≤ n - 1 by omega)
      omega
    · exact h2
def cmpZ (a b : Int) : Int := if a < b then -1 else if a = b then 0 else 1
/-- a number: no zero limbs above, 0 not below 0, its value -/
def zN (w : zV) (x : Int) : Prop := nz w.1 w.2.1 ∧ (w.2.2 = true → w.2.1 ≠ 0) ∧ x = if w.2.2 = true then -(wv w.1 w.2.1 : Int) else (wv w.1 w.2.1 : Int)
theorem zN_abs {w : zV} {x : Int} (h : zN w x) : x.natAbs = wv w.1 w.2.1 := by
  obtain ⟨-, -, e⟩ := h
  rw [e]
  split <;> omega
theorem zN_neg {w : zV} {x : Int} (h : zN w x) : w.2.2 = true ↔ x < 0 := by
  obtain ⟨h1, h2, e⟩ := h
  constructor
  · intro hb
    have := (nz_pos h1).mp (h2 hb)
    rw [if_pos hb] at e
    omega
  · intro hx
    by_cases hb : w.2.2 = true
    · exact hb
    · rw [if_neg hb] at e
      omega
theorem zN_0 {w : zV} {x : Int} (h : zN w x) : w.2.1 = 0 ↔ x = 0 := by
  have h1 := zN_abs h
  have h2 := nz_pos h.1
  omega
theorem bl_28 {x k : Nat} (hx : x < 268435456) (h : bl x k) : k ≤ 28 := (bl_le h).mpr hx
theorem bl_of {x k : Nat} (h1 : x < 2 ^ k) (h2 : k ≠ 0 → 2 ^ (k - 1) ≤ x) : bl x k := ⟨h1, h2⟩
end
section
theorem zN_trim {d : Nat → Nat} {n n1 : Nat} {b : Bool} (hle : n1 ≤ n) (hz : ∀ i, n1 ≤ i → i < n → d i = 0) (hnz : nz d n1) : zN (d, n1, b && decide (n1 ≠ 0)) (if b = true then -(wv d n : Int) else (wv d n : Int)) := by
  refine ⟨hnz, fun h => ?_, ?_⟩
  · have h1 : (b && decide (n1 ≠ 0)) = true := h
    rw [Bool.and_eq_true] at h1
    exact of_decide_eq_true h1.2
  · show _ = if (b && decide (n1 ≠ 0)) = true then -(wv d n1 : Int) else (wv d n1 : Int)
    rw [wv_drop hle hz]
    cases b
    · rfl
    · by_cases h0 : n1 = 0
      · subst h0; rfl
      · rw [show (true && decide (n1 ≠ 0)) = true from by simp [h0]]
theorem wv3 (d : Nat → Nat) (a b c : Nat) : wv (va_up (va_up (va_up d 0 a) 1 b) 2 c) 3 = a + b * 268435456 + c * 72057594037927936 := by
  simp [wv, va_up, wP]
theorem wv_tail {d d1 : Nat → Nat} {a : Nat} : ∀ {n : Nat}, a ≤ n → (∀ q, a ≤ q → d1 q = d q) → wv d1 n + wv d a = wv d n + wv d1 a
  | 0, h, _ => by rw [show a = 0 by omega]; rfl
  | n + 1, h, hq => by
    by_cases e : a = n + 1
    · rw [e, Nat.add_comm]
    · have := wv_tail (n := n) (by omega) hq
      rw [wv_s, wv_s, hq n (by omega)]
      omega
theorem mixA {d d1 : Nat → Nat} {n a : Nat} {c Y : Int} (hI : (wv d1 a : Int) + c * wP a = wv d a + Y) (h : a = n) : (wv d1 n : Int) + c * wP n = wv d n + Y := h ▸ hI
theorem mixB {d d1 : Nat → Nat} {n a : Nat} {c Y : Int} (hI : (wv d1 a : Int) + c * wP a = wv d a + Y) (hu : ∀ q, a ≤ q → d1 q = d q) (h : a ≤ n) (hc : c = 0) : (wv d1 n : Int) + c * wP n = wv d n + Y := by
  subst hc
  rw [Int.zero_mul] at hI ⊢
  have := wv_tail h hu
  omega
theorem scale_end {d d1 d2 : Nat → Nat} {f s c n : Nat} (hf : f < 268435456) (hs : s < 268435456) (hd : ∀ i, d i < 268435456) (hlo : ∀ i, i < n → d1 i = d i) (hhi : d1 n = 0) (hI : wv d2 (n + 1) + c * wP (n + 1) = f * wv d1 (n + 1) + s) : wv d2 (n + 1) = f * wv d n + s := by
  have e : wv d1 (n + 1) = wv d n := by rw [wv_s, hhi, Nat.zero_mul, Nat.add_zero]; exact wv_congr hlo
  rw [e] at hI
  have h1 := wv_lt hd n
  have h2 : f * wv d n ≤ 268435455 * wv d n := Nat.mul_le_mul_right _ (by omega)
  have h3 := wP_s n
  have hc : c = 0 := by
    rcases Nat.eq_zero_or_pos c with h | h
    · exact h
    · have : 1 * wP (n + 1) ≤ c * wP (n + 1) := Nat.mul_le_mul_right _ h
      omega
  subst hc
  omega
theorem wP_posZ (n : Nat) : (0 : Int) < wP n := by have := wP_pos n; omega
end
section
theorem tb_f1 {b : Bool} {n1 : Nat} (h : bZ b = 0) : (b && decide (n1 ≠ 0)) = false := by rw [bZ_f.mp h]; rfl
theorem tb_f2 {b : Bool} {n1 : Nat} (h : (n1 : Int) ≤ 0) : (b && decide (n1 ≠ 0)) = false := by
  have : n1 = 0 := by omega
  subst this
  simp
theorem tb_t {b : Bool} {n1 : Nat} (h : ¬ bZ b = 0) (h2 : (0 : Int) < n1) : (b && decide (n1 ≠ 0)) = true := by
  rw [bZ_nf.mp h]
  simp
  omega
set_option maxHeartbeats 4000000 in
set_option maxRecDepth 100000 in
theorem mW_trim (l : Launch) (E : zE) (B : Nat) (v0 : Nat → zV) (o : Nat → va_E) (k : Nat) (hk : lp k = true) (d : Nat → Nat) (n : Nat) (b : Bool) (ev : v0 k = (d, n, b)) :
    Met l yW_trim (zws yW_trim cW_trim 1 none) { frames := 0, cells := 0, slots := 0, locals := 0 } (zPc E (zD E B v0 o) [.ref (B + k)]) (va_Qv (fun v : Nat → zV => (∀ j, j ≠ k → v j = v0 j) ∧ ∃ n1, v k = (d, n1, b && decide (n1 ≠ 0)) ∧ n1 ≤ n ∧ (∀ i, n1 ≤ i → i < n → d i = 0) ∧ nz d n1) (fun v t => zD E B v o t.heap ∧ zK E t) (zA B 80)) 0 0 (zA B 80) := by
  refine zof_v (by decide) (Nat.le_of_ble_eq_true rfl) fun p e R s m args below meth c Q ls hR hx hb hml ht hown hK hZ hl hend => ?_
  have hS : va_S (zA B 80) s.heap s.heap [] := va_S.rf
  have hown : s.vm.findClass "WholeDesk$Whole" = some m.cls := hown
  have hl : lv_has ls 1 [(0, .ref (B + k))] := hl
  have hn : n ≤ 152 := by have := (hZ.2 k hk).2; rw [ev] at this; exact this
  have hd0 : ∀ i, d i < 268435456 := by have := (hZ.2 k hk).1; rw [ev] at this; exact this
  have fr : ∀ j, j ≠ k → v0 j = v0 j := fun j _ => rfl
  have L0 : ∀ (fu : Nat) (n1 : Nat) (v : Nat → zV) (H : Heap) (locs : List Loc) (ls : Array Slot), n1 < fu → (n1 ≤ n ∧ ∀ i, n1 ≤ i → i < n → d i = 0) → v k = (d, n1, b) → (∀ j, j ≠ k → v j = v0 j) → zD E B v o H → va_S (zA B 80) s.heap H locs → lv_has ls 1 [(0, .ref (B + k))] → W p l e R s m args below meth c H locs 0 0 Q (F0 m 0 ls []) := by
    intro fu
    induction fu with
    | zero => intro n1 v H locs ls hm; exact absurd hm (Nat.not_lt_zero _)
    | succ fu ihL0 =>
      intro n1 v H locs ls hm hI ev fr hZ hS hl
      have J36 : ∀  (v : Nat → zV) (H : Heap) (locs : List Loc) (ls : Array Slot), (nz d n1) → v k = (d, n1, b) → (∀ j, j ≠ k → v j = v0 j) → zD E B v o H → va_S (zA B 80) s.heap H locs → lv_has ls 1 [(0, .ref (B + k))] → W p l e R s m args below meth c H locs 0 0 Q (F0 m 36 ls []) := by
        intro  v H locs ls hT ev fr hZ hS hl
        refine lv_aload_n hx hb dW_trim_36 rfl (lv_at hl 0 rfl) ?_
        refine lv_aload_n hx hb dW_trim_37 rfl (lv_at hl 0 rfl) ?_
        refine zw_below hx hb ht hown hK hZ hk ev tw_39 dW_trim_38 ?_
        refine zr_if_eq (tgt := 55) hx hb (by have := bZ_01 b; omega) dW_trim_41 (by decide) (fun c_1 => ?_) (fun c_1 => ?_)
        · refine lv_iconst (v := iZ (0)) hx hb dW_trim_55 (by decide) ?_
          refine W.eq (g2 := F0 m 56 ls (.int (iZ (bZ false)) :: .ref (B + k) :: [])) rfl ?_
          refine zw_put_below (b1 := false) hx hb ht hown hK hZ hk ev hS tw_39 dW_trim_56 (fun v H locs ev ho hZ hS => ?_)
          have fr : ∀ j, j ≠ k → v j = v0 j := fun j h0 => (ho j h0).trans (fr j h0)
          exact hend 59 v _ _ _ dW_trim_59 (⟨fr, n1, by rw [ev]; first | rw [tb_t (by assumption) (by assumption)] | rw [tb_f1 (by assumption)] | rw [tb_f2 (by assumption)], hI.1, hI.2, hT⟩) hZ hS
        · refine lv_aload_n hx hb dW_trim_44 rfl (lv_at hl 0 rfl) ?_
          refine zw_count hx hb ht hown hK hZ hk ev tw_34 dW_trim_45 ?_
          refine zr_if_le (tgt := 55) hx hb (by omega) dW_trim_48 (by decide) (fun c_2 => ?_) (fun c_2 => ?_)
          · refine lv_iconst (v := iZ (0)) hx hb dW_trim_55 (by decide) ?_
            refine W.eq (g2 := F0 m 56 ls (.int (iZ (bZ false)) :: .ref (B + k) :: [])) rfl ?_
            refine zw_put_below (b1 := false) hx hb ht hown hK hZ hk ev hS tw_39 dW_trim_56 (fun v H locs ev ho hZ hS => ?_)
            have fr : ∀ j, j ≠ k → v j = v0 j := fun j h0 => (ho j h0).trans (fr j h0)
            exact hend 59 v _ _ _ dW_trim_59 (⟨fr, n1, by rw [ev]; first | rw [tb_t (by assumption) (by assumption)] | rw [tb_f1 (by assumption)] | rw [tb_f2 (by assumption)], hI.1, hI.2, hT⟩) hZ hS
          · refine lv_iconst (v := iZ (1)) hx hb dW_trim_51 (by decide) ?_
            refine lv_goto (tgt := 56) hx hb dW_trim_52 (by decide) ?_
            refine W.eq (g2 := F0 m 56 ls (.int (iZ (bZ true)) :: .ref (B + k) :: [])) rfl ?_
            refine zw_put_below (b1 := true) hx hb ht hown hK hZ hk ev hS tw_39 dW_trim_56 (fun v H locs ev ho hZ hS => ?_)
            have fr : ∀ j, j ≠ k → v j = v0 j := fun j h0 => (ho j h0).trans (fr j h0)
            exact hend 59 v _ _ _ dW_trim_59 (⟨fr, n1, by rw [ev]; first | rw [tb_t (by assumption) (by assumption)] | rw [tb_f1 (by assumption)] | rw [tb_f2 (by assumption)], hI.1, hI.2, hT⟩) hZ hS
      refine lv_aload_n hx hb dW_trim_0 rfl (lv_at hl 0 rfl) ?_
      refine zw_count hx hb ht hown hK hZ hk ev tw_34 dW_trim_1 ?_
      refine zr_if_le (tgt := 36) hx hb (by omega) dW_trim_4 (by decide) (fun c_3 => ?_) (fun c_3 => ?_)
      · exact J36  v _ _ _ (fun h0 => by omega) ev fr hZ hS (lv_sub hl [0] rfl)
      · refine lv_aload_n hx hb dW_trim_7 rfl (lv_at hl 0 rfl) ?_
        refine zw_limbs hx hb ht hown hK hZ hk ev tw_31 dW_trim_8 ?_
        refine lv_aload_n hx hb dW_trim_11 rfl (lv_at hl 0 rfl) ?_
        refine zw_count hx hb ht hown hK hZ hk ev tw_34 dW_trim_12 ?_
        refine lv_iconst (v := iZ (1)) hx hb dW_trim_15 (by decide) ?_
        refine zr_isub hx hb dW_trim_16 ?_
        refine zw_ld hx hb hK hZ hk ev (by omega) (by omega) dW_trim_17 ?_
        rw [show (↑n1 - 1 : Int).toNat = n1 - 1 from by omega]
        refine lv_lconst (v := lZ (0)) hx hb dW_trim_18 (by decide) ?_
        refine zr_lcmp_ne (tgt := 36) hx hb ⟨by omega, by have := hd0 (n1 - 1); omega⟩ (by omega) dW_trim_19 dW_trim_20 (by decide) (fun c_4 => ?_) (fun c_4 => ?_)
        · exact J36  v _ _ _ (fun h0 => by omega) ev fr hZ hS (lv_sub hl [0] rfl)
        · refine lv_aload_n hx hb dW_trim_23 rfl (lv_at hl 0 rfl) ?_
          refine lv_dup hx hb dW_trim_24 rfl ?_
          refine zw_count hx hb ht hown hK hZ hk ev tw_34 dW_trim_25 ?_
          refine lv_iconst (v := iZ (1)) hx hb dW_trim_28 (by decide) ?_
          refine zr_isub hx hb dW_trim_29 ?_
          rw [show (↑n1 - 1 : Int) = ((n1 - 1 : Nat) : Int) from by omega]
          refine zw_put_count (n1 := n1 - 1) hx hb ht hown hK hZ hk ev hS (by omega) tw_34 dW_trim_30 (fun v H locs ev ho hZ hS => ?_)
          have fr : ∀ j, j ≠ k → v j = v0 j := fun j h0 => (ho j h0).trans (fr j h0)
          refine lv_goto (tgt := 0) hx hb dW_trim_33 (by decide) ?_
          exact ihL0 (n1 - 1) v _ _ _ (by omega) (⟨by omega, fun i h1 h2 => by
            by_cases e : i = n1 - 1
            · rw [e]; omega
            · exact hI.2 i (by omega) h2⟩) ev fr hZ hS (lv_sub hl [0] rfl)
  exact L0 _ n v0 _ _ _ (Nat.lt_succ_self _) (⟨Nat.le_refl _, fun i h1 h2 => absurd h1 (by omega)⟩) ev fr hZ hS (lv_sub hl [0] rfl)

set_option maxHeartbeats 4000000 in
set_option maxRecDepth 100000 in
theorem mW_limb (l : Launch) (E : zE) (B : Nat) (v0 : Nat → zV) (o : Nat → va_E) (k : Nat) (hk : lp k = true) (d : Nat → Nat) (n : Nat) (b : Bool) (ev : v0 k = (d, n, b)) (z : Int) (hz : zi z) :
    Met l yW_limb (zws yW_limb cW_limb 2 (some .long)) { frames := 0, cells := 0, slots := 0, locals := 0 } (zPc E (zD E B v0 o) [.ref (B + k), .int (iZ (z))]) (va_Ql (fun (r : Int64) (v : Nat → zV) => v = v0 ∧ r = lZ (wz d n z)) (fun v t => zD E B v o t.heap ∧ zK E t) (zA B 80)) 0 0 (zA B 80) := by
  refine zof_l (by decide) (Nat.le_of_ble_eq_true rfl) fun p e R s m args below meth c Q ls hR hx hb hml ht hown hK hZ hl hend => ?_
  have hS : va_S (zA B 80) s.heap s.heap [] := va_S.rf
  have hown : s.vm.findClass "WholeDesk$Whole" = some m.cls := hown
  have hl : lv_has ls 2 [(0, .ref (B + k)), (1, .int (iZ (z)))] := hl
  have hn : n ≤ 152 := by have := (hZ.2 k hk).2; rw [ev] at this; exact this
  refine lv_iload_n hx hb dW_limb_0 rfl (lv_at hl 1 rfl) ?_
  refine zr_if_lt (tgt := 21) hx hb (by omega) dW_limb_1 (by decide) (fun c_1 => ?_) (fun c_1 => ?_)
  · refine lv_lconst (v := lZ (0)) hx hb dW_limb_21 (by decide) ?_
    exact hend 22 (_) v0 _ _ _ dW_limb_22 (⟨rfl, by rw [wz_out (by omega)]; rfl⟩) hZ hS
  · refine lv_iload_n hx hb dW_limb_4 rfl (lv_at hl 1 rfl) ?_
    refine lv_aload_n hx hb dW_limb_5 rfl (lv_at hl 0 rfl) ?_
    refine zw_count hx hb ht hown hK hZ hk ev tw_34 dW_limb_6 ?_
    refine zr_icmp_ge (tgt := 21) hx hb (by omega) (by omega) dW_limb_9 (by decide) (fun c_2 => ?_) (fun c_2 => ?_)
    · refine lv_lconst (v := lZ (0)) hx hb dW_limb_21 (by decide) ?_
      exact hend 22 (_) v0 _ _ _ dW_limb_22 (⟨rfl, by rw [wz_out (by omega)]; rfl⟩) hZ hS
    · refine lv_aload_n hx hb dW_limb_12 rfl (lv_at hl 0 rfl) ?_
      refine zw_limbs hx hb ht hown hK hZ hk ev tw_31 dW_limb_13 ?_
      refine lv_iload_n hx hb dW_limb_16 rfl (lv_at hl 1 rfl) ?_
      refine zw_ld hx hb hK hZ hk ev (by omega) (by omega) dW_limb_17 ?_
      refine lv_goto (tgt := 22) hx hb dW_limb_18 (by decide) ?_
      exact hend 22 (_) v0 _ _ _ dW_limb_22 (⟨rfl, by rw [wz_in (by omega) (by omega)]⟩) hZ hS

set_option maxHeartbeats 4000000 in
set_option maxRecDepth 100000 in
theorem mW_limbShifted (l : Launch) (E : zE) (B : Nat) (v0 : Nat → zV) (o : Nat → va_E) (k : Nat) (hk : lp k = true) (d : Nat → Nat) (n : Nat) (b : Bool) (ev : v0 k = (d, n, b)) (z : Int) (hz : -1 ≤ z ∧ z ≤ 1000) (up : Nat) (hup : up ≤ 28) :
    Met l yW_limbShifted (zws yW_limbShifted cW_limbShifted 7 (some .long)) { frames := 0, cells := 0, slots := 0, locals := 0 } (zPc E (zD E B v0 o) [.ref (B + k), .int (iZ (z)), .int (iZ (↑up))]) (va_Ql (fun (r : Int64) (v : Nat → zV) => v = v0 ∧ r = lZ (lsh d n up (z + 1).toNat)) (fun v t => zD E B v o t.heap ∧ zK E t) (zA B 80)) 0 0 (zA B 80) := by
  refine zof_l (by decide) (Nat.le_of_ble_eq_true rfl) fun p e R s m args below meth c Q ls hR hx hb hml ht hown hK hZ hl hend => ?_
  have hS : va_S (zA B 80) s.heap s.heap [] := va_S.rf
  have hown : s.vm.findClass "WholeDesk$Whole" = some m.cls := hown
  have hl : lv_has ls 7 [(0, .ref (B + k)), (1, .int (iZ (z))), (2, .int (iZ (↑up)))] := hl
  have hn : n ≤ 152 := by have := (hZ.2 k hk).2; rw [ev] at this; exact this
  have hd0 : ∀ i, d i < 268435456 := by have := (hZ.2 k hk).1; rw [ev] at this; exact this
  have J22 : ∀ (h : Nat) (H : Heap) (locs : List Loc) (ls : Array Slot), (h = wz d n z) → zD E B v0 o H → va_S (zA B 80) s.heap H locs → lv_has ls 7 [(0, .ref (B + k)), (1, .int (iZ (z))), (2, .int (iZ (↑up)))] → W p l e R s m args below meth c H locs 0 0 Q (F0 m 22 ls [.long (lZ (↑h))]) := by
    intro h H locs ls eh  hZ hS hl
    have J48 : ∀ (u : Nat) (H : Heap) (locs : List Loc) (ls : Array Slot), (u = wz d n (z - 1)) → zD E B v0 o H → va_S (zA B 80) s.heap H locs → lv_has ls 7 [(0, .ref (B + k)), (1, .int (iZ (z))), (2, .int (iZ (↑up))), (3, .long (lZ (↑h)))] → W p l e R s m args below meth c H locs 0 0 Q (F0 m 48 ls [.long (lZ (↑u))]) := by
      intro u H locs ls eu  hZ hS hl
      refine lv_lstore (lv' := [(5, .long (lZ (↑u))), (0, .ref (B + k)), (1, .int (iZ (z))), (2, .int (iZ (↑up))), (3, .long (lZ (↑h)))]) hx hb dW_limbShifted_48 hl (by decide) rfl (fun ls hl => ?_)
      refine lv_lload_n hx hb dW_limbShifted_50 rfl (lv_at hl 4 rfl) ?_
      refine lv_iload_n hx hb dW_limbShifted_51 rfl (lv_at hl 3 rfl) ?_
      refine zr_lshl (n := up) (P := ((2 ^ up : Nat) : Int)) hx hb (by omega) (rfl) dW_limbShifted_52 ?_
      refine lv_lload hx hb dW_limbShifted_53 (lv_at hl 0 rfl) ?_
      refine lv_bipush (v := iZ (28)) hx hb dW_limbShifted_55 (by decide) ?_
      refine lv_iload_n hx hb dW_limbShifted_57 rfl (lv_at hl 3 rfl) ?_
      refine zr_isub hx hb dW_limbShifted_58 ?_
      refine zc_i (y := iZ (↑(28 - up))) (congrArg iZ (by omega)) ?_
      have hu28 : u < 268435456 := by rw [eu]; exact wz_lt hd0 n _
      have hh28 : h < 268435456 := by rw [eh]; exact wz_lt hd0 n _
      refine zr_lushr (n := 28 - up) (P := ((2 ^ (28 - up) : Nat) : Int)) hx hb (by omega) (by omega) (by omega) (rfl) dW_limbShifted_59 ?_
      have hST : 2 ^ up * 2 ^ (28 - up) = 268435456 := by rw [← Nat.pow_add, show up + (28 - up) = 28 by omega]
      have hq : u / 2 ^ (28 - up) < 2 ^ up := (Nat.div_lt_iff_lt_mul (Nat.two_pow_pos _)).mpr (by rw [hST]; exact hu28)
      have hp28 : 2 ^ up ≤ 268435456 := Nat.pow_le_pow_right (n := 2) (by decide) hup
      have hm : h * 2 ^ up ≤ 268435455 * 268435456 := Nat.mul_le_mul (by omega) hp28
      have eq1 : (u : Int) / ((2 ^ (28 - up) : Nat) : Int) = ((u / 2 ^ (28 - up) : Nat) : Int) := (Int.natCast_ediv _ _).symm
      have eq2 : (h : Int) * ((2 ^ up : Nat) : Int) = ((h * 2 ^ up : Nat) : Int) := (Int.natCast_mul _ _).symm
      have h9 : h * 2 ^ up + u / 2 ^ (28 - up) < 18446744073709551616 := Nat.lt_of_le_of_lt (Nat.add_le_add hm (Nat.le_of_lt hq)) (by omega)
      refine zr_lor (n := up) (P := ((2 ^ up : Nat) : Int)) hx hb rfl (by rw [eq1]; exact Int.natCast_nonneg _) (by rw [eq1]; exact Int.ofNat_lt.mpr hq) (Int.natCast_nonneg _) (by rw [eq1, eq2, ← Int.natCast_add]; exact Int.ofNat_lt.mpr h9) dW_limbShifted_60 ?_
      refine lv_ldc2 (v := lZ (268435455)) hx hb hown (ht _ tw_291) dW_limbShifted_61 ?_
      refine zr_mask (n := 28) (P := 268435456) hx hb (Nat.le_of_ble_eq_true rfl) p2_28 m2_28 dW_limbShifted_64 ?_
      exact hend 65 (_) v0 _ _ _ dW_limbShifted_65 (⟨rfl, congrArg lZ (by rw [eh, eu]; exact (lsh_z d n hz.1).symm)⟩) hZ hS
    refine lv_lstore_n (lv' := [(3, .long (lZ (↑h))), (0, .ref (B + k)), (1, .int (iZ (z))), (2, .int (iZ (↑up)))]) hx hb dW_limbShifted_22 rfl hl (by decide) rfl (fun ls hl => ?_)
    refine lv_iload_n hx hb dW_limbShifted_23 rfl (lv_at hl 2 rfl) ?_
    refine lv_iconst (v := iZ (1)) hx hb dW_limbShifted_24 (by decide) ?_
    refine zr_icmp_lt (tgt := 47) hx hb (by omega) (by omega) dW_limbShifted_25 (by decide) (fun c_1 => ?_) (fun c_1 => ?_)
    · refine lv_lconst (v := lZ (0)) hx hb dW_limbShifted_47 (by decide) ?_
      exact J48 0  _ _ _ ((wz_out (by omega)).symm)  hZ hS (lv_sub hl [1, 2, 3, 0] rfl)
    · refine lv_iload_n hx hb dW_limbShifted_28 rfl (lv_at hl 2 rfl) ?_
      refine lv_aload_n hx hb dW_limbShifted_29 rfl (lv_at hl 1 rfl) ?_
      refine zw_count hx hb ht hown hK hZ hk ev tw_34 dW_limbShifted_30 ?_
      refine zr_icmp_gt (tgt := 47) hx hb (by omega) (by omega) dW_limbShifted_33 (by decide) (fun c_2 => ?_) (fun c_2 => ?_)
      · refine lv_lconst (v := lZ (0)) hx hb dW_limbShifted_47 (by decide) ?_
        exact J48 0  _ _ _ ((wz_out (by omega)).symm)  hZ hS (lv_sub hl [1, 2, 3, 0] rfl)
      · refine lv_aload_n hx hb dW_limbShifted_36 rfl (lv_at hl 1 rfl) ?_
        refine zw_limbs hx hb ht hown hK hZ hk ev tw_31 dW_limbShifted_37 ?_
        refine lv_iload_n hx hb dW_limbShifted_40 rfl (lv_at hl 2 rfl) ?_
        refine lv_iconst (v := iZ (1)) hx hb dW_limbShifted_41 (by decide) ?_
        refine zr_isub hx hb dW_limbShifted_42 ?_
        refine zw_ld hx hb hK hZ hk ev (by omega) (by omega) dW_limbShifted_43 ?_
        refine lv_goto (tgt := 48) hx hb dW_limbShifted_44 (by decide) ?_
        exact J48 (d (z - 1).toNat)  _ _ _ ((wz_in (by omega) (by omega)).symm)  hZ hS (lv_sub hl [1, 2, 3, 0] rfl)
  refine lv_iload_n hx hb dW_limbShifted_0 rfl (lv_at hl 1 rfl) ?_
  refine zr_if_lt (tgt := 21) hx hb (by omega) dW_limbShifted_1 (by decide) (fun c_3 => ?_) (fun c_3 => ?_)
  · refine lv_lconst (v := lZ (0)) hx hb dW_limbShifted_21 (by decide) ?_
    exact J22 0  _ _ _ ((wz_out (by omega)).symm)  hZ hS (lv_sub hl [0, 1, 2] rfl)
  · refine lv_iload_n hx hb dW_limbShifted_4 rfl (lv_at hl 1 rfl) ?_
    refine lv_aload_n hx hb dW_limbShifted_5 rfl (lv_at hl 0 rfl) ?_
    refine zw_count hx hb ht hown hK hZ hk ev tw_34 dW_limbShifted_6 ?_
    refine zr_icmp_ge (tgt := 21) hx hb (by omega) (by omega) dW_limbShifted_9 (by decide) (fun c_4 => ?_) (fun c_4 => ?_)
    · refine lv_lconst (v := lZ (0)) hx hb dW_limbShifted_21 (by decide) ?_
      exact J22 0  _ _ _ ((wz_out (by omega)).symm)  hZ hS (lv_sub hl [0, 1, 2] rfl)
    · refine lv_aload_n hx hb dW_limbShifted_12 rfl (lv_at hl 0 rfl) ?_
      refine zw_limbs hx hb ht hown hK hZ hk ev tw_31 dW_limbShifted_13 ?_
      refine lv_iload_n hx hb dW_limbShifted_16 rfl (lv_at hl 1 rfl) ?_
      refine zw_ld hx hb hK hZ hk ev (by omega) (by omega) dW_limbShifted_17 ?_
      refine lv_goto (tgt := 22) hx hb dW_limbShifted_18 (by decide) ?_
      exact J22 (d z.toNat)  _ _ _ ((wz_in (by omega) (by omega)).symm)  hZ hS (lv_sub hl [0, 1, 2] rfl)

set_option maxHeartbeats 4000000 in
set_option maxRecDepth 100000 in
theorem mW_digitsOf (l : Launch) (E : zE) (B : Nat) (v0 : Nat → zV) (o : Nat → va_E) (x : Nat) (hx28 : x < 268435456) :
    Met l yW_digitsOf (zws yW_digitsOf cW_digitsOf 5 (some .int)) { frames := 0, cells := 0, slots := 0, locals := 0 } (zPc E (zD E B v0 o) [.long (lZ (↑x))]) (va_Qi (fun (r : Int32) (v : Nat → zV) => v = v0 ∧ ∃ q : Nat, r = iZ q ∧ bl x q) (fun v t => zD E B v o t.heap ∧ zK E t) (zA B 80)) 0 0 (zA B 80) := by
  refine zof_i (by decide) (Nat.le_of_ble_eq_true rfl) fun p e R s m args below meth c Q ls hR hx hb hml ht hown hK hZ hl hend => ?_
  have hS : va_S (zA B 80) s.heap s.heap [] := va_S.rf
  have hown : s.vm.findClass "WholeDesk$Whole" = some m.cls := hown
  have hl : lv_has ls 5 [(0, .long (lZ (↑x)))] := hl
  refine lv_iconst (v := iZ (0)) hx hb dW_digitsOf_0 (by decide) ?_
  refine lv_istore_n (lv' := [(2, .int (iZ (0))), (0, .long (lZ (↑x)))]) hx hb dW_digitsOf_1 rfl hl (by decide) rfl (fun ls hl => ?_)
  refine lv_lload_n hx hb dW_digitsOf_2 rfl (lv_at hl 1 rfl) ?_
  refine lv_lstore_n (lv' := [(3, .long (lZ (↑x))), (2, .int (iZ (0))), (0, .long (lZ (↑x)))]) hx hb dW_digitsOf_3 rfl hl (by decide) rfl (fun ls hl => ?_)
  have L4 : ∀ (fu : Nat) (q : Nat) (y : Nat) (H : Heap) (locs : List Loc) (ls : Array Slot), 28 - q < fu → ((q ≠ 0 → 2 ^ (q - 1) ≤ x) ∧ q ≤ 28) → (y = x / 2 ^ q) → zD E B v0 o H → va_S (zA B 80) s.heap H locs → lv_has ls 5 [(0, .long (lZ (↑x))), (2, .int (iZ (↑q))), (3, .long (lZ (↑y)))] → W p l e R s m args below meth c H locs 0 0 Q (F0 m 4 ls []) := by
    intro fu
    induction fu with
    | zero => intro q y H locs ls hm; exact absurd hm (Nat.not_lt_zero _)
    | succ fu ihL4 =>
      intro q y H locs ls hm hq hy  hZ hS hl
      have hyx : y ≤ x := by rw [hy]; exact Nat.div_le_self _ _
      refine lv_lload_n hx hb dW_digitsOf_4 rfl (lv_at hl 2 rfl) ?_
      refine lv_lconst (v := lZ (0)) hx hb dW_digitsOf_5 (by decide) ?_
      refine zr_lcmp_eq (tgt := 26) hx hb (by omega) (by omega) dW_digitsOf_6 dW_digitsOf_7 (by decide) (fun c_1 => ?_) (fun c_1 => ?_)
      · have hlt : x < 2 ^ q := by
          by_cases h28 : q = 28
          · rw [h28]; exact hx28
          · have h0 : y = 0 := by omega
            rw [hy] at h0
            rcases Nat.lt_or_ge x (2 ^ q) with h2 | h2
            · exact h2
            · have := Nat.div_pos h2 (Nat.two_pow_pos q)
              omega
        refine lv_iload_n hx hb dW_digitsOf_26 rfl (lv_at hl 1 rfl) ?_
        exact hend 27 (_) v0 _ _ _ dW_digitsOf_27 (⟨rfl, q, rfl, bl_of hlt hq.1⟩) hZ hS
      · refine lv_iload_n hx hb dW_digitsOf_10 rfl (lv_at hl 1 rfl) ?_
        refine lv_bipush (v := iZ (28)) hx hb dW_digitsOf_11 (by decide) ?_
        refine zr_icmp_ge (tgt := 26) hx hb (by omega) (by omega) dW_digitsOf_13 (by decide) (fun c_2 => ?_) (fun c_2 => ?_)
        · have hlt : x < 2 ^ q := by
            by_cases h28 : q = 28
            · rw [h28]; exact hx28
            · have h0 : y = 0 := by omega
              rw [hy] at h0
              rcases Nat.lt_or_ge x (2 ^ q) with h2 | h2
              · exact h2
              · have := Nat.div_pos h2 (Nat.two_pow_pos q)
                omega
          refine lv_iload_n hx hb dW_digitsOf_26 rfl (lv_at hl 1 rfl) ?_
          exact hend 27 (_) v0 _ _ _ dW_digitsOf_27 (⟨rfl, q, rfl, bl_of hlt hq.1⟩) hZ hS
        · have hy2 : 2 ^ q ≤ x := by
            have h1 : y ≠ 0 := by omega
            rw [hy] at h1
            rcases Nat.lt_or_ge x (2 ^ q) with h2 | h2
            · exact absurd (Nat.div_eq_of_lt h2) h1
            · exact h2
          refine lv_iinc (v := iZ (↑q + 1)) (lv' := [(2, .int (iZ (↑q + 1))), (0, .long (lZ (↑x))), (3, .long (lZ (↑y)))]) hx hb dW_digitsOf_16 hl (k := 1) rfl (iZ_add _ _) (by decide) rfl (fun ls hl => ?_)
          refine lv_lload_n hx hb dW_digitsOf_19 rfl (lv_at hl 2 rfl) ?_
          refine lv_iconst (v := iZ (1)) hx hb dW_digitsOf_20 (by decide) ?_
          refine zr_lushr (n := 1) (P := 2) hx hb (by omega) (by omega) (Nat.le_of_ble_eq_true rfl) (p2_1) dW_digitsOf_21 ?_
          refine zc_l (y := lZ (↑(y / 2))) (congrArg lZ (Int.natCast_ediv y 2).symm) ?_
          refine lv_lstore_n (lv' := [(3, .long (lZ (↑(y / 2)))), (2, .int (iZ (↑q + 1))), (0, .long (lZ (↑x)))]) hx hb dW_digitsOf_22 rfl hl (by decide) rfl (fun ls hl => ?_)
          refine lv_goto (tgt := 4) hx hb dW_digitsOf_23 (by decide) ?_
          exact ihL4 (q + 1) (y / 2)  _ _ _ (by omega) (⟨fun _ => hy2, by omega⟩) (by rw [hy, Nat.div_div_eq_div_mul, ← Nat.pow_succ])  hZ hS (lv_sub hl [2, 1, 0] rfl)
  exact L4 _ 0 x  _ _ _ (Nat.lt_succ_self _) (⟨fun h => absurd rfl h, by omega⟩) (by rw [Nat.pow_zero, Nat.div_one])  hZ hS (lv_sub hl [2, 1, 0] rfl)

set_option maxHeartbeats 4000000 in
set_option maxRecDepth 100000 in
theorem mW_bits (l : Launch) (E : zE) (B : Nat) (v0 : Nat → zV) (o : Nat → va_E) (k : Nat) (hk : lp k = true) (d : Nat → Nat) (n : Nat) (b : Bool) (ev : v0 k = (d, n, b)) :
    Met l yW_bits (zws yW_bits cW_bits 1 (some .int)) { frames := 1, cells := 0, slots := 0, locals := 30 } (zPc E (zD E B v0 o) [.ref (B + k)]) (va_Qi (fun (r : Int32) (v : Nat → zV) => v = v0 ∧ ∃ q : Nat, r = iZ q ∧ (n = 0 → q = 0) ∧ (n ≠ 0 → ∃ t, bl (d (n - 1)) t ∧ q = 28 * (n - 1) + t)) (fun v t => zD E B v o t.heap ∧ zK E t) (zA B 80)) 0 0 (zA B 80) := by
  refine zof_i (by decide) (Nat.le_of_ble_eq_true rfl) fun p e R s m args below meth c Q ls hR hx hb hml ht hown hK hZ hl hend => ?_
  have hS : va_S (zA B 80) s.heap s.heap [] := va_S.rf
  have hown : s.vm.findClass "WholeDesk$Whole" = some m.cls := hown
  have hl : lv_has ls 1 [(0, .ref (B + k))] := hl
  have hn : n ≤ 152 := by have := (hZ.2 k hk).2; rw [ev] at this; exact this
  have hd0 : ∀ i, d i < 268435456 := by have := (hZ.2 k hk).1; rw [ev] at this; exact this
  refine lv_aload_n hx hb dW_bits_0 rfl (lv_at hl 0 rfl) ?_
  refine zw_count hx hb ht hown hK hZ hk ev tw_34 dW_bits_1 ?_
  refine zr_if_ne (tgt := 11) hx hb (by omega) dW_bits_4 (by decide) (fun c_1 => ?_) (fun c_1 => ?_)
  · refine lv_aload_n hx hb dW_bits_11 rfl (lv_at hl 0 rfl) ?_
    refine zw_count hx hb ht hown hK hZ hk ev tw_34 dW_bits_12 ?_
    refine lv_iconst (v := iZ (1)) hx hb dW_bits_15 (by decide) ?_
    refine zr_isub hx hb dW_bits_16 ?_
    refine lv_bipush (v := iZ (28)) hx hb dW_bits_17 (by decide) ?_
    refine zr_imul hx hb dW_bits_19 ?_
    refine lv_aload_n hx hb dW_bits_20 rfl (lv_at hl 0 rfl) ?_
    refine lv_aload_n hx hb dW_bits_21 rfl (lv_at hl 0 rfl) ?_
    refine zw_count hx hb ht hown hK hZ hk ev tw_34 dW_bits_22 ?_
    refine lv_iconst (v := iZ (1)) hx hb dW_bits_25 (by decide) ?_
    refine zr_isub hx hb dW_bits_26 ?_
    refine zcV_l 1 (As := [.int (iZ (↑n - 1))]) (rest := [.int (iZ ((↑n - 1) * 28))]) rfl ⟨hx, hb, hml, hown, ht⟩ (mW_limb l E B v0 o k hk d n b ev (↑n - 1) (by omega)) tw_322 tw_319 tw_320 tw_321 tw_2 qW_limb (by rw [hR]; decide) (zW_recv hK hZ hk) hZ hK hl.1 rfl rfl (Nat.le_of_ble_eq_true rfl) dW_bits_27 ⟨Nat.zero_le _, Nat.zero_le _⟩ hS (fun r_2 v1 H locs hp hZ _ hS => ?_)
    obtain ⟨hv1, hr1⟩ := hp
    rw [hv1] at hZ
    subst hr1
    clear hv1 v1
    refine zcS_i 1 (As := [.long (lZ (↑(wz d n (↑n - 1))))]) (rest := [.int (iZ ((↑n - 1) * 28))]) ⟨hx, hb, hml, hown, ht⟩ (mW_digitsOf l E B v0 o (wz d n (↑n - 1)) (wz_lt hd0 n _)) tw_325 tw_323 tw_324 tw_2 qW_digitsOf (by rw [hR]; decide) hZ hK hl.1 rfl rfl (Nat.le_of_ble_eq_true rfl) dW_bits_30 ⟨Nat.zero_le _, Nat.zero_le _⟩ hS (fun r_4 v1 H locs hp hZ _ hS => ?_)
    obtain ⟨hv1, q_3, hr1, hq_3⟩ := hp
    rw [hv1] at hZ
    subst hr1
    clear hv1 v1
    refine zr_iadd hx hb dW_bits_33 ?_
    exact hend 34 (_) v0 _ _ _ dW_bits_34 (⟨rfl, 28 * (n - 1) + q_3, congrArg iZ (by omega), fun h => absurd h (by omega), fun _ => ⟨q_3, by rw [wz_in (by omega) (by omega), show ((n : Int) - 1).toNat = n - 1 by omega] at hq_3; exact hq_3, rfl⟩⟩) hZ hS
  · refine lv_iconst (v := iZ (0)) hx hb dW_bits_7 (by decide) ?_
    refine lv_goto (tgt := 34) hx hb dW_bits_8 (by decide) ?_
    exact hend 34 (_) v0 _ _ _ dW_bits_34 (⟨rfl, 0, rfl, fun _ => rfl, fun h => absurd (show n = 0 by omega) h⟩) hZ hS

set_option maxHeartbeats 4000000 in
set_option maxRecDepth 100000 in
theorem mW_sign (l : Launch) (E : zE) (B : Nat) (v0 : Nat → zV) (o : Nat → va_E) (k : Nat) (hk : lp k = true) (d : Nat → Nat) (n : Nat) (b : Bool) (ev : v0 k = (d, n, b)) :
    Met l yW_sign (zws yW_sign cW_sign 1 (some .int)) { frames := 0, cells := 0, slots := 0, locals := 0 } (zPc E (zD E B v0 o) [.ref (B + k)]) (va_Qi (fun (r : Int32) (v : Nat → zV) => v = v0 ∧ r = iZ (if n = 0 then 0 else if b = true then -1 else 1)) (fun v t => zD E B v o t.heap ∧ zK E t) (zA B 80)) 0 0 (zA B 80) := by
  refine zof_i (by decide) (Nat.le_of_ble_eq_true rfl) fun p e R s m args below meth c Q ls hR hx hb hml ht hown hK hZ hl hend => ?_
  have hS : va_S (zA B 80) s.heap s.heap [] := va_S.rf
  have hown : s.vm.findClass "WholeDesk$Whole" = some m.cls := hown
  have hl : lv_has ls 1 [(0, .ref (B + k))] := hl
  have hn : n ≤ 152 := by have := (hZ.2 k hk).2; rw [ev] at this; exact this
  refine lv_aload_n hx hb dW_sign_0 rfl (lv_at hl 0 rfl) ?_
  refine zw_count hx hb ht hown hK hZ hk ev tw_34 dW_sign_1 ?_
  refine zr_if_ne (tgt := 9) hx hb (by omega) dW_sign_4 (by decide) (fun c_1 => ?_) (fun c_1 => ?_)
  · refine lv_aload_n hx hb dW_sign_9 rfl (lv_at hl 0 rfl) ?_
    refine zw_below hx hb ht hown hK hZ hk ev tw_39 dW_sign_10 ?_
    refine zr_if_eq (tgt := 20) hx hb (by have := bZ_01 b; omega) dW_sign_13 (by decide) (fun c_2 => ?_) (fun c_2 => ?_)
    · refine lv_iconst (v := iZ (1)) hx hb dW_sign_20 (by decide) ?_
      exact hend 21 (_) v0 _ _ _ dW_sign_21 (⟨rfl, by rw [if_neg (by omega), if_neg (fun h9 => absurd (bZ_t.mpr h9) (by omega))]⟩) hZ hS
    · refine lv_iconst (v := iZ (-1)) hx hb dW_sign_16 (by decide) ?_
      refine lv_goto (tgt := 21) hx hb dW_sign_17 (by decide) ?_
      exact hend 21 (_) v0 _ _ _ dW_sign_21 (⟨rfl, by rw [if_neg (by omega), if_pos (bZ_nf.mp (by assumption))]⟩) hZ hS
  · refine lv_iconst (v := iZ (0)) hx hb dW_sign_7 (by decide) ?_
    exact hend 8 (_) v0 _ _ _ dW_sign_8 (⟨rfl, by rw [if_pos (by omega)]⟩) hZ hS

set_option maxHeartbeats 4000000 in
set_option maxRecDepth 100000 in
theorem mW_isOne (l : Launch) (E : zE) (B : Nat) (v0 : Nat → zV) (o : Nat → va_E) (k : Nat) (hk : lp k = true) (d : Nat → Nat) (n : Nat) (b : Bool) (ev : v0 k = (d, n, b)) :
    Met l yW_isOne (zws yW_isOne cW_isOne 1 (some .boolean)) { frames := 0, cells := 0, slots := 0, locals := 0 } (zPc E (zD E B v0 o) [.ref (B + k)]) (va_Qi (fun (r : Int32) (v : Nat → zV) => v = v0 ∧ r = iZ (bZ (decide (n = 1 ∧ d 0 = 1 ∧ b = false)))) (fun v t => zD E B v o t.heap ∧ zK E t) (zA B 80)) 0 0 (zA B 80) := by
  refine zof_z (by decide) (Nat.le_of_ble_eq_true rfl) fun p e R s m args below meth c Q ls hR hx hb hml ht hown hK hZ hl hend => ?_
  have hS : va_S (zA B 80) s.heap s.heap [] := va_S.rf
  have hown : s.vm.findClass "WholeDesk$Whole" = some m.cls := hown
  have hl : lv_has ls 1 [(0, .ref (B + k))] := hl
  have hn : n ≤ 152 := by have := (hZ.2 k hk).2; rw [ev] at this; exact this
  have hd0 : ∀ i, d i < 268435456 := by have := (hZ.2 k hk).1; rw [ev] at this; exact this
  refine lv_aload_n hx hb dW_isOne_0 rfl (lv_at hl 0 rfl) ?_
  refine zw_count hx hb ht hown hK hZ hk ev tw_34 dW_isOne_1 ?_
  refine lv_iconst (v := iZ (1)) hx hb dW_isOne_4 (by decide) ?_
  refine zr_icmp_ne (tgt := 30) hx hb (by omega) (by omega) dW_isOne_5 (by decide) (fun c_1 => ?_) (fun c_1 => ?_)
  · refine lv_iconst (v := iZ (0)) hx hb dW_isOne_30 (by decide) ?_
    exact hend 31 (false) v0 _ _ _ dW_isOne_31 (⟨rfl, by rw [show decide (n = 1 ∧ d 0 = 1 ∧ b = false) = false from decide_eq_false (fun h9 => by obtain ⟨h1, h2, h3⟩ := h9; subst h3; first | omega | (have : bZ false = 0 := rfl; omega))]⟩) hZ hS
  · refine lv_aload_n hx hb dW_isOne_8 rfl (lv_at hl 0 rfl) ?_
    refine zw_limbs hx hb ht hown hK hZ hk ev tw_31 dW_isOne_9 ?_
    refine lv_iconst (v := iZ (0)) hx hb dW_isOne_12 (by decide) ?_
    refine zw_ld hx hb hK hZ hk ev (by omega) (by omega) dW_isOne_13 ?_
    rw [show (0 : Int).toNat = 0 from by omega]
    refine lv_lconst (v := lZ (1)) hx hb dW_isOne_14 (by decide) ?_
    refine zr_lcmp_ne (tgt := 30) hx hb ⟨by omega, by have := hd0 0; omega⟩ (by omega) dW_isOne_15 dW_isOne_16 (by decide) (fun c_2 => ?_) (fun c_2 => ?_)
    · refine lv_iconst (v := iZ (0)) hx hb dW_isOne_30 (by decide) ?_
      exact hend 31 (false) v0 _ _ _ dW_isOne_31 (⟨rfl, by rw [show decide (n = 1 ∧ d 0 = 1 ∧ b = false) = false from decide_eq_false (fun h9 => by obtain ⟨h1, h2, h3⟩ := h9; subst h3; first | omega | (have : bZ false = 0 := rfl; omega))]⟩) hZ hS
    · refine lv_aload_n hx hb dW_isOne_19 rfl (lv_at hl 0 rfl) ?_
      refine zw_below hx hb ht hown hK hZ hk ev tw_39 dW_isOne_20 ?_
      refine zr_if_ne (tgt := 30) hx hb (by have := bZ_01 b; omega) dW_isOne_23 (by decide) (fun c_3 => ?_) (fun c_3 => ?_)
      · refine lv_iconst (v := iZ (0)) hx hb dW_isOne_30 (by decide) ?_
        exact hend 31 (false) v0 _ _ _ dW_isOne_31 (⟨rfl, by rw [show decide (n = 1 ∧ d 0 = 1 ∧ b = false) = false from decide_eq_false (fun h9 => by obtain ⟨h1, h2, h3⟩ := h9; subst h3; first | omega | (have : bZ false = 0 := rfl; omega))]⟩) hZ hS
      · refine lv_iconst (v := iZ (1)) hx hb dW_isOne_26 (by decide) ?_
        refine lv_goto (tgt := 31) hx hb dW_isOne_27 (by decide) ?_
        exact hend 31 (true) v0 _ _ _ dW_isOne_31 (⟨rfl, by rw [show decide (n = 1 ∧ d 0 = 1 ∧ b = false) = true from decide_eq_true ⟨by omega, by omega, bZ_f.mp (by assumption)⟩]⟩) hZ hS

theorem cmp_lt {a b : Nat} (h : a < b) : cmpZ a b = -1 := by unfold cmpZ; rw [if_pos (by omega)]
theorem cmp_gt {a b : Nat} (h : b < a) : cmpZ a b = 1 := by unfold cmpZ; rw [if_neg (by omega), if_neg (by omega)]
theorem cmp_eq {a b : Nat} (h : a = b) : cmpZ a b = 0 := by unfold cmpZ; rw [if_neg (by omega), if_pos (by omega)]
theorem lex3 {d d2 : Nat → Nat} {n n2 : Nat} {z : Int} (hd : ∀ i, d i < 268435456) (hI : ∀ i : Nat, z < i → i < n → d i = d2 i) (he : n = n2) (hz : 0 ≤ z ∧ z < n) (hlt : d z.toNat < d2 z.toNat) : wv d n < wv d2 n2 := by
  subst he
  exact wv_lex hd hlt n (by omega) (fun j h1 h2 => hI j (by omega) h2)
theorem lex4 {d d2 : Nat → Nat} {n n2 : Nat} {z : Int} (hd : ∀ i, d2 i < 268435456) (hI : ∀ i : Nat, z < i → i < n → d i = d2 i) (he : n = n2) (hz : 0 ≤ z ∧ z < n) (hlt : d2 z.toNat < d z.toNat) : wv d2 n2 < wv d n := by
  subst he
  exact wv_lex hd hlt n (by omega) (fun j h1 h2 => (hI j (by omega) h2).symm)
theorem lex5 {d d2 : Nat → Nat} {n n2 : Nat} {z : Int} (hI : ∀ i : Nat, z < i → i < n → d i = d2 i) (he : n = n2) (hz : z < 0) : wv d n = wv d2 n2 := by
  subst he
  exact wv_congr fun i hi => hI i (by omega) hi
set_option maxHeartbeats 4000000 in
set_option maxRecDepth 100000 in
theorem mW_sizeAgainst (l : Launch) (E : zE) (B : Nat) (v0 : Nat → zV) (o : Nat → va_E) (k : Nat) (hk : lp k = true) (d : Nat → Nat) (n : Nat) (b : Bool) (ev : v0 k = (d, n, b)) (j : Nat) (hj : lp j = true) (d2 : Nat → Nat) (n2 : Nat) (b2 : Bool) (ev2 : v0 j = (d2, n2, b2)) (hz1 : nz d n) (hz2 : nz d2 n2) :
    Met l yW_sizeAgainst (zws yW_sizeAgainst cW_sizeAgainst 3 (some .int)) { frames := 0, cells := 0, slots := 0, locals := 0 } (zPc E (zD E B v0 o) [.ref (B + k), .ref (B + j)]) (va_Qi (fun (r : Int32) (v : Nat → zV) => v = v0 ∧ r = iZ (cmpZ (wv d n) (wv d2 n2))) (fun v t => zD E B v o t.heap ∧ zK E t) (zA B 80)) 0 0 (zA B 80) := by
  refine zof_i (by decide) (Nat.le_of_ble_eq_true rfl) fun p e R s m args below meth c Q ls hR hx hb hml ht hown hK hZ hl hend => ?_
  have hS : va_S (zA B 80) s.heap s.heap [] := va_S.rf
  have hown : s.vm.findClass "WholeDesk$Whole" = some m.cls := hown
  have hl : lv_has ls 3 [(0, .ref (B + k)), (1, .ref (B + j))] := hl
  have hn : n ≤ 152 := by have := (hZ.2 k hk).2; rw [ev] at this; exact this
  have hd0 : ∀ i, d i < 268435456 := by have := (hZ.2 k hk).1; rw [ev] at this; exact this
  have hn2 : n2 ≤ 152 := by have := (hZ.2 j hj).2; rw [ev2] at this; exact this
  have hd2 : ∀ i, d2 i < 268435456 := by have := (hZ.2 j hj).1; rw [ev2] at this; exact this
  refine lv_aload_n hx hb dW_sizeAgainst_0 rfl (lv_at hl 0 rfl) ?_
  refine zw_count hx hb ht hown hK hZ hk ev tw_34 dW_sizeAgainst_1 ?_
  refine lv_aload_n hx hb dW_sizeAgainst_4 rfl (lv_at hl 1 rfl) ?_
  refine zw_count hx hb ht hown hK hZ hj ev2 tw_34 dW_sizeAgainst_5 ?_
  refine zr_icmp_eq (tgt := 28) hx hb (by omega) (by omega) dW_sizeAgainst_8 (by decide) (fun c_1 => ?_) (fun c_1 => ?_)
  · refine lv_aload_n hx hb dW_sizeAgainst_28 rfl (lv_at hl 0 rfl) ?_
    refine zw_count hx hb ht hown hK hZ hk ev tw_34 dW_sizeAgainst_29 ?_
    refine lv_iconst (v := iZ (1)) hx hb dW_sizeAgainst_32 (by decide) ?_
    refine zr_isub hx hb dW_sizeAgainst_33 ?_
    refine lv_istore_n (lv' := [(2, .int (iZ (↑n - 1))), (0, .ref (B + k)), (1, .ref (B + j))]) hx hb dW_sizeAgainst_34 rfl hl (by decide) rfl (fun ls hl => ?_)
    have L35 : ∀ (fu : Nat) (z : Int) (H : Heap) (locs : List Loc) (ls : Array Slot), (z + 1).toNat < fu → (∀ i : Nat, z < i → i < n → d i = d2 i) → (-1 ≤ z ∧ z < n) → (n = n2) → zD E B v0 o H → va_S (zA B 80) s.heap H locs → lv_has ls 3 [(0, .ref (B + k)), (1, .ref (B + j)), (2, .int (iZ (z)))] → W p l e R s m args below meth c H locs 0 0 Q (F0 m 35 ls []) := by
      intro fu
      induction fu with
      | zero => intro z H locs ls hm; exact absurd hm (Nat.not_lt_zero _)
      | succ fu ihL35 =>
        intro z H locs ls hm hI hzn hnn  hZ hS hl
        refine lv_iload_n hx hb dW_sizeAgainst_35 rfl (lv_at hl 2 rfl) ?_
        refine zr_if_lt (tgt := 83) hx hb (by omega) dW_sizeAgainst_36 (by decide) (fun c_2 => ?_) (fun c_2 => ?_)
        · refine lv_iconst (v := iZ (0)) hx hb dW_sizeAgainst_83 (by decide) ?_
          exact hend 84 (_) v0 _ _ _ dW_sizeAgainst_84 (⟨rfl, by rw [cmp_eq (lex5 hI (by omega) (by omega))]⟩) hZ hS
        · refine lv_aload_n hx hb dW_sizeAgainst_39 rfl (lv_at hl 0 rfl) ?_
          refine zw_limbs hx hb ht hown hK hZ hk ev tw_31 dW_sizeAgainst_40 ?_
          refine lv_iload_n hx hb dW_sizeAgainst_43 rfl (lv_at hl 2 rfl) ?_
          refine zw_ld hx hb hK hZ hk ev (by omega) (by omega) dW_sizeAgainst_44 ?_
          refine lv_aload_n hx hb dW_sizeAgainst_45 rfl (lv_at hl 1 rfl) ?_
          refine zw_limbs hx hb ht hown hK hZ hj ev2 tw_31 dW_sizeAgainst_46 ?_
          refine lv_iload_n hx hb dW_sizeAgainst_49 rfl (lv_at hl 2 rfl) ?_
          refine zw_ld hx hb hK hZ hj ev2 (by omega) (by omega) dW_sizeAgainst_50 ?_
          refine zr_lcmp_eq (tgt := 77) hx hb ⟨by omega, by have := hd0 z.toNat; omega⟩ ⟨by omega, by have := hd2 z.toNat; omega⟩ dW_sizeAgainst_51 dW_sizeAgainst_52 (by decide) (fun c_3 => ?_) (fun c_3 => ?_)
          · refine lv_iinc (v := iZ (z - 1)) (lv' := [(2, .int (iZ (z - 1))), (0, .ref (B + k)), (1, .ref (B + j))]) hx hb dW_sizeAgainst_77 hl (k := 2) rfl (iZ_dec _ _) (by decide) rfl (fun ls hl => ?_)
            refine lv_goto (tgt := 35) hx hb dW_sizeAgainst_80 (by decide) ?_
            exact ihL35 (z - 1)  _ _ _ (by omega) (fun i h1 h2 => by
              by_cases e : z = i
              · rw [← show z.toNat = i by omega]; omega
              · exact hI i (by omega) h2) (⟨by omega, by omega⟩) (hnn)  hZ hS (lv_sub hl [1, 2, 0] rfl)
          · refine lv_aload_n hx hb dW_sizeAgainst_55 rfl (lv_at hl 0 rfl) ?_
            refine zw_limbs hx hb ht hown hK hZ hk ev tw_31 dW_sizeAgainst_56 ?_
            refine lv_iload_n hx hb dW_sizeAgainst_59 rfl (lv_at hl 2 rfl) ?_
            refine zw_ld hx hb hK hZ hk ev (by omega) (by omega) dW_sizeAgainst_60 ?_
            refine lv_aload_n hx hb dW_sizeAgainst_61 rfl (lv_at hl 1 rfl) ?_
            refine zw_limbs hx hb ht hown hK hZ hj ev2 tw_31 dW_sizeAgainst_62 ?_
            refine lv_iload_n hx hb dW_sizeAgainst_65 rfl (lv_at hl 2 rfl) ?_
            refine zw_ld hx hb hK hZ hj ev2 (by omega) (by omega) dW_sizeAgainst_66 ?_
            refine zr_lcmp_ge (tgt := 75) hx hb ⟨by omega, by have := hd0 z.toNat; omega⟩ ⟨by omega, by have := hd2 z.toNat; omega⟩ dW_sizeAgainst_67 dW_sizeAgainst_68 (by decide) (fun c_4 => ?_) (fun c_4 => ?_)
            · refine lv_iconst (v := iZ (1)) hx hb dW_sizeAgainst_75 (by decide) ?_
              exact hend 76 (_) v0 _ _ _ dW_sizeAgainst_76 (⟨rfl, by rw [cmp_gt (lex4 hd2 hI (by omega) (by omega) (by omega))]⟩) hZ hS
            · refine lv_iconst (v := iZ (-1)) hx hb dW_sizeAgainst_71 (by decide) ?_
              refine lv_goto (tgt := 76) hx hb dW_sizeAgainst_72 (by decide) ?_
              exact hend 76 (_) v0 _ _ _ dW_sizeAgainst_76 (⟨rfl, by rw [cmp_lt (lex3 hd0 hI (by omega) (by omega) (by omega))]⟩) hZ hS
    exact L35 _ (↑n - 1)  _ _ _ (Nat.lt_succ_self _) (fun i h1 h2 => absurd h1 (by omega)) (⟨by omega, by omega⟩) (by omega)  hZ hS (lv_sub hl [1, 2, 0] rfl)
  · refine lv_aload_n hx hb dW_sizeAgainst_11 rfl (lv_at hl 0 rfl) ?_
    refine zw_count hx hb ht hown hK hZ hk ev tw_34 dW_sizeAgainst_12 ?_
    refine lv_aload_n hx hb dW_sizeAgainst_15 rfl (lv_at hl 1 rfl) ?_
    refine zw_count hx hb ht hown hK hZ hj ev2 tw_34 dW_sizeAgainst_16 ?_
    refine zr_icmp_ge (tgt := 26) hx hb (by omega) (by omega) dW_sizeAgainst_19 (by decide) (fun c_5 => ?_) (fun c_5 => ?_)
    · refine lv_iconst (v := iZ (1)) hx hb dW_sizeAgainst_26 (by decide) ?_
      exact hend 27 (_) v0 _ _ _ dW_sizeAgainst_27 (⟨rfl, by rw [cmp_gt (wv_len hd2 hz1 (by omega))]⟩) hZ hS
    · refine lv_iconst (v := iZ (-1)) hx hb dW_sizeAgainst_22 (by decide) ?_
      refine lv_goto (tgt := 27) hx hb dW_sizeAgainst_23 (by decide) ?_
      exact hend 27 (_) v0 _ _ _ dW_sizeAgainst_27 (⟨rfl, by rw [cmp_lt (wv_len hd0 hz2 (by omega))]⟩) hZ hS
end
section
set_option maxHeartbeats 4000000 in
set_option maxRecDepth 100000 in
theorem mW_stretch (l : Launch) (E : zE) (B : Nat) (v0 : Nat → zV) (o : Nat → va_E) (k : Nat) (hk : lp k = true) (d : Nat → Nat) (n : Nat) (b : Bool) (ev : v0 k = (d, n, b)) (z : Int) (hz : zi z) :
    Met l yW_stretch (zws yW_stretch cW_stretch 4 none) { frames := 1, cells := 0, slots := 0, locals := 32 } (zPc E (zD E B v0 o) [.ref (B + k), .int (iZ (z))]) (va_Qv (fun v : Nat → zV => (∀ j, j ≠ k → v j = v0 j) ∧ ∃ d1 n1, v k = (d1, n1, b) ∧ n1 = max n (min z 152).toNat ∧ (∀ i, i < n → d1 i = d i) ∧ (∀ i, n ≤ i → i < n1 → d1 i = 0)) (fun v t => zD E B v o t.heap ∧ zK E t) (zA B 80)) 0 0 (zA B 80) := by
  refine zof_v (by decide) (Nat.le_of_ble_eq_true rfl) fun p e R s m args below meth c Q ls hR hx hb hml ht hown hK hZ hl hend => ?_
  have hS : va_S (zA B 80) s.heap s.heap [] := va_S.rf
  have hown : s.vm.findClass "WholeDesk$Whole" = some m.cls := hown
  have hl : lv_has ls 4 [(0, .ref (B + k)), (1, .int (iZ (z)))] := hl
  have hn : n ≤ 152 := by have := (hZ.2 k hk).2; rw [ev] at this; exact this
  have hd0 : ∀ i, d i < 268435456 := by have := (hZ.2 k hk).1; rw [ev] at this; exact this
  have fr : ∀ j, j ≠ k → v0 j = v0 j := fun j _ => rfl
  refine lv_iload_n hx hb dW_stretch_0 rfl (lv_at hl 1 rfl) ?_
  refine lv_sipush (v := iZ (152)) hx hb dW_stretch_1 (by decide) ?_
  refine zr_min hx hb (by rw [hml]; exact hl.1.symm) ht hown tw_305 (by rw [hR]; decide) (by rw [hR]; exact Nat.le_of_ble_eq_true rfl) (Nat.zero_le _) (Nat.zero_le _) (by omega) (by omega) dW_stretch_4 ?_
  refine lv_istore_n (lv' := [(2, .int (iZ (min (z : Int) (152 : Int)))), (0, .ref (B + k)), (1, .int (iZ (z)))]) hx hb dW_stretch_7 rfl hl (by decide) rfl (fun ls hl => ?_)
  refine lv_aload_n hx hb dW_stretch_8 rfl (lv_at hl 1 rfl) ?_
  refine zw_count hx hb ht hown hK hZ hk ev tw_34 dW_stretch_9 ?_
  refine lv_istore_n (lv' := [(3, .int (iZ (↑n))), (2, .int (iZ (min (z : Int) (152 : Int)))), (0, .ref (B + k)), (1, .int (iZ (z)))]) hx hb dW_stretch_12 rfl hl (by decide) rfl (fun ls hl => ?_)
  have L13 : ∀ (fu : Nat) (i : Nat) (d1 : Nat → Nat) (v : Nat → zV) (H : Heap) (locs : List Loc) (ls : Array Slot), 153 - i < fu → ((∀ q, q < n → d1 q = d q) ∧ (∀ q, n ≤ q → q < i → d1 q = 0)) → (n ≤ i ∧ (i ≤ n ∨ (i : Int) ≤ min z 152)) → v k = (d1, n, b) → (∀ j, j ≠ k → v j = v0 j) → zD E B v o H → va_S (zA B 80) s.heap H locs → lv_has ls 4 [(0, .ref (B + k)), (2, .int (iZ (min z 152))), (3, .int (iZ (↑i)))] → W p l e R s m args below meth c H locs 0 0 Q (F0 m 13 ls []) := by
    intro fu
    induction fu with
    | zero => intro i d1 v H locs ls hm; exact absurd hm (Nat.not_lt_zero _)
    | succ fu ihL13 =>
      intro i d1 v H locs ls hm hI hi ev fr hZ hS hl
      refine lv_iload_n hx hb dW_stretch_13 rfl (lv_at hl 2 rfl) ?_
      refine lv_iload_n hx hb dW_stretch_14 rfl (lv_at hl 1 rfl) ?_
      refine zr_icmp_ge (tgt := 31) hx hb (by omega) (by omega) dW_stretch_15 (by decide) (fun c_1 => ?_) (fun c_1 => ?_)
      · refine lv_aload_n hx hb dW_stretch_31 rfl (lv_at hl 0 rfl) ?_
        refine lv_aload_n hx hb dW_stretch_32 rfl (lv_at hl 0 rfl) ?_
        refine zw_count hx hb ht hown hK hZ hk ev tw_34 dW_stretch_33 ?_
        refine lv_iload_n hx hb dW_stretch_36 rfl (lv_at hl 1 rfl) ?_
        refine zr_max hx hb (by rw [hml]; exact hl.1.symm) ht hown tw_308 (by rw [hR]; decide) (by rw [hR]; exact Nat.le_of_ble_eq_true rfl) (Nat.zero_le _) (Nat.zero_le _) (by omega) (by omega) dW_stretch_37 ?_
        rw [show (max (↑n : Int) (min z 152 : Int) : Int) = ((max n (min z 152).toNat : Nat) : Int) from by omega]
        refine zw_put_count (n1 := max n (min z 152).toNat) hx hb ht hown hK hZ hk ev hS (by omega) tw_34 dW_stretch_40 (fun v H locs ev ho hZ hS => ?_)
        have fr : ∀ j, j ≠ k → v j = v0 j := fun j h0 => (ho j h0).trans (fr j h0)
        exact hend 43 v _ _ _ dW_stretch_43 (⟨fr, d1, _, ev, rfl, hI.1, fun i h1 h2 => hI.2 i h1 (by omega)⟩) hZ hS
      · refine lv_aload_n hx hb dW_stretch_18 rfl (lv_at hl 0 rfl) ?_
        refine zw_limbs hx hb ht hown hK hZ hk ev tw_31 dW_stretch_19 ?_
        refine lv_iload_n hx hb dW_stretch_22 rfl (lv_at hl 2 rfl) ?_
        refine lv_lconst (v := lZ (0)) hx hb dW_stretch_23 (by decide) ?_
        rw [show (0 : Int) = ((0 : Nat) : Int) from rfl]
        refine zw_st (x := 0) hx hb hK hZ hk ev hS (by omega) (by omega) (by omega) dW_stretch_24 (fun v H locs ev ho hZ hS => ?_)
        rw [show (↑i : Int).toNat = i from by omega] at ev
        have fr : ∀ j, j ≠ k → v j = v0 j := fun j h0 => (ho j h0).trans (fr j h0)
        refine lv_iinc (v := iZ (↑i + 1)) (lv' := [(3, .int (iZ (↑i + 1))), (0, .ref (B + k)), (2, .int (iZ (min z 152)))]) hx hb dW_stretch_25 hl (k := 2) rfl (iZ_add _ _) (by decide) rfl (fun ls hl => ?_)
        refine lv_goto (tgt := 13) hx hb dW_stretch_28 (by decide) ?_
        exact ihL13 (i + 1) (va_up d1 i 0) v _ _ _ (by omega) (⟨fun q hq => by rw [va_up_ne _ _ (by omega)]; exact hI.1 q hq, fun q h1 h2 => by
          by_cases e : q = i
          · rw [e, va_up_self]
          · rw [va_up_ne _ _ e]; exact hI.2 q h1 (by omega)⟩) (⟨by omega, by omega⟩) ev fr hZ hS (lv_sub hl [1, 2, 0] rfl)
  exact L13 _ n d v0 _ _ _ (Nat.lt_succ_self _) (⟨fun _ _ => rfl, fun q h1 h2 => absurd h1 (by omega)⟩) (⟨by omega, by omega⟩) ev fr hZ hS (lv_sub hl [2, 1, 0] rfl)

set_option maxHeartbeats 4000000 in
set_option maxRecDepth 100000 in
theorem mW_copy (l : Launch) (E : zE) (B : Nat) (v0 : Nat → zV) (o : Nat → va_E) (k : Nat) (hk : lp k = true) (d : Nat → Nat) (n : Nat) (b : Bool) (ev : v0 k = (d, n, b)) (j : Nat) (hj : lp j = true) (d2 : Nat → Nat) (n2 : Nat) (b2 : Bool) (ev2 : v0 j = (d2, n2, b2)) (hjk : j ≠ k) :
    Met l yW_copy (zws yW_copy cW_copy 3 none) { frames := 1, cells := 0, slots := 0, locals := 48 } (zPc E (zD E B v0 o) [.ref (B + k), .ref (B + j)]) (va_Qv (fun v : Nat → zV => (∀ j, j ≠ k → v j = v0 j) ∧ ∃ d1, v k = (d1, n2, b2) ∧ ∀ i, i < n2 → d1 i = d2 i) (fun v t => zD E B v o t.heap ∧ zK E t) (zA B 80)) 0 0 (zA B 80) := by
  refine zof_v (by decide) (Nat.le_of_ble_eq_true rfl) fun p e R s m args below meth c Q ls hR hx hb hml ht hown hK hZ hl hend => ?_
  have hS : va_S (zA B 80) s.heap s.heap [] := va_S.rf
  have hown : s.vm.findClass "WholeDesk$Whole" = some m.cls := hown
  have hl : lv_has ls 3 [(0, .ref (B + k)), (1, .ref (B + j))] := hl
  have hn : n ≤ 152 := by have := (hZ.2 k hk).2; rw [ev] at this; exact this
  have hd0 : ∀ i, d i < 268435456 := by have := (hZ.2 k hk).1; rw [ev] at this; exact this
  have hn2 : n2 ≤ 152 := by have := (hZ.2 j hj).2; rw [ev2] at this; exact this
  have fr : ∀ j, j ≠ k → v0 j = v0 j := fun j _ => rfl
  refine lv_aload_n hx hb dW_copy_0 rfl (lv_at hl 1 rfl) ?_
  refine zw_count hx hb ht hown hK hZ hj ev2 tw_34 dW_copy_1 ?_
  refine lv_sipush (v := iZ (152)) hx hb dW_copy_4 (by decide) ?_
  refine zr_min hx hb (by rw [hml]; exact hl.1.symm) ht hown tw_305 (by rw [hR]; decide) (by rw [hR]; exact Nat.le_of_ble_eq_true rfl) (Nat.zero_le _) (Nat.zero_le _) (by omega) (by omega) dW_copy_7 ?_
  refine lv_istore_n (lv' := [(2, .int (iZ (min (↑n2 : Int) (152 : Int)))), (0, .ref (B + k)), (1, .ref (B + j))]) hx hb dW_copy_10 rfl hl (by decide) rfl (fun ls hl => ?_)
  refine lv_aload_n hx hb dW_copy_11 rfl (lv_at hl 2 rfl) ?_
  refine zw_limbs hx hb ht hown hK hZ hj ev2 tw_31 dW_copy_12 ?_
  refine lv_iconst (v := iZ (0)) hx hb dW_copy_15 (by decide) ?_
  refine lv_aload_n hx hb dW_copy_16 rfl (lv_at hl 1 rfl) ?_
  refine zw_limbs hx hb ht hown hK hZ hk ev tw_31 dW_copy_17 ?_
  refine lv_iconst (v := iZ (0)) hx hb dW_copy_20 (by decide) ?_
  refine lv_iload_n hx hb dW_copy_21 rfl (lv_at hl 0 rfl) ?_
  refine zw_copy (z := min (↑n2 : Int) (152 : Int)) hx hb (by rw [hml]; exact hl.1.symm) ht hown hK hZ hS hk ev hj ev2 tw_346 (by omega) (by omega) (by rw [hR]; decide) (by rw [hR]; exact Nat.le_of_ble_eq_true rfl) dW_copy_22 (fun v H locs ev ho hZ hS => ?_)
  rw [show (min (↑n2 : Int) (152 : Int) : Int).toNat = n2 from by omega] at ev
  have ev2 := (ho j hjk).trans ev2
  have fr : ∀ j, j ≠ k → v j = v0 j := fun j h0 => (ho j h0).trans (fr j h0)
  refine lv_aload_n hx hb dW_copy_25 rfl (lv_at hl 1 rfl) ?_
  refine lv_iload_n hx hb dW_copy_26 rfl (lv_at hl 0 rfl) ?_
  rw [show (min (↑n2 : Int) (152 : Int) : Int) = ((n2 : Nat) : Int) from by omega]
  refine zw_put_count (n1 := n2) hx hb ht hown hK hZ hk ev hS (by omega) tw_34 dW_copy_27 (fun v H locs ev ho hZ hS => ?_)
  have ev2 := (ho j hjk).trans ev2
  have fr : ∀ j, j ≠ k → v j = v0 j := fun j h0 => (ho j h0).trans (fr j h0)
  refine lv_aload_n hx hb dW_copy_30 rfl (lv_at hl 1 rfl) ?_
  refine lv_aload_n hx hb dW_copy_31 rfl (lv_at hl 2 rfl) ?_
  refine zw_below hx hb ht hown hK hZ hj ev2 tw_39 dW_copy_32 ?_
  refine zw_put_below (b1 := b2) hx hb ht hown hK hZ hk ev hS tw_39 dW_copy_35 (fun v H locs ev ho hZ hS => ?_)
  have ev2 := (ho j hjk).trans ev2
  have fr : ∀ j, j ≠ k → v j = v0 j := fun j h0 => (ho j h0).trans (fr j h0)
  exact hend 38 v _ _ _ dW_copy_38 (⟨fr, _, ev, fun i hi => pk_cpy_in (Nat.zero_le _) (by omega) |>.trans (by rw [Nat.zero_add, Nat.sub_zero])⟩) hZ hS

set_option maxHeartbeats 4000000 in
set_option maxRecDepth 100000 in
theorem mW_become (l : Launch) (E : zE) (B : Nat) (v0 : Nat → zV) (o : Nat → va_E) (k : Nat) (hk : lp k = true) (d : Nat → Nat) (n : Nat) (b : Bool) (ev : v0 k = (d, n, b)) (x : Int) (hx64 : zl x) :
    Met l yW_become (zws yW_become cW_become 5 none) { frames := 1, cells := 0, slots := 0, locals := 20 } (zPc E (zD E B v0 o) [.ref (B + k), .long (lZ (x))]) (va_Qv (fun v : Nat → zV => (∀ j, j ≠ k → v j = v0 j) ∧ zN (v k) x) (fun v t => zD E B v o t.heap ∧ zK E t) (zA B 80)) 0 0 (zA B 80) := by
  refine zof_v (by decide) (Nat.le_of_ble_eq_true rfl) fun p e R s m args below meth c Q ls hR hx hb hml ht hown hK hZ hl hend => ?_
  have hS : va_S (zA B 80) s.heap s.heap [] := va_S.rf
  have hown : s.vm.findClass "WholeDesk$Whole" = some m.cls := hown
  have hl : lv_has ls 5 [(0, .ref (B + k)), (1, .long (lZ (x)))] := hl
  have hn : n ≤ 152 := by have := (hZ.2 k hk).2; rw [ev] at this; exact this
  have hd0 : ∀ i, d i < 268435456 := by have := (hZ.2 k hk).1; rw [ev] at this; exact this
  have fr : ∀ j, j ≠ k → v0 j = v0 j := fun j _ => rfl
  have J12 : ∀  (v : Nat → zV) (H : Heap) (locs : List Loc) (ls : Array Slot), v k = (d, n, b) → (∀ j, j ≠ k → v j = v0 j) → zD E B v o H → va_S (zA B 80) s.heap H locs → lv_has ls 5 [(0, .ref (B + k)), (1, .long (lZ (x)))] → W p l e R s m args below meth c H locs 0 0 Q (F0 m 12 ls [.long (lZ (↑x.natAbs))]) := by
    intro  v H locs ls  ev fr hZ hS hl
    refine lv_lstore_n (lv' := [(3, .long (lZ (↑x.natAbs))), (0, .ref (B + k)), (1, .long (lZ (x)))]) hx hb dW_become_12 rfl hl (by decide) rfl (fun ls hl => ?_)
    refine lv_aload_n hx hb dW_become_13 rfl (lv_at hl 1 rfl) ?_
    refine zw_limbs hx hb ht hown hK hZ hk ev tw_31 dW_become_14 ?_
    refine lv_iconst (v := iZ (0)) hx hb dW_become_17 (by decide) ?_
    refine lv_lload_n hx hb dW_become_18 rfl (lv_at hl 0 rfl) ?_
    refine lv_ldc2 (v := lZ (268435455)) hx hb hown (ht _ tw_291) dW_become_19 ?_
    refine zr_mask (n := 28) (P := 268435456) hx hb (Nat.le_of_ble_eq_true rfl) p2_28 m2_28 dW_become_22 ?_
    rw [show (↑x.natAbs % 268435456 : Int) = ((x.natAbs % 268435456 : Nat) : Int) from by omega]
    refine zw_st (x := x.natAbs % 268435456) hx hb hK hZ hk ev hS (by omega) (by omega) (by omega) dW_become_23 (fun v H locs ev ho hZ hS => ?_)
    rw [show (0 : Int).toNat = 0 from by omega] at ev
    have fr : ∀ j, j ≠ k → v j = v0 j := fun j h0 => (ho j h0).trans (fr j h0)
    refine lv_aload_n hx hb dW_become_24 rfl (lv_at hl 1 rfl) ?_
    refine zw_limbs hx hb ht hown hK hZ hk ev tw_31 dW_become_25 ?_
    refine lv_iconst (v := iZ (1)) hx hb dW_become_28 (by decide) ?_
    refine lv_lload_n hx hb dW_become_29 rfl (lv_at hl 0 rfl) ?_
    refine lv_bipush (v := iZ (28)) hx hb dW_become_30 (by decide) ?_
    refine zr_lushrU (n := 28) (P := 268435456) hx hb (Nat.le_of_ble_eq_true rfl) p2_28 dW_become_32 ?_
    refine lv_ldc2 (v := lZ (268435455)) hx hb hown (ht _ tw_291) dW_become_33 ?_
    refine zr_mask (n := 28) (P := 268435456) hx hb (Nat.le_of_ble_eq_true rfl) p2_28 m2_28 dW_become_36 ?_
    rw [show ((↑x.natAbs % 18446744073709551616 / 268435456) % 268435456 : Int) = ((x.natAbs / 268435456 % 268435456 : Nat) : Int) from by omega]
    refine zw_st (x := x.natAbs / 268435456 % 268435456) hx hb hK hZ hk ev hS (by omega) (by omega) (by omega) dW_become_37 (fun v H locs ev ho hZ hS => ?_)
    rw [show (1 : Int).toNat = 1 from by omega] at ev
    have fr : ∀ j, j ≠ k → v j = v0 j := fun j h0 => (ho j h0).trans (fr j h0)
    refine lv_aload_n hx hb dW_become_38 rfl (lv_at hl 1 rfl) ?_
    refine zw_limbs hx hb ht hown hK hZ hk ev tw_31 dW_become_39 ?_
    refine lv_iconst (v := iZ (2)) hx hb dW_become_42 (by decide) ?_
    refine lv_lload_n hx hb dW_become_43 rfl (lv_at hl 0 rfl) ?_
    refine lv_bipush (v := iZ (56)) hx hb dW_become_44 (by decide) ?_
    refine zr_lushrU (n := 56) (P := 72057594037927936) hx hb (Nat.le_of_ble_eq_true rfl) p2_56 dW_become_46 ?_
    rw [show (↑x.natAbs % 18446744073709551616 / 72057594037927936 : Int) = ((x.natAbs / 72057594037927936 : Nat) : Int) from by omega]
    refine zw_st (x := x.natAbs / 72057594037927936) hx hb hK hZ hk ev hS (by omega) (by omega) (by omega) dW_become_47 (fun v H locs ev ho hZ hS => ?_)
    rw [show (2 : Int).toNat = 2 from by omega] at ev
    have fr : ∀ j, j ≠ k → v j = v0 j := fun j h0 => (ho j h0).trans (fr j h0)
    refine lv_aload_n hx hb dW_become_48 rfl (lv_at hl 1 rfl) ?_
    refine lv_iconst (v := iZ (3)) hx hb dW_become_49 (by decide) ?_
    rw [show (3 : Int) = ((3 : Nat) : Int) from rfl]
    refine zw_put_count (n1 := 3) hx hb ht hown hK hZ hk ev hS (by omega) tw_34 dW_become_50 (fun v H locs ev ho hZ hS => ?_)
    have fr : ∀ j, j ≠ k → v j = v0 j := fun j h0 => (ho j h0).trans (fr j h0)
    refine lv_aload_n hx hb dW_become_53 rfl (lv_at hl 1 rfl) ?_
    refine lv_lload_n hx hb dW_become_54 rfl (lv_at hl 2 rfl) ?_
    refine lv_lconst (v := lZ (0)) hx hb dW_become_55 (by decide) ?_
    refine zr_lcmp_ge (tgt := 64) hx hb (by omega) (by omega) dW_become_56 dW_become_57 (by decide) (fun c_1 => ?_) (fun c_1 => ?_)
    · refine lv_iconst (v := iZ (0)) hx hb dW_become_64 (by decide) ?_
      refine W.eq (g2 := F0 m 65 ls (.int (iZ (bZ false)) :: .ref (B + k) :: [])) rfl ?_
      refine zw_put_below (b1 := false) hx hb ht hown hK hZ hk ev hS tw_39 dW_become_65 (fun v H locs ev ho hZ hS => ?_)
      have fr : ∀ j, j ≠ k → v j = v0 j := fun j h0 => (ho j h0).trans (fr j h0)
      refine lv_aload_n hx hb dW_become_68 rfl (lv_at hl 1 rfl) ?_
      refine zcV_v 0 (As := []) (rest := []) rfl ⟨hx, hb, hml, hown, ht⟩ (mW_trim l E B v o k hk (va_up (va_up (va_up d 0 (x.natAbs % 268435456)) 1 (x.natAbs / 268435456 % 268435456)) 2 (x.natAbs / 72057594037927936)) (3 : Nat) false ev) tw_295 tw_292 tw_293 tw_294 tw_2 qW_trim (by rw [hR]; decide) (zW_recv hK hZ hk) hZ hK hl.1 rfl rfl (Nat.le_of_ble_eq_true rfl) dW_become_69 ⟨Nat.zero_le _, Nat.zero_le _⟩ hS (fun  v H locs hp hZ _ hS => ?_)
      obtain ⟨ho, n_2, ev, hn_2le, hn_2z, hn_2nz⟩ := hp
      have fr : ∀ j, j ≠ k → v j = v0 j := fun j h0 => (ho j h0).trans (fr j h0)
      exact hend 72 v _ _ _ dW_become_72 (⟨fr, by
        rw [ev]
        have h9 := zN_trim (b := false) hn_2le hn_2z hn_2nz
        rw [wv3] at h9
        have e9 : (if false = true then -((x.natAbs % 268435456 + x.natAbs / 268435456 % 268435456 * 268435456 + x.natAbs / 72057594037927936 * 72057594037927936 : Nat) : Int) else ((x.natAbs % 268435456 + x.natAbs / 268435456 % 268435456 * 268435456 + x.natAbs / 72057594037927936 * 72057594037927936 : Nat) : Int)) = x := by
          rw [if_neg (by decide)]
          omega
        rw [e9] at h9
        exact h9⟩) hZ hS
    · refine lv_iconst (v := iZ (1)) hx hb dW_become_60 (by decide) ?_
      refine lv_goto (tgt := 65) hx hb dW_become_61 (by decide) ?_
      refine W.eq (g2 := F0 m 65 ls (.int (iZ (bZ true)) :: .ref (B + k) :: [])) rfl ?_
      refine zw_put_below (b1 := true) hx hb ht hown hK hZ hk ev hS tw_39 dW_become_65 (fun v H locs ev ho hZ hS => ?_)
      have fr : ∀ j, j ≠ k → v j = v0 j := fun j h0 => (ho j h0).trans (fr j h0)
      refine lv_aload_n hx hb dW_become_68 rfl (lv_at hl 1 rfl) ?_
      refine zcV_v 0 (As := []) (rest := []) rfl ⟨hx, hb, hml, hown, ht⟩ (mW_trim l E B v o k hk (va_up (va_up (va_up d 0 (x.natAbs % 268435456)) 1 (x.natAbs / 268435456 % 268435456)) 2 (x.natAbs / 72057594037927936)) (3 : Nat) true ev) tw_295 tw_292 tw_293 tw_294 tw_2 qW_trim (by rw [hR]; decide) (zW_recv hK hZ hk) hZ hK hl.1 rfl rfl (Nat.le_of_ble_eq_true rfl) dW_become_69 ⟨Nat.zero_le _, Nat.zero_le _⟩ hS (fun  v H locs hp hZ _ hS => ?_)
      obtain ⟨ho, n_3, ev, hn_3le, hn_3z, hn_3nz⟩ := hp
      have fr : ∀ j, j ≠ k → v j = v0 j := fun j h0 => (ho j h0).trans (fr j h0)
      exact hend 72 v _ _ _ dW_become_72 (⟨fr, by
        rw [ev]
        have h9 := zN_trim (b := true) hn_3le hn_3z hn_3nz
        rw [wv3] at h9
        have e9 : (if true = true then -((x.natAbs % 268435456 + x.natAbs / 268435456 % 268435456 * 268435456 + x.natAbs / 72057594037927936 * 72057594037927936 : Nat) : Int) else ((x.natAbs % 268435456 + x.natAbs / 268435456 % 268435456 * 268435456 + x.natAbs / 72057594037927936 * 72057594037927936 : Nat) : Int)) = x := by
          rw [if_pos rfl]
          omega
        rw [e9] at h9
        exact h9⟩) hZ hS
  refine lv_lload_n hx hb dW_become_0 rfl (lv_at hl 1 rfl) ?_
  refine lv_lconst (v := lZ (0)) hx hb dW_become_1 (by decide) ?_
  refine zr_lcmp_ge (tgt := 11) hx hb (by omega) (by omega) dW_become_2 dW_become_3 (by decide) (fun c_4 => ?_) (fun c_4 => ?_)
  · refine lv_lload_n hx hb dW_become_11 rfl (lv_at hl 1 rfl) ?_
    refine zc_l (y := lZ (↑x.natAbs)) (congrArg lZ (by omega)) ?_
    exact J12  v0 _ _ _  ev fr hZ hS (lv_sub hl [0, 1] rfl)
  · refine lv_lload_n hx hb dW_become_6 rfl (lv_at hl 1 rfl) ?_
    refine zr_lneg hx hb dW_become_7 ?_
    refine zc_l (y := lZ ↑x.natAbs) (congrArg lZ (by omega)) ?_
    refine lv_goto (tgt := 12) hx hb dW_become_8 (by decide) ?_
    exact J12  v0 _ _ _  ev fr hZ hS (lv_sub hl [0, 1] rfl)

set_option maxHeartbeats 4000000 in
set_option maxRecDepth 100000 in
theorem mW_mix (l : Launch) (E : zE) (B : Nat) (v0 : Nat → zV) (o : Nat → va_E) (k : Nat) (hk : lp k = true) (d : Nat → Nat) (n : Nat) (b : Bool) (ev : v0 k = (d, n, b)) (j : Nat) (hj : lp j = true) (d2 : Nat → Nat) (n2 : Nat) (b2 : Bool) (ev2 : v0 j = (d2, n2, b2)) (hjk : j ≠ k) (f : Int) (hf : -268435456 ≤ f ∧ f ≤ 268435456) (p0 : Nat) (hp0 : p0 + n2 ≤ n) :
    Met l yW_mix (zws yW_mix cW_mix 14 (some .long)) { frames := 1, cells := 0, slots := 0, locals := 32 } (zPc E (zD E B v0 o) [.ref (B + k), .ref (B + j), .long (lZ (f)), .int (iZ (↑p0))]) (va_Ql (fun (r : Int64) (v : Nat → zV) => (∀ j, j ≠ k → v j = v0 j) ∧ ∃ (d1 : Nat → Nat) (c : Int), v k = (d1, n, b) ∧ r = lZ c ∧ (wv d1 n : Int) + c * wP n = wv d n + f * wP p0 * wv d2 n2 ∧ -268435456 ≤ c ∧ c ≤ 268435456) (fun v t => zD E B v o t.heap ∧ zK E t) (zA B 80)) 0 0 (zA B 80) := by
  refine zof_l (by decide) (Nat.le_of_ble_eq_true rfl) fun p e R s m args below meth c Q ls hR hx hb hml ht hown hK hZ hl hend => ?_
  have hS : va_S (zA B 80) s.heap s.heap [] := va_S.rf
  have hown : s.vm.findClass "WholeDesk$Whole" = some m.cls := hown
  have hl : lv_has ls 14 [(0, .ref (B + k)), (1, .ref (B + j)), (2, .long (lZ (f))), (4, .int (iZ (↑p0)))] := hl
  have hn : n ≤ 152 := by have := (hZ.2 k hk).2; rw [ev] at this; exact this
  have hd0 : ∀ i, d i < 268435456 := by have := (hZ.2 k hk).1; rw [ev] at this; exact this
  have hn2 : n2 ≤ 152 := by have := (hZ.2 j hj).2; rw [ev2] at this; exact this
  have hd2 : ∀ i, d2 i < 268435456 := by have := (hZ.2 j hj).1; rw [ev2] at this; exact this
  have fr : ∀ j, j ≠ k → v0 j = v0 j := fun j _ => rfl
  refine lv_iload hx hb dW_mix_0 (lv_at hl 3 rfl) ?_
  refine zr_if_lt (tgt := 14) hx hb (by omega) dW_mix_2 (by decide) (fun c_1 => ?_) (fun c_1 => ?_)
  · exfalso; omega
  · refine lv_iload hx hb dW_mix_5 (lv_at hl 3 rfl) ?_
    refine lv_aload_n hx hb dW_mix_7 rfl (lv_at hl 0 rfl) ?_
    refine zw_count hx hb ht hown hK hZ hk ev tw_34 dW_mix_8 ?_
    refine zr_icmp_le (tgt := 16) hx hb (by omega) (by omega) dW_mix_11 (by decide) (fun c_2 => ?_) (fun c_2 => ?_)
    · refine lv_aload_n hx hb dW_mix_16 rfl (lv_at hl 0 rfl) ?_
      refine zw_limbs hx hb ht hown hK hZ hk ev tw_31 dW_mix_17 ?_
      refine lv_astore (lv' := [(5, .ref (B + (k + 1))), (0, .ref (B + k)), (1, .ref (B + j)), (2, .long (lZ (f))), (4, .int (iZ (↑p0)))]) hx hb dW_mix_20 hl (by decide) rfl (fun ls hl => ?_)
      refine lv_aload_n hx hb dW_mix_22 rfl (lv_at hl 2 rfl) ?_
      refine zw_limbs hx hb ht hown hK hZ hj ev2 tw_31 dW_mix_23 ?_
      refine lv_astore (lv' := [(6, .ref (B + (j + 1))), (5, .ref (B + (k + 1))), (0, .ref (B + k)), (1, .ref (B + j)), (2, .long (lZ (f))), (4, .int (iZ (↑p0)))]) hx hb dW_mix_26 hl (by decide) rfl (fun ls hl => ?_)
      refine lv_aload_n hx hb dW_mix_28 rfl (lv_at hl 3 rfl) ?_
      refine zw_count hx hb ht hown hK hZ hj ev2 tw_34 dW_mix_29 ?_
      refine lv_aload_n hx hb dW_mix_32 rfl (lv_at hl 2 rfl) ?_
      refine zw_count hx hb ht hown hK hZ hk ev tw_34 dW_mix_33 ?_
      refine lv_iload hx hb dW_mix_36 (lv_at hl 5 rfl) ?_
      refine zr_isub hx hb dW_mix_38 ?_
      refine zr_min hx hb (by rw [hml]; exact hl.1.symm) ht hown tw_305 (by rw [hR]; decide) (by rw [hR]; exact Nat.le_of_ble_eq_true rfl) (Nat.zero_le _) (Nat.zero_le _) (by omega) (by omega) dW_mix_39 ?_
      refine lv_istore (lv' := [(7, .int (iZ (min (↑n2 : Int) (↑n - ↑p0 : Int)))), (6, .ref (B + (j + 1))), (5, .ref (B + (k + 1))), (0, .ref (B + k)), (1, .ref (B + j)), (2, .long (lZ (f))), (4, .int (iZ (↑p0)))]) hx hb dW_mix_42 hl (by decide) rfl (fun ls hl => ?_)
      refine lv_iload hx hb dW_mix_44 (lv_at hl 6 rfl) ?_
      refine lv_istore (lv' := [(8, .int (iZ (↑p0))), (7, .int (iZ (min (↑n2 : Int) (↑n - ↑p0 : Int)))), (6, .ref (B + (j + 1))), (5, .ref (B + (k + 1))), (0, .ref (B + k)), (1, .ref (B + j)), (2, .long (lZ (f))), (4, .int (iZ (↑p0)))]) hx hb dW_mix_46 hl (by decide) rfl (fun ls hl => ?_)
      refine lv_lconst (v := lZ (0)) hx hb dW_mix_48 (by decide) ?_
      refine lv_lstore (lv' := [(9, .long (lZ (0))), (8, .int (iZ (↑p0))), (7, .int (iZ (min (↑n2 : Int) (↑n - ↑p0 : Int)))), (6, .ref (B + (j + 1))), (5, .ref (B + (k + 1))), (0, .ref (B + k)), (1, .ref (B + j)), (2, .long (lZ (f))), (4, .int (iZ (↑p0)))]) hx hb dW_mix_49 hl (by decide) rfl (fun ls hl => ?_)
      refine lv_iconst (v := iZ (0)) hx hb dW_mix_51 (by decide) ?_
      refine lv_istore (lv' := [(11, .int (iZ (0))), (9, .long (lZ (0))), (8, .int (iZ (↑p0))), (7, .int (iZ (min (↑n2 : Int) (↑n - ↑p0 : Int)))), (6, .ref (B + (j + 1))), (5, .ref (B + (k + 1))), (0, .ref (B + k)), (1, .ref (B + j)), (2, .long (lZ (f))), (4, .int (iZ (↑p0)))]) hx hb dW_mix_52 hl (by decide) rfl (fun ls hl => ?_)
      have L54 : ∀ (fu : Nat) (i : Nat) (d1 : Nat → Nat) (c1 : Int) (v : Nat → zV) (H : Heap) (locs : List Loc) (ls : Array Slot), n2 - i < fu → ((wv d1 (p0 + i) : Int) + c1 * wP (p0 + i) = wv d (p0 + i) + f * wP p0 * wv d2 i) → (∀ q, p0 + i ≤ q → d1 q = d q) → (-268435456 ≤ c1 ∧ c1 ≤ 268435456) → (i ≤ n2) → v k = (d1, n, b) → v j = (d2, n2, b2) → (∀ j, j ≠ k → v j = v0 j) → zD E B v o H → va_S (zA B 80) s.heap H locs → lv_has ls 14 [(0, .ref (B + k)), (1, .ref (B + j)), (2, .long (lZ (f))), (5, .ref (B + (k + 1))), (6, .ref (B + (j + 1))), (7, .int (iZ (min ↑n2 (↑n - ↑p0)))), (8, .int (iZ (↑p0 + ↑i))), (9, .long (lZ (c1))), (11, .int (iZ (↑i)))] → W p l e R s m args below meth c H locs 0 0 Q (F0 m 54 ls []) := by
        intro fu
        induction fu with
        | zero => intro i d1 c1 v H locs ls hm; exact absurd hm (Nat.not_lt_zero _)
        | succ fu ihL54 =>
          intro i d1 c1 v H locs ls hm hI hu hc1 hi ev ev2 fr hZ hS hl
          refine lv_iload hx hb dW_mix_54 (lv_at hl 8 rfl) ?_
          refine lv_iload hx hb dW_mix_56 (lv_at hl 5 rfl) ?_
          refine zr_icmp_ge (tgt := 106) hx hb (by omega) (by omega) dW_mix_58 (by decide) (fun c_3 => ?_) (fun c_3 => ?_)
          · have L106 : ∀ (fu : Nat) (a : Nat) (d1 : Nat → Nat) (c1 : Int) (v : Nat → zV) (H : Heap) (locs : List Loc) (ls : Array Slot), n - a < fu → ((wv d1 a : Int) + c1 * wP a = wv d a + f * wP p0 * wv d2 n2) → (∀ q, a ≤ q → d1 q = d q) → (-268435456 ≤ c1 ∧ c1 ≤ 268435456) → (a ≤ n) → v k = (d1, n, b) → v j = (d2, n2, b2) → (∀ j, j ≠ k → v j = v0 j) → zD E B v o H → va_S (zA B 80) s.heap H locs → lv_has ls 14 [(0, .ref (B + k)), (5, .ref (B + (k + 1))), (8, .int (iZ (↑a))), (9, .long (lZ (c1)))] → W p l e R s m args below meth c H locs 0 0 Q (F0 m 106 ls []) := by
              intro fu
              induction fu with
              | zero => intro a d1 c1 v H locs ls hm; exact absurd hm (Nat.not_lt_zero _)
              | succ fu ihL106 =>
                intro a d1 c1 v H locs ls hm hI hu hc1 ha ev ev2 fr hZ hS hl
                have J156 : ∀  (v : Nat → zV) (H : Heap) (locs : List Loc) (ls : Array Slot), ((wv d1 n : Int) + c1 * wP n = wv d n + f * wP p0 * wv d2 n2) → v k = (d1, n, b) → v j = (d2, n2, b2) → (∀ j, j ≠ k → v j = v0 j) → zD E B v o H → va_S (zA B 80) s.heap H locs → lv_has ls 14 [(9, .long (lZ (c1)))] → W p l e R s m args below meth c H locs 0 0 Q (F0 m 156 ls []) := by
                  intro  v H locs ls hF ev ev2 fr hZ hS hl
                  refine lv_lload hx hb dW_mix_156 (lv_at hl 0 rfl) ?_
                  exact hend 158 (_) v _ _ _ dW_mix_158 (⟨fr, d1, c1, ev, rfl, hF, hc1.1, hc1.2⟩) hZ hS
                refine lv_iload hx hb dW_mix_106 (lv_at hl 2 rfl) ?_
                refine lv_aload_n hx hb dW_mix_108 rfl (lv_at hl 0 rfl) ?_
                refine zw_count hx hb ht hown hK hZ hk ev tw_34 dW_mix_109 ?_
                refine zr_icmp_ge (tgt := 156) hx hb (by omega) (by omega) dW_mix_112 (by decide) (fun c_4 => ?_) (fun c_4 => ?_)
                · exact J156  v _ _ _ (by first | exact mixA hI (by omega) | exact mixB hI hu (by omega) (by omega)) ev ev2 fr hZ hS (lv_sub hl [3] rfl)
                · refine lv_lload hx hb dW_mix_115 (lv_at hl 3 rfl) ?_
                  refine lv_lconst (v := lZ (0)) hx hb dW_mix_117 (by decide) ?_
                  refine zr_lcmp_eq (tgt := 156) hx hb (by omega) (by omega) dW_mix_118 dW_mix_119 (by decide) (fun c_5 => ?_) (fun c_5 => ?_)
                  · exact J156  v _ _ _ (by first | exact mixA hI (by omega) | exact mixB hI hu (by omega) (by omega)) ev ev2 fr hZ hS (lv_sub hl [3] rfl)
                  · refine lv_aload hx hb dW_mix_122 (lv_at hl 1 rfl) ?_
                    refine lv_iload hx hb dW_mix_124 (lv_at hl 2 rfl) ?_
                    refine zw_ld hx hb hK hZ hk ev (by omega) (by omega) dW_mix_126 ?_
                    rw [show (↑a : Int).toNat = a from by omega]
                    refine zc_l (y := lZ (↑(d a))) (congrArg lZ (by rw [hu _ (Nat.le_refl _)])) ?_
                    refine lv_lload hx hb dW_mix_127 (lv_at hl 3 rfl) ?_
                    refine zr_ladd hx hb dW_mix_129 ?_
                    obtain ⟨zz, hzz⟩ : ∃ t : Int, t = (↑(d a)) + c1 := ⟨_, rfl⟩
                    have hda := hd0 a
                    refine zc_l (y := lZ (zz)) (congrArg lZ hzz.symm) ?_
                    refine lv_lstore (lv' := [(11, .long (lZ (zz))), (0, .ref (B + k)), (5, .ref (B + (k + 1))), (8, .int (iZ (↑a))), (9, .long (lZ (c1)))]) hx hb dW_mix_130 hl (by decide) rfl (fun ls hl => ?_)
                    refine lv_aload hx hb dW_mix_132 (lv_at hl 2 rfl) ?_
                    refine lv_iload hx hb dW_mix_134 (lv_at hl 3 rfl) ?_
                    refine lv_lload hx hb dW_mix_136 (lv_at hl 0 rfl) ?_
                    refine lv_ldc2 (v := lZ (268435455)) hx hb hown (ht _ tw_291) dW_mix_138 ?_
                    refine zr_mask (n := 28) (P := 268435456) hx hb (Nat.le_of_ble_eq_true rfl) p2_28 m2_28 dW_mix_141 ?_
                    rw [show (zz % 268435456 : Int) = (((zz % 268435456).toNat : Nat) : Int) from by omega]
                    refine zw_st (x := (zz % 268435456).toNat) hx hb hK hZ hk ev hS (by omega) (by omega) (by omega) dW_mix_142 (fun v H locs ev ho hZ hS => ?_)
                    rw [show (↑a : Int).toNat = a from by omega] at ev
                    have ev2 := (ho j hjk).trans ev2
                    have fr : ∀ j, j ≠ k → v j = v0 j := fun j h0 => (ho j h0).trans (fr j h0)
                    refine lv_lload hx hb dW_mix_143 (lv_at hl 0 rfl) ?_
                    refine lv_bipush (v := iZ (28)) hx hb dW_mix_145 (by decide) ?_
                    refine zr_lshr (n := 28) (P := 268435456) hx hb (by omega) (Nat.le_of_ble_eq_true rfl) (p2_28) dW_mix_147 ?_
                    refine lv_lstore (lv' := [(9, .long (lZ (zz / 268435456))), (11, .long (lZ (zz))), (0, .ref (B + k)), (5, .ref (B + (k + 1))), (8, .int (iZ (↑a)))]) hx hb dW_mix_148 hl (by decide) rfl (fun ls hl => ?_)
                    refine lv_iinc (v := iZ (↑a + 1)) (lv' := [(8, .int (iZ (↑a + 1))), (9, .long (lZ (zz / 268435456))), (11, .long (lZ (zz))), (0, .ref (B + k)), (5, .ref (B + (k + 1)))]) hx hb dW_mix_150 hl (k := 4) rfl (iZ_add _ _) (by decide) rfl (fun ls hl => ?_)
                    refine lv_goto (tgt := 106) hx hb dW_mix_153 (by decide) ?_
                    exact ihL106 (a + 1) (va_up d1 a (zz % 268435456).toNat) (zz / 268435456) v _ _ _ (by omega) (carry_step hI hzz) (fun q hq => by rw [va_up_ne _ _ (by omega)]; exact hu q (by omega)) (by omega) (by omega) ev ev2 fr hZ hS (lv_sub hl [3, 4, 0, 1] rfl)
            exact L106 _ (p0 + i) d1 c1 v _ _ _ (Nat.lt_succ_self _) (by have e : i = n2 := (by omega); rw [e] at hI ⊢; exact hI) (hu) (hc1) (by omega) ev ev2 fr hZ hS (lv_sub hl [0, 3, 6, 7] rfl)
          · refine lv_aload hx hb dW_mix_61 (lv_at hl 3 rfl) ?_
            refine lv_iload hx hb dW_mix_63 (lv_at hl 6 rfl) ?_
            refine zw_ld hx hb hK hZ hk ev (by omega) (by omega) dW_mix_65 ?_
            rw [show (↑p0 + ↑i : Int).toNat = p0 + i from by omega]
            refine zc_l (y := lZ (↑(d (p0 + i)))) (congrArg lZ (by rw [hu _ (Nat.le_refl _)])) ?_
            refine lv_lload_n hx hb dW_mix_66 rfl (lv_at hl 2 rfl) ?_
            refine lv_aload hx hb dW_mix_67 (lv_at hl 4 rfl) ?_
            refine lv_iload hx hb dW_mix_69 (lv_at hl 8 rfl) ?_
            refine zw_ld hx hb hK hZ hj ev2 (by omega) (by omega) dW_mix_71 ?_
            rw [show (↑i : Int).toNat = i from by omega]
            refine zr_lmul hx hb dW_mix_72 ?_
            refine zr_ladd hx hb dW_mix_73 ?_
            refine lv_lload hx hb dW_mix_74 (lv_at hl 7 rfl) ?_
            refine zr_ladd hx hb dW_mix_76 ?_
            obtain ⟨zz, hzz⟩ : ∃ t : Int, t = ((↑(d (p0 + i))) + (f * (↑(d2 i)))) + c1 := ⟨_, rfl⟩
            have hbd := mix_bd (c := c1) (hd0 (p0 + i)) (hd2 i) hf.1 hf.2 hc1.1 hc1.2
            rw [← hzz] at hbd
            refine zc_l (y := lZ (zz)) (congrArg lZ hzz.symm) ?_
            refine lv_lstore (lv' := [(12, .long (lZ (zz))), (0, .ref (B + k)), (1, .ref (B + j)), (2, .long (lZ (f))), (5, .ref (B + (k + 1))), (6, .ref (B + (j + 1))), (7, .int (iZ (min ↑n2 (↑n - ↑p0)))), (8, .int (iZ (↑p0 + ↑i))), (9, .long (lZ (c1))), (11, .int (iZ (↑i)))]) hx hb dW_mix_77 hl (by decide) rfl (fun ls hl => ?_)
            refine lv_aload hx hb dW_mix_79 (lv_at hl 4 rfl) ?_
            refine lv_iload hx hb dW_mix_81 (lv_at hl 7 rfl) ?_
            refine lv_lload hx hb dW_mix_83 (lv_at hl 0 rfl) ?_
            refine lv_ldc2 (v := lZ (268435455)) hx hb hown (ht _ tw_291) dW_mix_85 ?_
            refine zr_mask (n := 28) (P := 268435456) hx hb (Nat.le_of_ble_eq_true rfl) p2_28 m2_28 dW_mix_88 ?_
            rw [show (zz % 268435456 : Int) = (((zz % 268435456).toNat : Nat) : Int) from by omega]
            refine zw_st (x := (zz % 268435456).toNat) hx hb hK hZ hk ev hS (by omega) (by omega) (by omega) dW_mix_89 (fun v H locs ev ho hZ hS => ?_)
            rw [show (↑p0 + ↑i : Int).toNat = p0 + i from by omega] at ev
            have ev2 := (ho j hjk).trans ev2
            have fr : ∀ j, j ≠ k → v j = v0 j := fun j h0 => (ho j h0).trans (fr j h0)
            refine lv_lload hx hb dW_mix_90 (lv_at hl 0 rfl) ?_
            refine lv_bipush (v := iZ (28)) hx hb dW_mix_92 (by decide) ?_
            refine zr_lshr (n := 28) (P := 268435456) hx hb (hbd.1) (Nat.le_of_ble_eq_true rfl) (p2_28) dW_mix_94 ?_
            refine lv_lstore (lv' := [(9, .long (lZ (zz / 268435456))), (12, .long (lZ (zz))), (0, .ref (B + k)), (1, .ref (B + j)), (2, .long (lZ (f))), (5, .ref (B + (k + 1))), (6, .ref (B + (j + 1))), (7, .int (iZ (min ↑n2 (↑n - ↑p0)))), (8, .int (iZ (↑p0 + ↑i))), (11, .int (iZ (↑i)))]) hx hb dW_mix_95 hl (by decide) rfl (fun ls hl => ?_)
            refine lv_iinc (v := iZ (↑p0 + ↑i + 1)) (lv' := [(8, .int (iZ (↑p0 + ↑i + 1))), (9, .long (lZ (zz / 268435456))), (12, .long (lZ (zz))), (0, .ref (B + k)), (1, .ref (B + j)), (2, .long (lZ (f))), (5, .ref (B + (k + 1))), (6, .ref (B + (j + 1))), (7, .int (iZ (min ↑n2 (↑n - ↑p0)))), (11, .int (iZ (↑i)))]) hx hb dW_mix_97 hl (k := 8) rfl (iZ_add _ _) (by decide) rfl (fun ls hl => ?_)
            refine lv_iinc (v := iZ (↑i + 1)) (lv' := [(11, .int (iZ (↑i + 1))), (8, .int (iZ (↑p0 + ↑i + 1))), (9, .long (lZ (zz / 268435456))), (12, .long (lZ (zz))), (0, .ref (B + k)), (1, .ref (B + j)), (2, .long (lZ (f))), (5, .ref (B + (k + 1))), (6, .ref (B + (j + 1))), (7, .int (iZ (min ↑n2 (↑n - ↑p0))))]) hx hb dW_mix_100 hl (k := 9) rfl (iZ_add _ _) (by decide) rfl (fun ls hl => ?_)
            refine lv_goto (tgt := 54) hx hb dW_mix_103 (by decide) ?_
            exact ihL54 (i + 1) (va_up d1 (p0 + i) (zz % 268435456).toNat) (zz / 268435456) v _ _ _ (by omega) (mix_step hI hzz) (fun q hq => by rw [va_up_ne _ _ (by omega)]; exact hu q (by omega)) (⟨hbd.2.1, hbd.2.2⟩) (by omega) ev ev2 fr hZ hS (lv_sub hl [4, 5, 6, 7, 8, 9, 1, 2, 0] rfl)
      exact L54 _ 0 d 0 v0 _ _ _ (Nat.lt_succ_self _) (by rw [wv_0, Int.zero_mul]; simp) (fun _ _ => rfl) (by omega) (by omega) ev ev2 fr hZ hS (lv_sub hl [6, 7, 8, 5, 4, 3, 2, 1, 0] rfl)
    · exfalso; omega
end
section
set_option maxHeartbeats 4000000 in
set_option maxRecDepth 100000 in
theorem mW_scale (l : Launch) (E : zE) (B : Nat) (v0 : Nat → zV) (o : Nat → va_E) (k : Nat) (hk : lp k = true) (d : Nat → Nat) (n : Nat) (b : Bool) (ev : v0 k = (d, n, b)) (f s0 : Nat) (hf : f < 268435456) (hs0 : s0 < 268435456) (hn1 : n + 1 ≤ 152) :
    Met l yW_scale (zws yW_scale cW_scale 10 none) { frames := 2, cells := 0, slots := 0, locals := 64 } (zPc E (zD E B v0 o) [.ref (B + k), .long (lZ (↑f)), .long (lZ (↑s0))]) (va_Qv (fun v : Nat → zV => (∀ j, j ≠ k → v j = v0 j) ∧ zN (v k) (if b = true then -((f * wv d n + s0 : Nat) : Int) else ((f * wv d n + s0 : Nat) : Int))) (fun v t => zD E B v o t.heap ∧ zK E t) (zA B 80)) 0 0 (zA B 80) := by
  refine zof_v (by decide) (Nat.le_of_ble_eq_true rfl) fun p e R s m args below meth c Q ls hR hx hb hml ht hown hK hZ hl hend => ?_
  have hS : va_S (zA B 80) s.heap s.heap [] := va_S.rf
  have hown : s.vm.findClass "WholeDesk$Whole" = some m.cls := hown
  have hl : lv_has ls 10 [(0, .ref (B + k)), (1, .long (lZ (↑f))), (3, .long (lZ (↑s0)))] := hl
  have hn : n ≤ 152 := by have := (hZ.2 k hk).2; rw [ev] at this; exact this
  have hd0 : ∀ i, d i < 268435456 := by have := (hZ.2 k hk).1; rw [ev] at this; exact this
  have fr : ∀ j, j ≠ k → v0 j = v0 j := fun j _ => rfl
  refine lv_aload_n hx hb dW_scale_0 rfl (lv_at hl 0 rfl) ?_
  refine lv_aload_n hx hb dW_scale_1 rfl (lv_at hl 0 rfl) ?_
  refine zw_count hx hb ht hown hK hZ hk ev tw_34 dW_scale_2 ?_
  refine lv_iconst (v := iZ (1)) hx hb dW_scale_5 (by decide) ?_
  refine zr_iadd hx hb dW_scale_6 ?_
  refine zcV_v 1 (As := [.int (iZ (↑n + 1))]) (rest := []) rfl ⟨hx, hb, hml, hown, ht⟩ (mW_stretch l E B v0 o k hk d n b ev (↑n + 1) (by omega)) tw_304 tw_301 tw_302 tw_303 tw_2 qW_stretch (by rw [hR]; decide) (zW_recv hK hZ hk) hZ hK hl.1 rfl rfl (Nat.le_of_ble_eq_true rfl) dW_scale_7 ⟨Nat.zero_le _, Nat.zero_le _⟩ hS (fun  v H locs hp hZ _ hS => ?_)
  obtain ⟨ho, d_2, n_1, ev, hn_1, hd_2lo, hd_2hi⟩ := hp
  have fr : ∀ j, j ≠ k → v j = v0 j := fun j h0 => (ho j h0).trans (fr j h0)
  have hnn : n_1 = n + 1 := by omega
  have hda : ∀ i, d_2 i < 268435456 := by have := (hZ.2 k hk).1; rw [ev] at this; exact this
  refine lv_lload_n hx hb dW_scale_10 rfl (lv_at hl 2 rfl) ?_
  refine lv_lstore (lv' := [(5, .long (lZ (↑s0))), (0, .ref (B + k)), (1, .long (lZ (↑f))), (3, .long (lZ (↑s0)))]) hx hb dW_scale_11 hl (by decide) rfl (fun ls hl => ?_)
  refine lv_iconst (v := iZ (0)) hx hb dW_scale_13 (by decide) ?_
  refine lv_istore (lv' := [(7, .int (iZ (0))), (5, .long (lZ (↑s0))), (0, .ref (B + k)), (1, .long (lZ (↑f))), (3, .long (lZ (↑s0)))]) hx hb dW_scale_14 hl (by decide) rfl (fun ls hl => ?_)
  have L16 : ∀ (fu : Nat) (i : Nat) (d1 : Nat → Nat) (c1 : Nat) (v : Nat → zV) (H : Heap) (locs : List Loc) (ls : Array Slot), n_1 - i < fu → (wv d1 i + c1 * wP i = f * wv d_2 i + s0) → (∀ q, i ≤ q → d1 q = d_2 q) → (c1 ≤ 268435456) → (i ≤ n_1) → v k = (d1, n_1, b) → (∀ j, j ≠ k → v j = v0 j) → zD E B v o H → va_S (zA B 80) s.heap H locs → lv_has ls 10 [(0, .ref (B + k)), (1, .long (lZ (↑f))), (5, .long (lZ (↑c1))), (7, .int (iZ (↑i)))] → W p l e R s m args below meth c H locs 0 0 Q (F0 m 16 ls []) := by
    intro fu
    induction fu with
    | zero => intro i d1 c1 v H locs ls hm; exact absurd hm (Nat.not_lt_zero _)
    | succ fu ihL16 =>
      intro i d1 c1 v H locs ls hm hI hu hc1 hi ev fr hZ hS hl
      refine lv_iload hx hb dW_scale_16 (lv_at hl 3 rfl) ?_
      refine lv_aload_n hx hb dW_scale_18 rfl (lv_at hl 0 rfl) ?_
      refine zw_count hx hb ht hown hK hZ hk ev tw_34 dW_scale_19 ?_
      refine zr_icmp_ge (tgt := 65) hx hb (by omega) (by omega) dW_scale_22 (by decide) (fun c_3 => ?_) (fun c_3 => ?_)
      · have hin : i = n + 1 := by omega
        subst hin
        have hfin := scale_end (d1 := d_2) (d2 := d1) hf hs0 hd0 hd_2lo (hd_2hi n (Nat.le_refl _) (by omega)) hI
        refine lv_aload_n hx hb dW_scale_65 rfl (lv_at hl 0 rfl) ?_
        refine zcV_v 0 (As := []) (rest := []) rfl ⟨hx, hb, hml, hown, ht⟩ (mW_trim l E B v o k hk d1 n_1 b ev) tw_295 tw_292 tw_293 tw_294 tw_2 qW_trim (by rw [hR]; decide) (zW_recv hK hZ hk) hZ hK hl.1 rfl rfl (Nat.le_of_ble_eq_true rfl) dW_scale_66 ⟨Nat.zero_le _, Nat.zero_le _⟩ hS (fun  v H locs hp hZ _ hS => ?_)
        obtain ⟨ho, n_4, ev, hn_4le, hn_4z, hn_4nz⟩ := hp
        have fr : ∀ j, j ≠ k → v j = v0 j := fun j h0 => (ho j h0).trans (fr j h0)
        exact hend 69 v _ _ _ dW_scale_69 (⟨fr, by
          rw [ev]
          have h9 := zN_trim (b := b) hn_4le hn_4z hn_4nz
          rw [hnn, hfin] at h9
          exact h9⟩) hZ hS
      · refine lv_aload_n hx hb dW_scale_25 rfl (lv_at hl 0 rfl) ?_
        refine zw_limbs hx hb ht hown hK hZ hk ev tw_31 dW_scale_26 ?_
        refine lv_iload hx hb dW_scale_29 (lv_at hl 3 rfl) ?_
        refine zw_ld hx hb hK hZ hk ev (by omega) (by omega) dW_scale_31 ?_
        rw [show (↑i : Int).toNat = i from by omega]
        refine zc_l (y := lZ (↑(d_2 i))) (congrArg lZ (by rw [hu _ (Nat.le_refl _)])) ?_
        refine lv_lload_n hx hb dW_scale_32 rfl (lv_at hl 1 rfl) ?_
        refine zr_lmul hx hb dW_scale_33 ?_
        refine lv_lload hx hb dW_scale_34 (lv_at hl 2 rfl) ?_
        refine zr_ladd hx hb dW_scale_36 ?_
        have hmf : d_2 i * f ≤ 268435455 * 268435455 := Nat.mul_le_mul (by have := hda i; omega) (by omega)
        refine zc_l (y := lZ (↑(d_2 i * f + c1))) (congrArg lZ (by rw [Int.natCast_add, Int.natCast_mul])) ?_
        refine lv_lstore (lv' := [(8, .long (lZ (↑(d_2 i * f + c1)))), (0, .ref (B + k)), (1, .long (lZ (↑f))), (5, .long (lZ (↑c1))), (7, .int (iZ (↑i)))]) hx hb dW_scale_37 hl (by decide) rfl (fun ls hl => ?_)
        refine lv_aload_n hx hb dW_scale_39 rfl (lv_at hl 1 rfl) ?_
        refine zw_limbs hx hb ht hown hK hZ hk ev tw_31 dW_scale_40 ?_
        refine lv_iload hx hb dW_scale_43 (lv_at hl 4 rfl) ?_
        refine lv_lload hx hb dW_scale_45 (lv_at hl 0 rfl) ?_
        refine lv_ldc2 (v := lZ (268435455)) hx hb hown (ht _ tw_291) dW_scale_47 ?_
        refine zr_mask (n := 28) (P := 268435456) hx hb (Nat.le_of_ble_eq_true rfl) p2_28 m2_28 dW_scale_50 ?_
        rw [show ((↑(d_2 i * f + c1)) % 268435456 : Int) = (((d_2 i * f + c1) % 268435456 : Nat) : Int) from (Int.natCast_emod _ _).symm]
        refine zw_st (x := (d_2 i * f + c1) % 268435456) hx hb hK hZ hk ev hS (by omega) (by omega) (Nat.mod_lt _ (by decide)) dW_scale_51 (fun v H locs ev ho hZ hS => ?_)
        rw [show (↑i : Int).toNat = i from by omega] at ev
        have fr : ∀ j, j ≠ k → v j = v0 j := fun j h0 => (ho j h0).trans (fr j h0)
        refine lv_lload hx hb dW_scale_52 (lv_at hl 0 rfl) ?_
        refine lv_bipush (v := iZ (28)) hx hb dW_scale_54 (by decide) ?_
        refine zr_lushr (n := 28) (P := 268435456) hx hb (by omega) (by omega) (Nat.le_of_ble_eq_true rfl) (p2_28) dW_scale_56 ?_
        refine zc_l (y := lZ (↑((d_2 i * f + c1) / 268435456))) (congrArg lZ (Int.natCast_ediv _ _).symm) ?_
        refine lv_lstore (lv' := [(5, .long (lZ (↑((d_2 i * f + c1) / 268435456)))), (8, .long (lZ (↑(d_2 i * f + c1)))), (0, .ref (B + k)), (1, .long (lZ (↑f))), (7, .int (iZ (↑i)))]) hx hb dW_scale_57 hl (by decide) rfl (fun ls hl => ?_)
        refine lv_iinc (v := iZ (↑i + 1)) (lv' := [(7, .int (iZ (↑i + 1))), (5, .long (lZ (↑((d_2 i * f + c1) / 268435456)))), (8, .long (lZ (↑(d_2 i * f + c1)))), (0, .ref (B + k)), (1, .long (lZ (↑f)))]) hx hb dW_scale_59 hl (k := 4) rfl (iZ_add _ _) (by decide) rfl (fun ls hl => ?_)
        refine lv_goto (tgt := 16) hx hb dW_scale_62 (by decide) ?_
        exact ihL16 (i + 1) (va_up d1 i ((d_2 i * f + c1) % 268435456)) ((d_2 i * f + c1) / 268435456) v _ _ _ (by omega) (scale_step hI) (fun q hq => by rw [va_up_ne _ _ (by omega)]; exact hu q (by omega)) (by omega) (by omega) ev fr hZ hS (lv_sub hl [3, 4, 1, 0] rfl)
  exact L16 _ 0 d_2 s0 v _ _ _ (Nat.lt_succ_self _) (by show 0 + s0 * 1 = f * 0 + s0; omega) (fun _ _ => rfl) (by omega) (by omega) ev fr hZ hS (lv_sub hl [2, 3, 1, 0] rfl)

theorem xor_mask {a : Nat} (h : a < 268435456) : lZ (a : Int) ^^^ lZ 268435455 = lZ ((268435455 - a : Nat) : Int) := by
  have e : a ^^^ 268435455 = 268435455 - a := by
    have h1 := BitVec.toNat_not (x := BitVec.ofNat 28 a)
    rw [← BitVec.xor_allOnes, BitVec.toNat_xor, BitVec.toNat_allOnes, BitVec.toNat_ofNat, Nat.mod_eq_of_lt h] at h1
    exact h1
  rw [← lZ_lN, show lZ 268435455 = lN 268435455 from (lZ_lN 268435455).symm, ← lZ_lN, ← e]
  apply wb_inj
  rw [Int64.toBitVec_xor, wb_tb, wb_tb, wb_tb]
  apply BitVec.eq_of_toNat_eq
  rw [BitVec.toNat_xor, BitVec.toNat_ofNat, BitVec.toNat_ofNat, BitVec.toNat_ofNat, Nat.mod_eq_of_lt (by omega : a < 2 ^ 64), Nat.mod_eq_of_lt (by decide : 268435455 < 2 ^ 64), Nat.mod_eq_of_lt (by rw [e]; omega)]
set_option maxHeartbeats 4000000 in
set_option maxRecDepth 100000 in
theorem mW_turn (l : Launch) (E : zE) (B : Nat) (v0 : Nat → zV) (o : Nat → va_E) (k : Nat) (hk : lp k = true) (d : Nat → Nat) (n : Nat) (b : Bool) (ev : v0 k = (d, n, b)) :
    Met l yW_turn (zws yW_turn cW_turn 6 none) { frames := 0, cells := 0, slots := 0, locals := 0 } (zPc E (zD E B v0 o) [.ref (B + k)]) (va_Qv (fun v : Nat → zV => (∀ j, j ≠ k → v j = v0 j) ∧ ∃ (d1 : Nat → Nat) (c : Nat), v k = (d1, n, b) ∧ c ≤ 1 ∧ wv d1 n + c * wP n + wv d n = wP n) (fun v t => zD E B v o t.heap ∧ zK E t) (zA B 80)) 0 0 (zA B 80) := by
  refine zof_v (by decide) (Nat.le_of_ble_eq_true rfl) fun p e R s m args below meth c Q ls hR hx hb hml ht hown hK hZ hl hend => ?_
  have hS : va_S (zA B 80) s.heap s.heap [] := va_S.rf
  have hown : s.vm.findClass "WholeDesk$Whole" = some m.cls := hown
  have hl : lv_has ls 6 [(0, .ref (B + k))] := hl
  have hn : n ≤ 152 := by have := (hZ.2 k hk).2; rw [ev] at this; exact this
  have hd0 : ∀ i, d i < 268435456 := by have := (hZ.2 k hk).1; rw [ev] at this; exact this
  have fr : ∀ j, j ≠ k → v0 j = v0 j := fun j _ => rfl
  refine lv_lconst (v := lZ (1)) hx hb dW_turn_0 (by decide) ?_
  refine lv_lstore_n (lv' := [(1, .long (lZ (1))), (0, .ref (B + k))]) hx hb dW_turn_1 rfl hl (by decide) rfl (fun ls hl => ?_)
  refine lv_iconst (v := iZ (0)) hx hb dW_turn_2 (by decide) ?_
  refine lv_istore_n (lv' := [(3, .int (iZ (0))), (1, .long (lZ (1))), (0, .ref (B + k))]) hx hb dW_turn_3 rfl hl (by decide) rfl (fun ls hl => ?_)
  have L4 : ∀ (fu : Nat) (i : Nat) (d1 : Nat → Nat) (c1 : Nat) (v : Nat → zV) (H : Heap) (locs : List Loc) (ls : Array Slot), n - i < fu → (wv d1 i + c1 * wP i + wv d i = wP i) → (∀ q, i ≤ q → d1 q = d q) → (c1 ≤ 1) → (i ≤ n) → v k = (d1, n, b) → (∀ j, j ≠ k → v j = v0 j) → zD E B v o H → va_S (zA B 80) s.heap H locs → lv_has ls 6 [(0, .ref (B + k)), (1, .long (lZ (↑c1))), (3, .int (iZ (↑i)))] → W p l e R s m args below meth c H locs 0 0 Q (F0 m 4 ls []) := by
    intro fu
    induction fu with
    | zero => intro i d1 c1 v H locs ls hm; exact absurd hm (Nat.not_lt_zero _)
    | succ fu ihL4 =>
      intro i d1 c1 v H locs ls hm hI hu hc1 hi ev fr hZ hS hl
      refine lv_iload_n hx hb dW_turn_4 rfl (lv_at hl 2 rfl) ?_
      refine lv_aload_n hx hb dW_turn_5 rfl (lv_at hl 0 rfl) ?_
      refine zw_count hx hb ht hown hK hZ hk ev tw_34 dW_turn_6 ?_
      refine zr_icmp_ge (tgt := 50) hx hb (by omega) (by omega) dW_turn_9 (by decide) (fun c_1 => ?_) (fun c_1 => ?_)
      · have hin : i = n := by omega
        subst hin
        exact hend 50 v _ _ _ dW_turn_50 (⟨fr, d1, c1, ev, hc1, hI⟩) hZ hS
      · refine lv_aload_n hx hb dW_turn_12 rfl (lv_at hl 0 rfl) ?_
        refine zw_limbs hx hb ht hown hK hZ hk ev tw_31 dW_turn_13 ?_
        refine lv_iload_n hx hb dW_turn_16 rfl (lv_at hl 2 rfl) ?_
        refine zw_ld hx hb hK hZ hk ev (by omega) (by omega) dW_turn_17 ?_
        rw [show (↑i : Int).toNat = i from by omega]
        refine zc_l (y := lZ (↑(d i))) (congrArg lZ (by rw [hu _ (Nat.le_refl _)])) ?_
        refine lv_ldc2 (v := lZ (268435455)) hx hb hown (ht _ tw_291) dW_turn_18 ?_
        refine lv_lxor hx hb dW_turn_21 ?_
        refine zc_l (y := lZ ↑(268435455 - d i)) (xor_mask (hd0 i)) ?_
        have hdi := hd0 i
        refine lv_lload_n hx hb dW_turn_22 rfl (lv_at hl 1 rfl) ?_
        refine zr_ladd hx hb dW_turn_23 ?_
        refine zc_l (y := lZ (↑(268435455 - d i + c1))) (congrArg lZ (Int.natCast_add _ _).symm) ?_
        refine lv_lstore (lv' := [(4, .long (lZ (↑(268435455 - d i + c1)))), (0, .ref (B + k)), (1, .long (lZ (↑c1))), (3, .int (iZ (↑i)))]) hx hb dW_turn_24 hl (by decide) rfl (fun ls hl => ?_)
        refine lv_aload_n hx hb dW_turn_26 rfl (lv_at hl 1 rfl) ?_
        refine zw_limbs hx hb ht hown hK hZ hk ev tw_31 dW_turn_27 ?_
        refine lv_iload_n hx hb dW_turn_30 rfl (lv_at hl 3 rfl) ?_
        refine lv_lload hx hb dW_turn_31 (lv_at hl 0 rfl) ?_
        refine lv_ldc2 (v := lZ (268435455)) hx hb hown (ht _ tw_291) dW_turn_33 ?_
        refine zr_mask (n := 28) (P := 268435456) hx hb (Nat.le_of_ble_eq_true rfl) p2_28 m2_28 dW_turn_36 ?_
        rw [show ((↑(268435455 - d i + c1)) % 268435456 : Int) = (((268435455 - d i + c1) % 268435456 : Nat) : Int) from (Int.natCast_emod _ _).symm]
        refine zw_st (x := (268435455 - d i + c1) % 268435456) hx hb hK hZ hk ev hS (by omega) (by omega) (Nat.mod_lt _ (by decide)) dW_turn_37 (fun v H locs ev ho hZ hS => ?_)
        rw [show (↑i : Int).toNat = i from by omega] at ev
        have fr : ∀ j, j ≠ k → v j = v0 j := fun j h0 => (ho j h0).trans (fr j h0)
        refine lv_lload hx hb dW_turn_38 (lv_at hl 0 rfl) ?_
        refine lv_bipush (v := iZ (28)) hx hb dW_turn_40 (by decide) ?_
        refine zr_lushr (n := 28) (P := 268435456) hx hb (by omega) (by omega) (Nat.le_of_ble_eq_true rfl) (p2_28) dW_turn_42 ?_
        refine zc_l (y := lZ (↑((268435455 - d i + c1) / 268435456))) (congrArg lZ (Int.natCast_ediv _ _).symm) ?_
        refine lv_lstore_n (lv' := [(1, .long (lZ (↑((268435455 - d i + c1) / 268435456)))), (4, .long (lZ (↑(268435455 - d i + c1)))), (0, .ref (B + k)), (3, .int (iZ (↑i)))]) hx hb dW_turn_43 rfl hl (by decide) rfl (fun ls hl => ?_)
        refine lv_iinc (v := iZ (↑i + 1)) (lv' := [(3, .int (iZ (↑i + 1))), (1, .long (lZ (↑((268435455 - d i + c1) / 268435456)))), (4, .long (lZ (↑(268435455 - d i + c1)))), (0, .ref (B + k))]) hx hb dW_turn_44 hl (k := 3) rfl (iZ_add _ _) (by decide) rfl (fun ls hl => ?_)
        refine lv_goto (tgt := 4) hx hb dW_turn_47 (by decide) ?_
        exact ihL4 (i + 1) (va_up d1 i ((268435455 - d i + c1) % 268435456)) ((268435455 - d i + c1) / 268435456) v _ _ _ (by omega) (turn_step (hd0 i) hI) (fun q hq => by rw [va_up_ne _ _ (by omega)]; exact hu q (by omega)) (by omega) (by omega) ev fr hZ hS (lv_sub hl [3, 1, 0] rfl)
  exact L4 _ 0 d 1 v0 _ _ _ (Nat.lt_succ_self _) (rfl) (fun _ _ => rfl) (by omega) (by omega) ev fr hZ hS (lv_sub hl [2, 1, 0] rfl)
end
section
theorem shrink_step2 {d d' : Nat → Nat} {v r i n q r' : Nat} (hi : 1 ≤ i) (hn : i ≤ n) (hd : ∀ j, j < i → d' j = d j) (hI : wv d' n * v + r * wP i + wv d i = wv d n + wv d i * v) (hq : r * 268435456 + d (i - 1) = q * v + r') :
    wv (va_up d' (i - 1) q) n * v + r' * wP (i - 1) + wv d (i - 1) = wv d n + wv d (i - 1) * v := by
  obtain ⟨k, rfl⟩ : ∃ k, i = k + 1 := ⟨i - 1, by omega⟩
  exact shrink_step (i := k) (by omega) (fun j hj => hd j (by omega)) hI hq
theorem cv_bd2 {a b : Nat → Nat} (ha : ∀ i, a i < 268435456) (hb : ∀ i, b i < 268435456) {na nb k : Nat} (h : na + nb ≤ 152) : cv a b nb na k ≤ 76 * 72057593501057025 := by
  rcases Nat.lt_or_ge k na with h1 | h1
  · rw [cv_high a b (Nat.le_refl (k + 1)) na (by omega)]
    exact Nat.le_trans (cv_bd ha hb (k + 1)) (Nat.mul_le_mul_right _ (by omega))
  · exact Nat.le_trans (cv_bd ha hb na) (Nat.mul_le_mul_right _ (by omega))
theorem cv_exit (a b : Nat → Nat) {na nb k i : Nat} (hi : i ≤ na) (h : k + 1 ≤ i ∨ na ≤ i) : cv a b nb i k = cv a b nb na k := by
  rcases h with h | h
  · exact (cv_high a b h na hi).symm
  · rw [show i = na by omega]
theorem prod_end {a b d : Nat → Nat} (ha : ∀ i, a i < 268435456) (hb : ∀ i, b i < 268435456) {na nb c : Nat} (hI : wv d (na + nb) + c * wP (na + nb) = wv (cv a b nb na) (na + nb)) : wv d (na + nb) = wv a na * wv b nb := by
  rw [cv_sum a b nb na (Nat.le_refl _)] at hI
  have h1 := wv_lt ha na
  have h2 := wv_lt hb nb
  have h3 : wv a na * wv b nb < wP na * wP nb := Nat.mul_lt_mul_of_le_of_lt (Nat.le_of_lt h1) h2 (Nat.lt_of_le_of_lt (Nat.zero_le _) h1)
  rw [← wP_add] at h3
  rcases Nat.eq_zero_or_pos c with h | h
  · subst h; omega
  · have : 1 * wP (na + nb) ≤ c * wP (na + nb) := Nat.mul_le_mul_right _ h
    omega
theorem lack_end {d d1 ds d2 : Nat → Nat} {n n1 n2 : Nat} {c : Int} (h1 : ∀ i, d1 i < 268435456) (h2 : ∀ i, d2 i < 268435456) (hlo : ∀ i, i < n → ds i = d i) (hhi : ∀ i, n ≤ i → i < n1 → ds i = 0) (hn : n ≤ n1) (hn2 : n2 ≤ n1) (hle : wv d n ≤ wv d2 n2) (hI : (wv d1 n1 : Int) + c * wP n1 = wv (wx d2 n2) n1 - wv ds n1) : (wv d1 n1 : Int) = wv d2 n2 - wv d n := by
  have e1 : wv ds n1 = wv d n := by rw [wv_drop hn hhi]; exact wv_congr hlo
  rw [wv_wx d2 hn2, e1] at hI
  have h3 := wv_lt h1 n1
  have h4 := Nat.lt_of_lt_of_le (wv_lt h2 n2) (wP_mono hn2)
  exact (no_carry hI (by omega) (by omega) (by omega) (by omega)).2
theorem cv_lo0 (a b : Nat → Nat) (nb k : Nat) : cv a b nb (k + 1 - nb) k = 0 := by
  rcases Nat.lt_or_ge (k + 1) nb with h | h
  · rw [show k + 1 - nb = 0 by omega]; rfl
  · exact cv_low a b _ (by omega)
end
section
set_option maxHeartbeats 4000000 in
set_option maxRecDepth 100000 in
theorem mW_shrink (l : Launch) (E : zE) (B : Nat) (v0 : Nat → zV) (o : Nat → va_E) (k : Nat) (hk : lp k = true) (d : Nat → Nat) (n : Nat) (b : Bool) (ev : v0 k = (d, n, b)) (dv : Nat) (hdv0 : 0 < dv) (hdv : dv ≤ 268435456) :
    Met l yW_shrink (zws yW_shrink cW_shrink 8 (some .long)) { frames := 1, cells := 0, slots := 0, locals := 20 } (zPc E (zD E B v0 o) [.ref (B + k), .long (lZ (↑dv))]) (va_Ql (fun (r : Int64) (v : Nat → zV) => (∀ j, j ≠ k → v j = v0 j) ∧ ∃ q r0 : Nat, r = lZ r0 ∧ r0 < dv ∧ q * dv + r0 = wv d n ∧ zN (v k) (if b = true then -(q : Int) else (q : Int))) (fun v t => zD E B v o t.heap ∧ zK E t) (zA B 80)) 0 0 (zA B 80) := by
  refine zof_l (by decide) (Nat.le_of_ble_eq_true rfl) fun p e R s m args below meth c Q ls hR hx hb hml ht hown hK hZ hl hend => ?_
  have hS : va_S (zA B 80) s.heap s.heap [] := va_S.rf
  have hown : s.vm.findClass "WholeDesk$Whole" = some m.cls := hown
  have hl : lv_has ls 8 [(0, .ref (B + k)), (1, .long (lZ (↑dv)))] := hl
  have hn : n ≤ 152 := by have := (hZ.2 k hk).2; rw [ev] at this; exact this
  have hd0 : ∀ i, d i < 268435456 := by have := (hZ.2 k hk).1; rw [ev] at this; exact this
  have fr : ∀ j, j ≠ k → v0 j = v0 j := fun j _ => rfl
  refine lv_lload_n hx hb dW_shrink_0 rfl (lv_at hl 1 rfl) ?_
  refine lv_lconst (v := lZ (0)) hx hb dW_shrink_1 (by decide) ?_
  refine zr_lcmp_gt (tgt := 8) hx hb (by omega) (by omega) dW_shrink_2 dW_shrink_3 (by decide) (fun c_1 => ?_) (fun c_1 => ?_)
  · refine lv_lconst (v := lZ (0)) hx hb dW_shrink_8 (by decide) ?_
    refine lv_lstore_n (lv' := [(3, .long (lZ (0))), (0, .ref (B + k)), (1, .long (lZ (↑dv)))]) hx hb dW_shrink_9 rfl hl (by decide) rfl (fun ls hl => ?_)
    refine lv_aload_n hx hb dW_shrink_10 rfl (lv_at hl 1 rfl) ?_
    refine zw_count hx hb ht hown hK hZ hk ev tw_34 dW_shrink_11 ?_
    refine lv_iconst (v := iZ (1)) hx hb dW_shrink_14 (by decide) ?_
    refine zr_isub hx hb dW_shrink_15 ?_
    refine lv_istore (lv' := [(5, .int (iZ (↑n - 1))), (3, .long (lZ (0))), (0, .ref (B + k)), (1, .long (lZ (↑dv)))]) hx hb dW_shrink_16 hl (by decide) rfl (fun ls hl => ?_)
    have L18 : ∀ (fu : Nat) (i : Nat) (d1 : Nat → Nat) (r1 : Nat) (v : Nat → zV) (H : Heap) (locs : List Loc) (ls : Array Slot), i < fu → (wv d1 n * dv + r1 * wP i + wv d i = wv d n + wv d i * dv) → (∀ q, q < i → d1 q = d q) → (r1 < dv) → (i ≤ n) → v k = (d1, n, b) → (∀ j, j ≠ k → v j = v0 j) → zD E B v o H → va_S (zA B 80) s.heap H locs → lv_has ls 8 [(0, .ref (B + k)), (1, .long (lZ (↑dv))), (3, .long (lZ (↑r1))), (5, .int (iZ (↑i - 1)))] → W p l e R s m args below meth c H locs 0 0 Q (F0 m 18 ls []) := by
      intro fu
      induction fu with
      | zero => intro i d1 r1 v H locs ls hm; exact absurd hm (Nat.not_lt_zero _)
      | succ fu ihL18 =>
        intro i d1 r1 v H locs ls hm hI hu hr1 hi ev fr hZ hS hl
        refine lv_iload hx hb dW_shrink_18 (lv_at hl 3 rfl) ?_
        refine zr_if_lt (tgt := 67) hx hb (by omega) dW_shrink_20 (by decide) (fun c_2 => ?_) (fun c_2 => ?_)
        · have hi0 : i = 0 := by omega
          subst hi0
          rw [wv_0, wP_0, Nat.mul_one, Nat.add_zero, Nat.zero_mul, Nat.add_zero] at hI
          refine lv_aload_n hx hb dW_shrink_67 rfl (lv_at hl 0 rfl) ?_
          refine zcV_v 0 (As := []) (rest := []) rfl ⟨hx, hb, hml, hown, ht⟩ (mW_trim l E B v o k hk d1 n b ev) tw_295 tw_292 tw_293 tw_294 tw_2 qW_trim (by rw [hR]; decide) (zW_recv hK hZ hk) hZ hK hl.1 rfl rfl (Nat.le_of_ble_eq_true rfl) dW_shrink_68 ⟨Nat.zero_le _, Nat.zero_le _⟩ hS (fun  v H locs hp hZ _ hS => ?_)
          obtain ⟨ho, n_3, ev, hn_3le, hn_3z, hn_3nz⟩ := hp
          have fr : ∀ j, j ≠ k → v j = v0 j := fun j h0 => (ho j h0).trans (fr j h0)
          refine lv_lload_n hx hb dW_shrink_71 rfl (lv_at hl 2 rfl) ?_
          exact hend 72 (_) v _ _ _ dW_shrink_72 (⟨fr, wv d1 n, r1, rfl, hr1, hI, by rw [ev]; exact zN_trim (b := b) hn_3le hn_3z hn_3nz⟩) hZ hS
        · refine lv_lload_n hx hb dW_shrink_23 rfl (lv_at hl 2 rfl) ?_
          refine lv_bipush (v := iZ (28)) hx hb dW_shrink_24 (by decide) ?_
          refine zr_lshl (n := 28) (P := 268435456) hx hb (Nat.le_of_ble_eq_true rfl) (p2_28) dW_shrink_26 ?_
          refine lv_aload_n hx hb dW_shrink_27 rfl (lv_at hl 0 rfl) ?_
          refine zw_limbs hx hb ht hown hK hZ hk ev tw_31 dW_shrink_28 ?_
          refine lv_iload hx hb dW_shrink_31 (lv_at hl 3 rfl) ?_
          refine zw_ld hx hb hK hZ hk ev (by omega) (by omega) dW_shrink_33 ?_
          rw [show (↑i - 1 : Int).toNat = i - 1 from by omega]
          refine zc_l (y := lZ (↑(d (i - 1)))) (congrArg lZ (by rw [hu _ (by omega)])) ?_
          have hdi := hd0 (i - 1)
          refine zr_lor (n := 28) (P := 268435456) hx hb p2_28 (by omega) (by omega) (by omega) (by omega) dW_shrink_34 ?_
          obtain ⟨pt, hpt⟩ : ∃ t : Nat, t = r1 * 268435456 + d (i - 1) := ⟨_, rfl⟩
          refine zc_l (y := lZ ↑pt) (congrArg lZ (by omega)) ?_
          have hpl : pt / dv < 268435456 := (Nat.div_lt_iff_lt_mul hdv0).mpr (by rw [hpt]; have h9 : r1 * 268435456 + 268435456 ≤ dv * 268435456 := (by rw [← Nat.succ_mul]; exact Nat.mul_le_mul_right _ hr1); omega)
          refine lv_lstore (lv' := [(6, .long (lZ (↑pt))), (0, .ref (B + k)), (1, .long (lZ (↑dv))), (3, .long (lZ (↑r1))), (5, .int (iZ (↑i - 1)))]) hx hb dW_shrink_35 hl (by decide) rfl (fun ls hl => ?_)
          refine lv_aload_n hx hb dW_shrink_37 rfl (lv_at hl 1 rfl) ?_
          refine zw_limbs hx hb ht hown hK hZ hk ev tw_31 dW_shrink_38 ?_
          refine lv_iload hx hb dW_shrink_41 (lv_at hl 4 rfl) ?_
          refine lv_lload hx hb dW_shrink_43 (lv_at hl 0 rfl) ?_
          refine lv_lload_n hx hb dW_shrink_45 rfl (lv_at hl 2 rfl) ?_
          refine zr_ldiv hx hb (by omega) (by omega) (by omega) (by omega) dW_shrink_46 ?_
          rw [show (↑pt / ↑dv : Int) = ((pt / dv : Nat) : Int) from (Int.natCast_ediv _ _).symm]
          refine zw_st (x := pt / dv) hx hb hK hZ hk ev hS (by omega) (by omega) (hpl) dW_shrink_47 (fun v H locs ev ho hZ hS => ?_)
          rw [show (↑i - 1 : Int).toNat = i - 1 from by omega] at ev
          have fr : ∀ j, j ≠ k → v j = v0 j := fun j h0 => (ho j h0).trans (fr j h0)
          refine lv_lload hx hb dW_shrink_48 (lv_at hl 0 rfl) ?_
          refine lv_aload_n hx hb dW_shrink_50 rfl (lv_at hl 1 rfl) ?_
          refine zw_limbs hx hb ht hown hK hZ hk ev tw_31 dW_shrink_51 ?_
          refine lv_iload hx hb dW_shrink_54 (lv_at hl 4 rfl) ?_
          refine zw_ld hx hb hK hZ hk ev (by omega) (by omega) dW_shrink_56 ?_
          rw [show (↑i - 1 : Int).toNat = i - 1 from by omega]
          refine zc_l (y := lZ (↑(pt / dv))) (congrArg lZ (by rw [va_up_self])) ?_
          refine lv_lload_n hx hb dW_shrink_57 rfl (lv_at hl 2 rfl) ?_
          refine zr_lmul hx hb dW_shrink_58 ?_
          refine zr_lsub hx hb dW_shrink_59 ?_
          refine zc_l (y := lZ (↑(pt % dv))) (congrArg lZ (by have h9 := Nat.div_add_mod pt dv; rw [Nat.mul_comm] at h9; have h8 : ((pt / dv : Nat) : Int) * (dv : Int) = ((pt / dv * dv : Nat) : Int) := (Int.natCast_mul _ _).symm; rw [h8]; omega)) ?_
          refine lv_lstore_n (lv' := [(3, .long (lZ (↑(pt % dv)))), (6, .long (lZ (↑pt))), (0, .ref (B + k)), (1, .long (lZ (↑dv))), (5, .int (iZ (↑i - 1)))]) hx hb dW_shrink_60 rfl hl (by decide) rfl (fun ls hl => ?_)
          refine lv_iinc (v := iZ (↑i - 1 - 1)) (lv' := [(5, .int (iZ (↑i - 1 - 1))), (3, .long (lZ (↑(pt % dv)))), (6, .long (lZ (↑pt))), (0, .ref (B + k)), (1, .long (lZ (↑dv)))]) hx hb dW_shrink_61 hl (k := 4) rfl (iZ_dec _ _) (by decide) rfl (fun ls hl => ?_)
          refine lv_goto (tgt := 18) hx hb dW_shrink_64 (by decide) ?_
          rw [show (↑i - 1 - 1 : Int) = ↑(i - 1) - 1 from by omega] at hl
          exact ihL18 (i - 1) (va_up d1 (i - 1) (pt / dv)) (pt % dv) v _ _ _ (by omega) (shrink_step2 (by omega) hi hu hI (by rw [← hpt, Nat.mul_comm]; exact (Nat.div_add_mod pt dv).symm)) (fun q hq => by rw [va_up_ne _ _ (by omega)]; exact hu q (by omega)) (Nat.mod_lt _ hdv0) (by omega) ev fr hZ hS (lv_sub hl [3, 4, 1, 0] rfl)
    exact L18 _ n d 0 v0 _ _ _ (Nat.lt_succ_self _) (by rw [Nat.zero_mul, Nat.add_zero, Nat.add_comm]) (fun _ _ => rfl) (hdv0) (Nat.le_refl _) ev fr hZ hS (lv_sub hl [2, 3, 1, 0] rfl)
  · exfalso; omega

set_option maxHeartbeats 4000000 in
set_option maxRecDepth 100000 in
theorem mW_becomeLackTo (l : Launch) (E : zE) (B : Nat) (v0 : Nat → zV) (o : Nat → va_E) (k : Nat) (hk : lp k = true) (d : Nat → Nat) (n : Nat) (b : Bool) (ev : v0 k = (d, n, b)) (j : Nat) (hj : lp j = true) (d2 : Nat → Nat) (n2 : Nat) (b2 : Bool) (ev2 : v0 j = (d2, n2, b2)) (hjk : j ≠ k) (hle : wv d n ≤ wv d2 n2) :
    Met l yW_becomeLackTo (zws yW_becomeLackTo cW_becomeLackTo 7 none) { frames := 2, cells := 0, slots := 0, locals := 60 } (zPc E (zD E B v0 o) [.ref (B + k), .ref (B + j)]) (va_Qv (fun v : Nat → zV => (∀ j, j ≠ k → v j = v0 j) ∧ zN (v k) ((wv d2 n2 : Int) - wv d n)) (fun v t => zD E B v o t.heap ∧ zK E t) (zA B 80)) 0 0 (zA B 80) := by
  refine zof_v (by decide) (Nat.le_of_ble_eq_true rfl) fun p e R s m args below meth c Q ls hR hx hb hml ht hown hK hZ hl hend => ?_
  have hS : va_S (zA B 80) s.heap s.heap [] := va_S.rf
  have hown : s.vm.findClass "WholeDesk$Whole" = some m.cls := hown
  have hl : lv_has ls 7 [(0, .ref (B + k)), (1, .ref (B + j))] := hl
  have hn : n ≤ 152 := by have := (hZ.2 k hk).2; rw [ev] at this; exact this
  have hd0 : ∀ i, d i < 268435456 := by have := (hZ.2 k hk).1; rw [ev] at this; exact this
  have hn2 : n2 ≤ 152 := by have := (hZ.2 j hj).2; rw [ev2] at this; exact this
  have hd2 : ∀ i, d2 i < 268435456 := by have := (hZ.2 j hj).1; rw [ev2] at this; exact this
  have fr : ∀ j, j ≠ k → v0 j = v0 j := fun j _ => rfl
  refine lv_aload_n hx hb dW_becomeLackTo_0 rfl (lv_at hl 0 rfl) ?_
  refine lv_aload_n hx hb dW_becomeLackTo_1 rfl (lv_at hl 1 rfl) ?_
  refine zw_count hx hb ht hown hK hZ hj ev2 tw_34 dW_becomeLackTo_2 ?_
  refine zcV_v 1 (As := [.int (iZ (↑n2))]) (rest := []) rfl ⟨hx, hb, hml, hown, ht⟩ (mW_stretch l E B v0 o k hk d n b ev (↑n2) (by omega)) tw_304 tw_301 tw_302 tw_303 tw_2 qW_stretch (by rw [hR]; decide) (zW_recv hK hZ hk) hZ hK hl.1 rfl rfl (Nat.le_of_ble_eq_true rfl) dW_becomeLackTo_5 ⟨Nat.zero_le _, Nat.zero_le _⟩ hS (fun  v H locs hp hZ _ hS => ?_)
  obtain ⟨ho, d_2, n_1, ev, hn_1, hd_2lo, hd_2hi⟩ := hp
  have ev2 := (ho j hjk).trans ev2
  have fr : ∀ j, j ≠ k → v j = v0 j := fun j h0 => (ho j h0).trans (fr j h0)
  have hda : ∀ i, d_2 i < 268435456 := by have := (hZ.2 k hk).1; rw [ev] at this; exact this
  refine lv_lconst (v := lZ (0)) hx hb dW_becomeLackTo_8 (by decide) ?_
  refine lv_lstore_n (lv' := [(2, .long (lZ (0))), (0, .ref (B + k)), (1, .ref (B + j))]) hx hb dW_becomeLackTo_9 rfl hl (by decide) rfl (fun ls hl => ?_)
  refine lv_iconst (v := iZ (0)) hx hb dW_becomeLackTo_10 (by decide) ?_
  refine lv_istore (lv' := [(4, .int (iZ (0))), (2, .long (lZ (0))), (0, .ref (B + k)), (1, .ref (B + j))]) hx hb dW_becomeLackTo_11 hl (by decide) rfl (fun ls hl => ?_)
  have L13 : ∀ (fu : Nat) (i : Nat) (d1 : Nat → Nat) (c1 : Int) (v : Nat → zV) (H : Heap) (locs : List Loc) (ls : Array Slot), n_1 - i < fu → ((wv d1 i : Int) + c1 * wP i = wv (wx d2 n2) i - wv d_2 i) → (∀ q, i ≤ q → d1 q = d_2 q) → (-1 ≤ c1 ∧ c1 ≤ 0) → (i ≤ n_1) → v k = (d1, n_1, b) → v j = (d2, n2, b2) → (∀ j, j ≠ k → v j = v0 j) → zD E B v o H → va_S (zA B 80) s.heap H locs → lv_has ls 7 [(0, .ref (B + k)), (1, .ref (B + j)), (2, .long (lZ (c1))), (4, .int (iZ (↑i)))] → W p l e R s m args below meth c H locs 0 0 Q (F0 m 13 ls []) := by
    intro fu
    induction fu with
    | zero => intro i d1 c1 v H locs ls hm; exact absurd hm (Nat.not_lt_zero _)
    | succ fu ihL13 =>
      intro i d1 c1 v H locs ls hm hI hu hc1 hi ev ev2 fr hZ hS hl
      refine lv_iload hx hb dW_becomeLackTo_13 (lv_at hl 3 rfl) ?_
      refine lv_aload_n hx hb dW_becomeLackTo_15 rfl (lv_at hl 0 rfl) ?_
      refine zw_count hx hb ht hown hK hZ hk ev tw_34 dW_becomeLackTo_16 ?_
      refine zr_icmp_ge (tgt := 65) hx hb (by omega) (by omega) dW_becomeLackTo_19 (by decide) (fun c_3 => ?_) (fun c_3 => ?_)
      · have hin : i = n_1 := by omega
        rw [hin] at hI
        have hd1b : ∀ i, d1 i < 268435456 := by have := (hZ.2 k hk).1; rw [ev] at this; exact this
        have hfin := lack_end hd1b hd2 hd_2lo hd_2hi (by omega) (by omega) hle hI
        refine lv_aload_n hx hb dW_becomeLackTo_65 rfl (lv_at hl 0 rfl) ?_
        refine lv_iconst (v := iZ (0)) hx hb dW_becomeLackTo_66 (by decide) ?_
        refine W.eq (g2 := F0 m 67 ls (.int (iZ (bZ false)) :: .ref (B + k) :: [])) rfl ?_
        refine zw_put_below (b1 := false) hx hb ht hown hK hZ hk ev hS tw_39 dW_becomeLackTo_67 (fun v H locs ev ho hZ hS => ?_)
        have ev2 := (ho j hjk).trans ev2
        have fr : ∀ j, j ≠ k → v j = v0 j := fun j h0 => (ho j h0).trans (fr j h0)
        refine lv_aload_n hx hb dW_becomeLackTo_70 rfl (lv_at hl 0 rfl) ?_
        refine zcV_v 0 (As := []) (rest := []) rfl ⟨hx, hb, hml, hown, ht⟩ (mW_trim l E B v o k hk d1 n_1 false ev) tw_295 tw_292 tw_293 tw_294 tw_2 qW_trim (by rw [hR]; decide) (zW_recv hK hZ hk) hZ hK hl.1 rfl rfl (Nat.le_of_ble_eq_true rfl) dW_becomeLackTo_71 ⟨Nat.zero_le _, Nat.zero_le _⟩ hS (fun  v H locs hp hZ _ hS => ?_)
        obtain ⟨ho, n_4, ev, hn_4le, hn_4z, hn_4nz⟩ := hp
        have ev2 := (ho j hjk).trans ev2
        have fr : ∀ j, j ≠ k → v j = v0 j := fun j h0 => (ho j h0).trans (fr j h0)
        exact hend 74 v _ _ _ dW_becomeLackTo_74 (⟨fr, by
          rw [ev]
          have h9 := zN_trim (b := false) hn_4le hn_4z hn_4nz
          rw [if_neg (by decide), hfin] at h9
          exact h9⟩) hZ hS
      · refine lv_aload_n hx hb dW_becomeLackTo_22 rfl (lv_at hl 1 rfl) ?_
        refine lv_iload hx hb dW_becomeLackTo_23 (lv_at hl 3 rfl) ?_
        refine zcV_l 1 (As := [.int (iZ (↑i))]) (rest := []) rfl ⟨hx, hb, hml, hown, ht⟩ (mW_limb l E B v o j hj d2 n2 b2 ev2 (↑i) (by omega)) tw_322 tw_319 tw_320 tw_321 tw_2 qW_limb (by rw [hR]; decide) (zW_recv hK hZ hj) hZ hK hl.1 rfl rfl (Nat.le_of_ble_eq_true rfl) dW_becomeLackTo_25 ⟨Nat.zero_le _, Nat.zero_le _⟩ hS (fun r_5 v1 H locs hp hZ _ hS => ?_)
        obtain ⟨hv1, hr1⟩ := hp
        rw [hv1] at hZ
        subst hr1
        clear hv1 v1
        refine zc_l (y := lZ (↑(wx d2 n2 i))) (congrArg lZ (by rw [wz_nat])) ?_
        refine lv_aload_n hx hb dW_becomeLackTo_28 rfl (lv_at hl 0 rfl) ?_
        refine zw_limbs hx hb ht hown hK hZ hk ev tw_31 dW_becomeLackTo_29 ?_
        refine lv_iload hx hb dW_becomeLackTo_32 (lv_at hl 3 rfl) ?_
        refine zw_ld hx hb hK hZ hk ev (by omega) (by omega) dW_becomeLackTo_34 ?_
        rw [show (↑i : Int).toNat = i from by omega]
        refine zc_l (y := lZ (↑(d_2 i))) (congrArg lZ (by rw [hu _ (Nat.le_refl _)])) ?_
        refine zr_lsub hx hb dW_becomeLackTo_35 ?_
        refine lv_lload_n hx hb dW_becomeLackTo_36 rfl (lv_at hl 2 rfl) ?_
        refine zr_ladd hx hb dW_becomeLackTo_37 ?_
        obtain ⟨zz, hzz⟩ : ∃ t : Int, t = ((↑(wx d2 n2 i)) - (↑(d_2 i))) + c1 := ⟨_, rfl⟩
        have hda1 := hda i
        have hda2 := wx_lt hd2 n2 i
        refine zc_l (y := lZ (zz)) (congrArg lZ hzz.symm) ?_
        refine lv_lstore (lv' := [(5, .long (lZ (zz))), (0, .ref (B + k)), (1, .ref (B + j)), (2, .long (lZ (c1))), (4, .int (iZ (↑i)))]) hx hb dW_becomeLackTo_38 hl (by decide) rfl (fun ls hl => ?_)
        refine lv_aload_n hx hb dW_becomeLackTo_40 rfl (lv_at hl 1 rfl) ?_
        refine zw_limbs hx hb ht hown hK hZ hk ev tw_31 dW_becomeLackTo_41 ?_
        refine lv_iload hx hb dW_becomeLackTo_44 (lv_at hl 4 rfl) ?_
        refine lv_lload hx hb dW_becomeLackTo_46 (lv_at hl 0 rfl) ?_
        refine lv_ldc2 (v := lZ (268435455)) hx hb hown (ht _ tw_291) dW_becomeLackTo_48 ?_
        refine zr_mask (n := 28) (P := 268435456) hx hb (Nat.le_of_ble_eq_true rfl) p2_28 m2_28 dW_becomeLackTo_51 ?_
        rw [show (zz % 268435456 : Int) = (((zz % 268435456).toNat : Nat) : Int) from by omega]
        refine zw_st (x := (zz % 268435456).toNat) hx hb hK hZ hk ev hS (by omega) (by omega) (by omega) dW_becomeLackTo_52 (fun v H locs ev ho hZ hS => ?_)
        rw [show (↑i : Int).toNat = i from by omega] at ev
        have ev2 := (ho j hjk).trans ev2
        have fr : ∀ j, j ≠ k → v j = v0 j := fun j h0 => (ho j h0).trans (fr j h0)
        refine lv_lload hx hb dW_becomeLackTo_53 (lv_at hl 0 rfl) ?_
        refine lv_bipush (v := iZ (28)) hx hb dW_becomeLackTo_55 (by decide) ?_
        refine zr_lshr (n := 28) (P := 268435456) hx hb (by omega) (Nat.le_of_ble_eq_true rfl) (p2_28) dW_becomeLackTo_57 ?_
        refine lv_lstore_n (lv' := [(2, .long (lZ (zz / 268435456))), (5, .long (lZ (zz))), (0, .ref (B + k)), (1, .ref (B + j)), (4, .int (iZ (↑i)))]) hx hb dW_becomeLackTo_58 rfl hl (by decide) rfl (fun ls hl => ?_)
        refine lv_iinc (v := iZ (↑i + 1)) (lv' := [(4, .int (iZ (↑i + 1))), (2, .long (lZ (zz / 268435456))), (5, .long (lZ (zz))), (0, .ref (B + k)), (1, .ref (B + j))]) hx hb dW_becomeLackTo_59 hl (k := 4) rfl (iZ_add _ _) (by decide) rfl (fun ls hl => ?_)
        refine lv_goto (tgt := 13) hx hb dW_becomeLackTo_62 (by decide) ?_
        exact ihL13 (i + 1) (va_up d1 i (zz % 268435456).toNat) (zz / 268435456) v _ _ _ (by omega) (lack_step hI hzz) (fun q hq => by rw [va_up_ne _ _ (by omega)]; exact hu q (by omega)) (by omega) (by omega) ev ev2 fr hZ hS (lv_sub hl [3, 4, 1, 0] rfl)
  exact L13 _ 0 d_2 0 v _ _ _ (Nat.lt_succ_self _) (by simp [wv]) (fun _ _ => rfl) (by omega) (by omega) ev ev2 fr hZ hS (lv_sub hl [2, 3, 1, 0] rfl)

set_option maxHeartbeats 4000000 in
set_option maxRecDepth 100000 in
theorem mW_becomeProduct (l : Launch) (E : zE) (B : Nat) (v0 : Nat → zV) (o : Nat → va_E) (k : Nat) (hk : lp k = true) (d : Nat → Nat) (n : Nat) (b : Bool) (ev : v0 k = (d, n, b)) (j : Nat) (hj : lp j = true) (d2 : Nat → Nat) (n2 : Nat) (b2 : Bool) (ev2 : v0 j = (d2, n2, b2)) (t : Nat) (htt : lp t = true) (d3 : Nat → Nat) (n3 : Nat) (b3 : Bool) (ev3 : v0 t = (d3, n3, b3)) (hjk : j ≠ k) (htk : t ≠ k) (hnn : n2 + n3 ≤ 152) :
    Met l yW_becomeProduct (zws yW_becomeProduct cW_becomeProduct 13 none) { frames := 1, cells := 0, slots := 0, locals := 32 } (zPc E (zD E B v0 o) [.ref (B + k), .ref (B + j), .ref (B + t)]) (va_Qv (fun v : Nat → zV => (∀ j, j ≠ k → v j = v0 j) ∧ zN (v k) (if (b2 != b3) = true then -((wv d2 n2 * wv d3 n3 : Nat) : Int) else ((wv d2 n2 * wv d3 n3 : Nat) : Int))) (fun v t => zD E B v o t.heap ∧ zK E t) (zA B 80)) 0 0 (zA B 80) := by
  refine zof_v (by decide) (Nat.le_of_ble_eq_true rfl) fun p e R s m args below meth c Q ls hR hx hb hml ht hown hK hZ hl hend => ?_
  have hS : va_S (zA B 80) s.heap s.heap [] := va_S.rf
  have hown : s.vm.findClass "WholeDesk$Whole" = some m.cls := hown
  have hl : lv_has ls 13 [(0, .ref (B + k)), (1, .ref (B + j)), (2, .ref (B + t))] := hl
  have hn : n ≤ 152 := by have := (hZ.2 k hk).2; rw [ev] at this; exact this
  have hd0 : ∀ i, d i < 268435456 := by have := (hZ.2 k hk).1; rw [ev] at this; exact this
  have hn2 : n2 ≤ 152 := by have := (hZ.2 j hj).2; rw [ev2] at this; exact this
  have hd2 : ∀ i, d2 i < 268435456 := by have := (hZ.2 j hj).1; rw [ev2] at this; exact this
  have hn3 : n3 ≤ 152 := by have := (hZ.2 t htt).2; rw [ev3] at this; exact this
  have hd3 : ∀ i, d3 i < 268435456 := by have := (hZ.2 t htt).1; rw [ev3] at this; exact this
  have fr : ∀ j, j ≠ k → v0 j = v0 j := fun j _ => rfl
  refine lv_aload_n hx hb dW_becomeProduct_0 rfl (lv_at hl 1 rfl) ?_
  refine zw_limbs hx hb ht hown hK hZ hj ev2 tw_31 dW_becomeProduct_1 ?_
  refine lv_astore_n (lv' := [(3, .ref (B + (j + 1))), (0, .ref (B + k)), (1, .ref (B + j)), (2, .ref (B + t))]) hx hb dW_becomeProduct_4 rfl hl (by decide) rfl (fun ls hl => ?_)
  refine lv_aload_n hx hb dW_becomeProduct_5 rfl (lv_at hl 3 rfl) ?_
  refine zw_limbs hx hb ht hown hK hZ htt ev3 tw_31 dW_becomeProduct_6 ?_
  refine lv_astore (lv' := [(4, .ref (B + (t + 1))), (3, .ref (B + (j + 1))), (0, .ref (B + k)), (1, .ref (B + j)), (2, .ref (B + t))]) hx hb dW_becomeProduct_9 hl (by decide) rfl (fun ls hl => ?_)
  refine lv_aload_n hx hb dW_becomeProduct_11 rfl (lv_at hl 3 rfl) ?_
  refine zw_count hx hb ht hown hK hZ hj ev2 tw_34 dW_becomeProduct_12 ?_
  refine lv_aload_n hx hb dW_becomeProduct_15 rfl (lv_at hl 4 rfl) ?_
  refine zw_count hx hb ht hown hK hZ htt ev3 tw_34 dW_becomeProduct_16 ?_
  refine zr_iadd hx hb dW_becomeProduct_19 ?_
  refine lv_sipush (v := iZ (152)) hx hb dW_becomeProduct_20 (by decide) ?_
  refine zr_min hx hb (by rw [hml]; exact hl.1.symm) ht hown tw_305 (by rw [hR]; decide) (by rw [hR]; exact Nat.le_of_ble_eq_true rfl) (Nat.zero_le _) (Nat.zero_le _) (by omega) (by omega) dW_becomeProduct_23 ?_
  refine lv_istore (lv' := [(5, .int (iZ (min (↑n2 + ↑n3 : Int) (152 : Int)))), (4, .ref (B + (t + 1))), (3, .ref (B + (j + 1))), (0, .ref (B + k)), (1, .ref (B + j)), (2, .ref (B + t))]) hx hb dW_becomeProduct_26 hl (by decide) rfl (fun ls hl => ?_)
  refine lv_lconst (v := lZ (0)) hx hb dW_becomeProduct_28 (by decide) ?_
  refine lv_lstore (lv' := [(6, .long (lZ (0))), (5, .int (iZ (min (↑n2 + ↑n3 : Int) (152 : Int)))), (4, .ref (B + (t + 1))), (3, .ref (B + (j + 1))), (0, .ref (B + k)), (1, .ref (B + j)), (2, .ref (B + t))]) hx hb dW_becomeProduct_29 hl (by decide) rfl (fun ls hl => ?_)
  refine lv_iconst (v := iZ (0)) hx hb dW_becomeProduct_31 (by decide) ?_
  refine lv_istore (lv' := [(8, .int (iZ (0))), (6, .long (lZ (0))), (5, .int (iZ (min (↑n2 + ↑n3 : Int) (152 : Int)))), (4, .ref (B + (t + 1))), (3, .ref (B + (j + 1))), (0, .ref (B + k)), (1, .ref (B + j)), (2, .ref (B + t))]) hx hb dW_becomeProduct_32 hl (by decide) rfl (fun ls hl => ?_)
  have L34 : ∀ (fu : Nat) (q : Nat) (d1 : Nat → Nat) (c1 : Nat) (v : Nat → zV) (H : Heap) (locs : List Loc) (ls : Array Slot), n2 + n3 - q < fu → (wv d1 q + c1 * wP q = wv (cv d2 d3 n3 n2) q) → (c1 ≤ 34359738368) → (q ≤ n2 + n3) → v k = (d1, n, b) → v j = (d2, n2, b2) → v t = (d3, n3, b3) → (∀ j, j ≠ k → v j = v0 j) → zD E B v o H → va_S (zA B 80) s.heap H locs → lv_has ls 13 [(0, .ref (B + k)), (1, .ref (B + j)), (2, .ref (B + t)), (3, .ref (B + (j + 1))), (4, .ref (B + (t + 1))), (5, .int (iZ (min (↑n2 + ↑n3) 152))), (6, .long (lZ (↑c1))), (8, .int (iZ (↑q)))] → W p l e R s m args below meth c H locs 0 0 Q (F0 m 34 ls []) := by
    intro fu
    induction fu with
    | zero => intro q d1 c1 v H locs ls hm; exact absurd hm (Nat.not_lt_zero _)
    | succ fu ihL34 =>
      intro q d1 c1 v H locs ls hm hI hc1 hq ev ev2 ev3 fr hZ hS hl
      refine lv_iload hx hb dW_becomeProduct_34 (lv_at hl 7 rfl) ?_
      refine lv_iload hx hb dW_becomeProduct_36 (lv_at hl 5 rfl) ?_
      refine zr_icmp_ge (tgt := 130) hx hb (by omega) (by omega) dW_becomeProduct_38 (by decide) (fun c_1 => ?_) (fun c_1 => ?_)
      · have hqq : q = n2 + n3 := by omega
        subst hqq
        have hfin := prod_end hd2 hd3 hI
        have J153 : ∀ (bb : Bool) (v : Nat → zV) (H : Heap) (locs : List Loc) (ls : Array Slot), (bb = (b2 != b3)) → v k = (d1, (n2 + n3), b) → v j = (d2, n2, b2) → v t = (d3, n3, b3) → (∀ j, j ≠ k → v j = v0 j) → zD E B v o H → va_S (zA B 80) s.heap H locs → lv_has ls 13 [(0, .ref (B + k))] → W p l e R s m args below meth c H locs 0 0 Q (F0 m 153 ls [.int (iZ (bZ bb)), .ref (B + k)]) := by
          intro bb v H locs ls hbb ev ev2 ev3 fr hZ hS hl
          refine zw_put_below (b1 := bb) hx hb ht hown hK hZ hk ev hS tw_39 dW_becomeProduct_153 (fun v H locs ev ho hZ hS => ?_)
          have ev2 := (ho j hjk).trans ev2
          have ev3 := (ho t htk).trans ev3
          have fr : ∀ j, j ≠ k → v j = v0 j := fun j h0 => (ho j h0).trans (fr j h0)
          refine lv_aload_n hx hb dW_becomeProduct_156 rfl (lv_at hl 0 rfl) ?_
          refine zcV_v 0 (As := []) (rest := []) rfl ⟨hx, hb, hml, hown, ht⟩ (mW_trim l E B v o k hk d1 (n2 + n3) bb ev) tw_295 tw_292 tw_293 tw_294 tw_2 qW_trim (by rw [hR]; decide) (zW_recv hK hZ hk) hZ hK hl.1 rfl rfl (Nat.le_of_ble_eq_true rfl) dW_becomeProduct_157 ⟨Nat.zero_le _, Nat.zero_le _⟩ hS (fun  v H locs hp hZ _ hS => ?_)
          obtain ⟨ho, n_2, ev, hn_2le, hn_2z, hn_2nz⟩ := hp
          have ev2 := (ho j hjk).trans ev2
          have ev3 := (ho t htk).trans ev3
          have fr : ∀ j, j ≠ k → v j = v0 j := fun j h0 => (ho j h0).trans (fr j h0)
          exact hend 160 v _ _ _ dW_becomeProduct_160 (⟨fr, by
            rw [ev]
            have h9 := zN_trim (b := bb) hn_2le hn_2z hn_2nz
            rw [hfin, hbb] at h9
            rw [hbb]
            exact h9⟩) hZ hS
        refine lv_aload_n hx hb dW_becomeProduct_130 rfl (lv_at hl 0 rfl) ?_
        refine lv_iload hx hb dW_becomeProduct_131 (lv_at hl 5 rfl) ?_
        rw [show (min (↑n2 + ↑n3) 152 : Int) = ((n2 + n3 : Nat) : Int) from by omega]
        refine zw_put_count (n1 := n2 + n3) hx hb ht hown hK hZ hk ev hS (by omega) tw_34 dW_becomeProduct_133 (fun v H locs ev ho hZ hS => ?_)
        have ev2 := (ho j hjk).trans ev2
        have ev3 := (ho t htk).trans ev3
        have fr : ∀ j, j ≠ k → v j = v0 j := fun j h0 => (ho j h0).trans (fr j h0)
        refine lv_aload_n hx hb dW_becomeProduct_136 rfl (lv_at hl 0 rfl) ?_
        refine lv_aload_n hx hb dW_becomeProduct_137 rfl (lv_at hl 1 rfl) ?_
        refine zw_below hx hb ht hown hK hZ hj ev2 tw_39 dW_becomeProduct_138 ?_
        refine lv_aload_n hx hb dW_becomeProduct_141 rfl (lv_at hl 2 rfl) ?_
        refine zw_below hx hb ht hown hK hZ htt ev3 tw_39 dW_becomeProduct_142 ?_
        refine zr_icmp_eq (tgt := 152) hx hb (by have := bZ_01 b2; omega) (by have := bZ_01 b3; omega) dW_becomeProduct_145 (by decide) (fun c_3 => ?_) (fun c_3 => ?_)
        · refine lv_iconst (v := iZ (0)) hx hb dW_becomeProduct_152 (by decide) ?_
          exact J153 false v _ _ _ (by have h9 := bZ_eq (a := b2) (b := b3); cases b2 <;> cases b3 <;> first | rfl | (exfalso; simp [bZ] at *)) ev ev2 ev3 fr hZ hS (lv_sub hl [0] rfl)
        · refine lv_iconst (v := iZ (1)) hx hb dW_becomeProduct_148 (by decide) ?_
          refine lv_goto (tgt := 153) hx hb dW_becomeProduct_149 (by decide) ?_
          exact J153 true v _ _ _ (by have h9 := bZ_eq (a := b2) (b := b3); cases b2 <;> cases b3 <;> first | rfl | (exfalso; simp [bZ] at *)) ev ev2 ev3 fr hZ hS (lv_sub hl [0] rfl)
      · refine lv_iload hx hb dW_becomeProduct_41 (lv_at hl 7 rfl) ?_
        refine lv_iconst (v := iZ (1)) hx hb dW_becomeProduct_43 (by decide) ?_
        refine zr_iadd hx hb dW_becomeProduct_44 ?_
        refine lv_aload_n hx hb dW_becomeProduct_45 rfl (lv_at hl 1 rfl) ?_
        refine zw_count hx hb ht hown hK hZ hj ev2 tw_34 dW_becomeProduct_46 ?_
        refine zr_min hx hb (by rw [hml]; exact hl.1.symm) ht hown tw_305 (by rw [hR]; decide) (by rw [hR]; exact Nat.le_of_ble_eq_true rfl) (Nat.zero_le _) (Nat.zero_le _) (by omega) (by omega) dW_becomeProduct_49 ?_
        refine lv_istore (lv' := [(9, .int (iZ (min (↑q + 1 : Int) (↑n2 : Int)))), (0, .ref (B + k)), (1, .ref (B + j)), (2, .ref (B + t)), (3, .ref (B + (j + 1))), (4, .ref (B + (t + 1))), (5, .int (iZ (min (↑n2 + ↑n3) 152))), (6, .long (lZ (↑c1))), (8, .int (iZ (↑q)))]) hx hb dW_becomeProduct_52 hl (by decide) rfl (fun ls hl => ?_)
        refine lv_lload hx hb dW_becomeProduct_54 (lv_at hl 7 rfl) ?_
        refine zc_l (y := lZ (↑(c1 + cv d2 d3 n3 (q + 1 - n3) q))) (congrArg lZ (by rw [cv_lo0, Nat.add_zero])) ?_
        refine lv_lstore (lv' := [(10, .long (lZ (↑(c1 + cv d2 d3 n3 (q + 1 - n3) q)))), (9, .int (iZ (min (↑q + 1 : Int) (↑n2 : Int)))), (0, .ref (B + k)), (1, .ref (B + j)), (2, .ref (B + t)), (3, .ref (B + (j + 1))), (4, .ref (B + (t + 1))), (5, .int (iZ (min (↑n2 + ↑n3) 152))), (6, .long (lZ (↑c1))), (8, .int (iZ (↑q)))]) hx hb dW_becomeProduct_56 hl (by decide) rfl (fun ls hl => ?_)
        refine lv_iconst (v := iZ (0)) hx hb dW_becomeProduct_58 (by decide) ?_
        refine lv_iload hx hb dW_becomeProduct_59 (lv_at hl 9 rfl) ?_
        refine lv_aload_n hx hb dW_becomeProduct_61 rfl (lv_at hl 4 rfl) ?_
        refine zw_count hx hb ht hown hK hZ htt ev3 tw_34 dW_becomeProduct_62 ?_
        refine zr_isub hx hb dW_becomeProduct_65 ?_
        refine lv_iconst (v := iZ (1)) hx hb dW_becomeProduct_66 (by decide) ?_
        refine zr_iadd hx hb dW_becomeProduct_67 ?_
        refine zr_max hx hb (by rw [hml]; exact hl.1.symm) ht hown tw_308 (by rw [hR]; decide) (by rw [hR]; exact Nat.le_of_ble_eq_true rfl) (Nat.zero_le _) (Nat.zero_le _) (by omega) (by omega) dW_becomeProduct_68 ?_
        refine zc_i (y := iZ (↑(q + 1 - n3))) (congrArg iZ (by omega)) ?_
        refine lv_istore (lv' := [(12, .int (iZ (↑(q + 1 - n3)))), (10, .long (lZ (↑(c1 + cv d2 d3 n3 (q + 1 - n3) q)))), (9, .int (iZ (min (↑q + 1 : Int) (↑n2 : Int)))), (0, .ref (B + k)), (1, .ref (B + j)), (2, .ref (B + t)), (3, .ref (B + (j + 1))), (4, .ref (B + (t + 1))), (5, .int (iZ (min (↑n2 + ↑n3) 152))), (6, .long (lZ (↑c1))), (8, .int (iZ (↑q)))]) hx hb dW_becomeProduct_71 hl (by decide) rfl (fun ls hl => ?_)
        have L73 : ∀ (fu : Nat) (i : Nat) (v : Nat → zV) (H : Heap) (locs : List Loc) (ls : Array Slot), n2 - i < fu → (q + 1 ≤ i + n3 ∧ i ≤ n2) → v k = (d1, n, b) → v j = (d2, n2, b2) → v t = (d3, n3, b3) → (∀ j, j ≠ k → v j = v0 j) → zD E B v o H → va_S (zA B 80) s.heap H locs → lv_has ls 13 [(0, .ref (B + k)), (1, .ref (B + j)), (2, .ref (B + t)), (3, .ref (B + (j + 1))), (4, .ref (B + (t + 1))), (5, .int (iZ (min (↑n2 + ↑n3) 152))), (8, .int (iZ (↑q))), (9, .int (iZ (min (↑q + 1) ↑n2))), (10, .long (lZ (↑(c1 + cv d2 d3 n3 i q)))), (12, .int (iZ (↑i)))] → W p l e R s m args below meth c H locs 0 0 Q (F0 m 73 ls []) := by
          intro fu
          induction fu with
          | zero => intro i v H locs ls hm; exact absurd hm (Nat.not_lt_zero _)
          | succ fu ihL73 =>
            intro i v H locs ls hm hi ev ev2 ev3 fr hZ hS hl
            refine lv_iload hx hb dW_becomeProduct_73 (lv_at hl 9 rfl) ?_
            refine lv_iload hx hb dW_becomeProduct_75 (lv_at hl 7 rfl) ?_
            refine zr_icmp_ge (tgt := 104) hx hb (by omega) (by omega) dW_becomeProduct_77 (by decide) (fun c_4 => ?_) (fun c_4 => ?_)
            · have hex : cv d2 d3 n3 i q = cv d2 d3 n3 n2 q := cv_exit d2 d3 (by omega) (by omega)
              have hcb := cv_bd2 hd2 hd3 (k := q) hnn
              refine lv_aload_n hx hb dW_becomeProduct_104 rfl (lv_at hl 0 rfl) ?_
              refine zw_limbs hx hb ht hown hK hZ hk ev tw_31 dW_becomeProduct_105 ?_
              refine lv_iload hx hb dW_becomeProduct_108 (lv_at hl 6 rfl) ?_
              refine lv_lload hx hb dW_becomeProduct_110 (lv_at hl 8 rfl) ?_
              refine zc_l (y := lZ (↑(c1 + cv d2 d3 n3 n2 q))) (congrArg lZ (by rw [hex])) ?_
              refine lv_ldc2 (v := lZ (268435455)) hx hb hown (ht _ tw_291) dW_becomeProduct_112 ?_
              refine zr_mask (n := 28) (P := 268435456) hx hb (Nat.le_of_ble_eq_true rfl) p2_28 m2_28 dW_becomeProduct_115 ?_
              rw [show ((↑(c1 + cv d2 d3 n3 n2 q)) % 268435456 : Int) = (((c1 + cv d2 d3 n3 n2 q) % 268435456 : Nat) : Int) from (Int.natCast_emod _ _).symm]
              refine zw_st (x := (c1 + cv d2 d3 n3 n2 q) % 268435456) hx hb hK hZ hk ev hS (by omega) (by omega) (Nat.mod_lt _ (by decide)) dW_becomeProduct_116 (fun v H locs ev ho hZ hS => ?_)
              rw [show (↑q : Int).toNat = q from by omega] at ev
              have ev2 := (ho j hjk).trans ev2
              have ev3 := (ho t htk).trans ev3
              have fr : ∀ j, j ≠ k → v j = v0 j := fun j h0 => (ho j h0).trans (fr j h0)
              refine lv_lload hx hb dW_becomeProduct_117 (lv_at hl 8 rfl) ?_
              refine zc_l (y := lZ (↑(c1 + cv d2 d3 n3 n2 q))) (congrArg lZ (by rw [hex])) ?_
              refine lv_bipush (v := iZ (28)) hx hb dW_becomeProduct_119 (by decide) ?_
              refine zr_lushr (n := 28) (P := 268435456) hx hb (by omega) (by omega) (Nat.le_of_ble_eq_true rfl) (p2_28) dW_becomeProduct_121 ?_
              refine zc_l (y := lZ (↑((c1 + cv d2 d3 n3 n2 q) / 268435456))) (congrArg lZ (Int.natCast_ediv _ _).symm) ?_
              refine lv_lstore (lv' := [(6, .long (lZ (↑((c1 + cv d2 d3 n3 n2 q) / 268435456)))), (0, .ref (B + k)), (1, .ref (B + j)), (2, .ref (B + t)), (3, .ref (B + (j + 1))), (4, .ref (B + (t + 1))), (5, .int (iZ (min (↑n2 + ↑n3) 152))), (8, .int (iZ (↑q))), (9, .int (iZ (min (↑q + 1) ↑n2))), (10, .long (lZ (↑(c1 + cv d2 d3 n3 i q)))), (12, .int (iZ (↑i)))]) hx hb dW_becomeProduct_122 hl (by decide) rfl (fun ls hl => ?_)
              refine lv_iinc (v := iZ (↑q + 1)) (lv' := [(8, .int (iZ (↑q + 1))), (6, .long (lZ (↑((c1 + cv d2 d3 n3 n2 q) / 268435456)))), (0, .ref (B + k)), (1, .ref (B + j)), (2, .ref (B + t)), (3, .ref (B + (j + 1))), (4, .ref (B + (t + 1))), (5, .int (iZ (min (↑n2 + ↑n3) 152))), (9, .int (iZ (min (↑q + 1) ↑n2))), (10, .long (lZ (↑(c1 + cv d2 d3 n3 i q)))), (12, .int (iZ (↑i)))]) hx hb dW_becomeProduct_124 hl (k := 7) rfl (iZ_add _ _) (by decide) rfl (fun ls hl => ?_)
              refine lv_goto (tgt := 34) hx hb dW_becomeProduct_127 (by decide) ?_
              exact ihL34 (q + 1) (va_up d1 q ((c1 + cv d2 d3 n3 n2 q) % 268435456)) ((c1 + cv d2 d3 n3 n2 q) / 268435456) v _ _ _ (by omega) (col_step hI) (by omega) (by omega) ev ev2 ev3 fr hZ hS (lv_sub hl [2, 3, 4, 5, 6, 7, 1, 0] rfl)
            · refine lv_lload hx hb dW_becomeProduct_80 (lv_at hl 8 rfl) ?_
              refine lv_aload_n hx hb dW_becomeProduct_82 rfl (lv_at hl 3 rfl) ?_
              refine lv_iload hx hb dW_becomeProduct_83 (lv_at hl 9 rfl) ?_
              refine zw_ld hx hb hK hZ hj ev2 (by omega) (by omega) dW_becomeProduct_85 ?_
              rw [show (↑i : Int).toNat = i from by omega]
              refine lv_aload hx hb dW_becomeProduct_86 (lv_at hl 4 rfl) ?_
              refine lv_iload hx hb dW_becomeProduct_88 (lv_at hl 6 rfl) ?_
              refine lv_iload hx hb dW_becomeProduct_90 (lv_at hl 9 rfl) ?_
              refine zr_isub hx hb dW_becomeProduct_92 ?_
              refine zw_ld hx hb hK hZ htt ev3 (by omega) (by omega) dW_becomeProduct_93 ?_
              rw [show (↑q - ↑i : Int).toNat = q - i from by omega]
              refine zr_lmul hx hb dW_becomeProduct_94 ?_
              refine zr_ladd hx hb dW_becomeProduct_95 ?_
              have hcs : cv d2 d3 n3 (i + 1) q = cv d2 d3 n3 i q + d2 i * d3 (q - i) := by rw [cv_s, if_pos ⟨by omega, by omega⟩]
              refine zc_l (y := lZ (↑(c1 + cv d2 d3 n3 (i + 1) q))) (congrArg lZ (by rw [hcs, ← Nat.add_assoc, Int.natCast_add (c1 + _), Int.natCast_mul])) ?_
              refine lv_lstore (lv' := [(10, .long (lZ (↑(c1 + cv d2 d3 n3 (i + 1) q)))), (0, .ref (B + k)), (1, .ref (B + j)), (2, .ref (B + t)), (3, .ref (B + (j + 1))), (4, .ref (B + (t + 1))), (5, .int (iZ (min (↑n2 + ↑n3) 152))), (8, .int (iZ (↑q))), (9, .int (iZ (min (↑q + 1) ↑n2))), (12, .int (iZ (↑i)))]) hx hb dW_becomeProduct_96 hl (by decide) rfl (fun ls hl => ?_)
              refine lv_iinc (v := iZ (↑i + 1)) (lv' := [(12, .int (iZ (↑i + 1))), (10, .long (lZ (↑(c1 + cv d2 d3 n3 (i + 1) q)))), (0, .ref (B + k)), (1, .ref (B + j)), (2, .ref (B + t)), (3, .ref (B + (j + 1))), (4, .ref (B + (t + 1))), (5, .int (iZ (min (↑n2 + ↑n3) 152))), (8, .int (iZ (↑q))), (9, .int (iZ (min (↑q + 1) ↑n2)))]) hx hb dW_becomeProduct_98 hl (k := 9) rfl (iZ_add _ _) (by decide) rfl (fun ls hl => ?_)
              refine lv_goto (tgt := 73) hx hb dW_becomeProduct_101 (by decide) ?_
              exact ihL73 (i + 1) v _ _ _ (by omega) (⟨by omega, by omega⟩) ev ev2 ev3 fr hZ hS (lv_sub hl [2, 3, 4, 5, 6, 7, 8, 9, 1, 0] rfl)
        exact L73 _ (q + 1 - n3) v _ _ _ (Nat.lt_succ_self _) (⟨by omega, by omega⟩) ev ev2 ev3 fr hZ hS (lv_sub hl [3, 4, 5, 6, 7, 8, 10, 2, 1, 0] rfl)
  exact L34 _ 0 d 0 v0 _ _ _ (Nat.lt_succ_self _) (rfl) (by omega) (by omega) ev ev2 ev3 fr hZ hS (lv_sub hl [5, 6, 7, 4, 3, 2, 1, 0] rfl)
end
section
/-! the guess of a digit, as the loop makes it -/
theorem g_start {pt hi nx u2 : Nat} (h0 : 0 < hi) (hu : u2 < 268435456) : pt * 268435456 + u2 < (pt / hi + 1) * (hi * 268435456 + nx) := by
  have h1 : pt < (pt / hi + 1) * hi := by
    have := Nat.div_add_mod pt hi
    have := Nat.mod_lt pt h0
    rw [Nat.add_mul, Nat.one_mul, Nat.mul_comm]
    omega
  have h2 : (pt + 1) * 268435456 ≤ (pt / hi + 1) * hi * 268435456 := Nat.mul_le_mul_right _ h1
  have h3 : (pt / hi + 1) * (hi * 268435456 + nx) = (pt / hi + 1) * hi * 268435456 + (pt / hi + 1) * nx := by rw [Nat.mul_add, Nat.mul_assoc]
  omega
theorem g_dec {pt hi nx u2 g lf : Nat} (hp : pt = g * hi + lf) (h : 268435456 ≤ g ∨ lf * 268435456 + u2 < g * nx) : 1 ≤ g ∧ (pt * 268435456 + u2 < (g - 1 + 1) * (hi * 268435456 + nx) ∨ 268435456 ≤ g - 1 + 1) := by
  have hg : 1 ≤ g := by
    rcases h with h | h
    · omega
    · rcases Nat.eq_zero_or_pos g with h0 | h0
      · subst h0; rw [Nat.zero_mul] at h; omega
      · exact h0
  refine ⟨hg, ?_⟩
  rw [show g - 1 + 1 = g by omega]
  rcases h with h | h
  · exact Or.inr h
  · left
    subst hp
    rw [Nat.mul_add, ← Nat.mul_assoc, Nat.add_mul]
    rw [Nat.add_assoc]
    exact Nat.add_lt_add_left h _
theorem g_end {pt hi nx u2 g lf : Nat} (hhi : 134217728 ≤ hi) (hnx : nx < 268435456) (hp : pt = g * hi + lf) (hpt : pt ≤ hi * 268435456 + 268435455) (hlow : pt * 268435456 + u2 < (g + 1) * (hi * 268435456 + nx) ∨ 268435456 ≤ g + 1) (h : 268435456 ≤ lf ∨ (g < 268435456 ∧ g * nx ≤ lf * 268435456 + u2)) : g = gs (hi * 268435456 + nx) (pt * 268435456 + u2) := by
  have hg : g < 268435456 := by
    rcases h with h | h
    · rcases Nat.lt_or_ge g 268435456 with h1 | h1
      · exact h1
      · have : 268435456 * hi ≤ g * hi := Nat.mul_le_mul_right _ h1
        omega
    · exact h.1
  have h3 : g * (hi * 268435456 + nx) = g * hi * 268435456 + g * nx := by rw [Nat.mul_add, Nat.mul_assoc]
  have h4 : g * nx ≤ lf * 268435456 + u2 := by
    rcases h with h | h
    · have : g * nx ≤ 268435455 * 268435455 := Nat.mul_le_mul (by omega) (by omega)
      omega
    · exact h.2
  refine gs_of (by omega) ?_ ?_ hg
  · rw [h3, hp, Nat.add_mul]
    omega
  · rcases hlow with h5 | h5
    · exact Or.inl h5
    · exact Or.inr (by omega)
/-- two neighbouring digits are a quotient's head -/
theorem dig2 (X j : Nat) : X / wP (j + 1) * 268435456 + X / wP j % 268435456 = X / wP j := by
  rw [wP_s, Nat.mul_comm 268435456, ← Nat.div_div_eq_div_mul, Nat.mul_comm]
  exact Nat.div_add_mod _ _
theorem dv_guess {d2 du : Nat → Nat} {n2 m q up : Nat} (hd2 : ∀ i, d2 i < 268435456) (hdu : ∀ i, du i < 268435456) (hn2 : n2 ≠ 0) (ht : d2 (n2 - 1) ≠ 0) (hq : bl (d2 (n2 - 1)) q) (hup : up = 28 - q) (hm : 1 ≤ m) (hR : wv du (m + n2) < wv d2 n2 * wP m) :
    134217728 ≤ lsh d2 n2 up n2 ∧ lsh du (m + n2) up (m + n2) ≤ lsh d2 n2 up n2 ∧
    wv du (m + n2) / (wv d2 n2 * wP (m - 1)) ≤ gs (lsh d2 n2 up n2 * 268435456 + lsh d2 n2 up (n2 - 1)) ((lsh du (m + n2) up (m + n2) * 268435456 + lsh du (m + n2) up (m + n2 - 1)) * 268435456 + lsh du (m + n2) up (m + n2 - 2)) ∧
    gs (lsh d2 n2 up n2 * 268435456 + lsh d2 n2 up (n2 - 1)) ((lsh du (m + n2) up (m + n2) * 268435456 + lsh du (m + n2) up (m + n2 - 1)) * 268435456 + lsh du (m + n2) up (m + n2 - 2)) ≤ wv du (m + n2) / (wv d2 n2 * wP (m - 1)) + 1 := by
  obtain ⟨a, rfl⟩ : ∃ a, n2 = a + 1 := ⟨n2 - 1, by omega⟩
  obtain ⟨c, rfl⟩ : ∃ c, m = c + 1 := ⟨m - 1, by omega⟩
  rw [show a + 1 - 1 = a by omega] at ht hq ⊢
  rw [show c + 1 - 1 = c by omega, show c + 1 + (a + 1) - 1 = c + a + 1 by omega, show c + 1 + (a + 1) - 2 = c + a by omega, show c + 1 + (a + 1) = c + a + 2 by omega] at *
  have hq28 : q ≤ 28 := bl_28 (hd2 a) hq
  have hq0 : q ≠ 0 := fun e => by subst e; have := hq.1; omega
  have hup28 : up ≤ 28 := by omega
  have hbl := bl_top hd2 ht hq
  obtain ⟨V, hV⟩ : ∃ V, V = wv d2 (a + 1) := ⟨_, rfl⟩
  obtain ⟨Rr, hRr⟩ : ∃ Rr, Rr = wv du (c + a + 2) := ⟨_, rfl⟩
  obtain ⟨S, hS⟩ : ∃ S, S = 2 ^ up := ⟨_, rfl⟩
  have hS0 : 0 < S := by rw [hS]; exact Nat.two_pow_pos _
  rw [lsh_eq hd2 _ hup28, lsh_eq hd2 _ hup28, lsh_eq hdu _ hup28, lsh_eq hdu _ hup28, lsh_eq hdu _ hup28, ← hV, ← hRr, ← hS]
  rw [← hV] at hbl hR
  rw [← hRr] at hR
  have v1 : V * S < wP (a + 1) := by
    rw [wP_two, hS]
    have := Nat.mul_lt_mul_of_pos_right hbl.1 (Nat.two_pow_pos up)
    rw [← Nat.pow_add, show 28 * a + q + up = 28 * (a + 1) by omega] at this
    exact this
  have v2 : 2 ^ (28 * (a + 1) - 1) ≤ V * S := by
    rw [hS]
    have := Nat.mul_le_mul_right (2 ^ up) (hbl.2 (by omega))
    rw [← Nat.pow_add, show 28 * a + q - 1 + up = 28 * (a + 1) - 1 by omega] at this
    exact this
  have v3 : V * S * 268435456 / wP (a + 1) < 268435456 := (Nat.div_lt_iff_lt_mul (wP_pos _)).mpr (by rw [Nat.mul_comm]; exact Nat.mul_lt_mul_of_pos_left v1 (by decide))
  have v4 : 134217728 ≤ V * S * 268435456 / wP (a + 1) := (Nat.le_div_iff_mul_le (wP_pos _)).mpr (by
    have h1 : wP (a + 1) = 2 * 2 ^ (28 * (a + 1) - 1) := by rw [wP_two, ← Nat.pow_succ']; congr 1
    rw [h1]
    omega)
  have r1 : Rr * S < V * S * wP (c + 1) := by
    have := Nat.mul_lt_mul_of_pos_right hR hS0
    rw [Nat.mul_right_comm] at this
    exact this
  have r2 : Rr * S * 268435456 / wP (c + a + 2) ≤ V * S * 268435456 / wP (a + 1) := by
    rw [show c + a + 2 = c + 1 + (a + 1) by omega, wP_add, ← Nat.div_div_eq_div_mul]
    refine Nat.div_le_div_right ?_
    refine Nat.le_of_lt ((Nat.div_lt_iff_lt_mul (wP_pos _)).mpr ?_)
    have := Nat.mul_lt_mul_of_pos_right r1 (show 0 < 268435456 by decide)
    rw [Nat.mul_right_comm (V * S)] at this
    exact this
  rw [Nat.mod_eq_of_lt v3, Nat.mod_eq_of_lt (Nat.lt_of_le_of_lt r2 v3), dig2 _ a, show c + a + 2 = c + a + 1 + 1 by omega, dig2 _ (c + a + 1), dig2 _ (c + a)]
  refine ⟨v4, r2, ?_⟩
  have hVV : 268435456 ≤ V * S * 268435456 / wP a := by
    have := dig2 (V * S * 268435456) a
    omega
  have key := gs_true (v := V * S) (r := Rr * S) (VV := V * S * 268435456 / wP a) (UU := Rr * S * 268435456 / wP (c + a)) (lv := V * S * 268435456 % wP a) (lr := Rr * S * 268435456 % wP (c + a)) (P := wP a) (Q := wP c) (wP_pos _) (wP_pos _)
    (by rw [Nat.mul_comm (_ / _)]; exact (Nat.div_add_mod _ _).symm) (Nat.mod_lt _ (wP_pos _))
    (by rw [← wP_add, Nat.add_comm a c, Nat.mul_comm (_ / _)]; exact (Nat.div_add_mod _ _).symm) (by rw [← wP_add, Nat.add_comm a c]; exact Nat.mod_lt _ (wP_pos _)) hVV
    (by rw [Nat.mul_comm (wP c), ← wP_s]; exact r1)
  rw [Nat.mul_right_comm V, Nat.mul_div_mul_right _ _ hS0] at key
  exact key
/-- behind the digit: the rest is less than the divisor at this place -/
theorem dv_digit {R V Q g : Nat} {A c : Int} {n : Nat} (hVQ : 0 < V * Q) (hg1 : R / (V * Q) ≤ g) (hlt : R < wP n) (hA0 : 0 ≤ A) (hA1 : A < wP n) (hI : A + c * wP n = R - g * Q * V) (hc : 0 ≤ c) : A + g * (V * Q) = R ∧ A < V * Q := by
  have h1 : R < (g + 1) * (V * Q) := (Nat.div_lt_iff_lt_mul hVQ).mp (by omega)
  have hY : ¬ ((R : Int) - g * Q * V < 0) := fun h => by have := (neg_carry hI hA0 hA1).mpr h; omega
  have e : ((g : Int) * Q * V) = ((g * (V * Q) : Nat) : Int) := by simp only [Int.natCast_mul]; grind
  rw [e] at hI hY
  have h2 := no_carry hI hA0 hA1 (by omega) (by omega)
  have h3 : (g + 1) * (V * Q) = g * (V * Q) + V * Q := by rw [Nat.add_mul, Nat.one_mul]
  have h4 : ((g : Int) * ((V : Int) * Q)) = ((g * (V * Q) : Nat) : Int) := by simp only [Int.natCast_mul]
  rw [h4]
  omega
theorem dv_back {R V Q g : Nat} {A c A2 c2 : Int} {n : Nat} (hVQ : 0 < V * Q) (hg2 : g ≤ R / (V * Q) + 1) (hlt : R < wP n) (hVQn : V * Q < wP n) (hA0 : 0 ≤ A) (hA1 : A < wP n) (hI : A + c * wP n = R - g * Q * V) (hc : c < 0) (hB0 : 0 ≤ A2) (hB1 : A2 < wP n) (hI2 : A2 + c2 * wP n = A + 1 * Q * V) : 1 ≤ g ∧ A2 + ((g - 1 : Nat) : Int) * (V * Q) = R ∧ A2 < V * Q := by
  have hY := (neg_carry hI hA0 hA1).mp hc
  have e : ((g : Int) * Q * V) = ((g * (V * Q) : Nat) : Int) := by simp only [Int.natCast_mul]; grind
  have e2 : ((1 : Int) * Q * V) = ((V * Q : Nat) : Int) := by simp only [Int.natCast_mul]; grind
  rw [e] at hI hY
  rw [e2] at hI2
  obtain ⟨qd, hqd⟩ : ∃ qd, qd = R / (V * Q) := ⟨_, rfl⟩
  rw [← hqd] at hg2
  have q1 : qd * (V * Q) ≤ R := by rw [hqd]; exact Nat.div_mul_le_self _ _
  have q2 : R < (qd + 1) * (V * Q) := by rw [hqd]; exact (Nat.div_lt_iff_lt_mul hVQ).mp (Nat.lt_succ_self _)
  have hg : g = qd + 1 := by
    rcases Nat.lt_or_ge qd g with h | h
    · omega
    · have := Nat.mul_le_mul_right (V * Q) h
      omega
  subst hg
  have h3 : (qd + 1) * (V * Q) = qd * (V * Q) + V * Q := by rw [Nat.add_mul, Nat.one_mul]
  rw [h3] at hI q2 hY
  have h4 : ((qd + 1 - 1 : Nat) : Int) * ((V : Int) * Q) = ((qd * (V * Q) : Nat) : Int) := by rw [show qd + 1 - 1 = qd by omega]; simp only [Int.natCast_mul]
  rw [h4]
  have hP := wP_posZ n
  have e3 : (V : Int) * Q = ((V * Q : Nat) : Int) := (Int.natCast_mul _ _).symm
  rw [e3]
  clear hqd h3 h4 e e2 hg2 e3
  generalize V * Q = X at *
  generalize qd * X = Z at *
  generalize wP n = Pn at *
  have hc1 : c = -1 := by
    rcases Int.lt_or_le c (-1) with h | h
    · have : c * (Pn : Int) ≤ -2 * Pn := Int.mul_le_mul_of_nonneg_right (by omega) (by omega)
      omega
    · omega
  subst hc1
  have hc2 : c2 = 1 := by
    rcases Int.lt_trichotomy c2 1 with h | h | h
    · have : c2 * (Pn : Int) ≤ 0 * Pn := Int.mul_le_mul_of_nonneg_right (by omega) (by omega)
      omega
    · exact h
    · have : 2 * (Pn : Int) ≤ c2 * Pn := Int.mul_le_mul_of_nonneg_right (by omega) (by omega)
      omega
  subst hc2
  omega
end
section
set_option maxHeartbeats 4000000 in
set_option maxRecDepth 100000 in
theorem mW_guess (l : Launch) (E : zE) (B : Nat) (v0 : Nat → zV) (o : Nat → va_E) (k : Nat) (hk : lp k = true) (d : Nat → Nat) (n : Nat) (b : Bool) (ev : v0 k = (d, n, b)) (tp : Nat) (htp : 1 ≤ tp ∧ tp ≤ 400) (up : Nat) (hup : up ≤ 28) (hi nx : Nat) (hhi : 134217728 ≤ hi ∧ hi < 268435456) (hnx : nx < 268435456) (hu0 : lsh d n up (tp + 1) ≤ hi) :
    Met l yW_guess (zws yW_guess cW_guess 16 (some .long)) { frames := 1, cells := 0, slots := 0, locals := 40 } (zPc E (zD E B v0 o) [.ref (B + k), .int (iZ (↑tp)), .int (iZ (↑up)), .long (lZ (↑hi)), .long (lZ (↑nx))]) (va_Ql (fun (r : Int64) (v : Nat → zV) => v = v0 ∧ r = lZ (gs (hi * 268435456 + nx) ((lsh d n up (tp + 1) * 268435456 + lsh d n up tp) * 268435456 + lsh d n up (tp - 1)))) (fun v t => zD E B v o t.heap ∧ zK E t) (zA B 80)) 0 0 (zA B 80) := by
  refine zof_l (by decide) (Nat.le_of_ble_eq_true rfl) fun p e R s m args below meth c Q ls hR hx hb hml ht hown hK hZ hl hend => ?_
  have hS : va_S (zA B 80) s.heap s.heap [] := va_S.rf
  have hown : s.vm.findClass "WholeDesk$Whole" = some m.cls := hown
  have hl : lv_has ls 16 [(0, .ref (B + k)), (1, .int (iZ (↑tp))), (2, .int (iZ (↑up))), (3, .long (lZ (↑hi))), (5, .long (lZ (↑nx)))] := hl
  have hn : n ≤ 152 := by have := (hZ.2 k hk).2; rw [ev] at this; exact this
  have hd0 : ∀ i, d i < 268435456 := by have := (hZ.2 k hk).1; rw [ev] at this; exact this
  refine lv_lload_n hx hb dW_guess_0 rfl (lv_at hl 3 rfl) ?_
  refine lv_lconst (v := lZ (0)) hx hb dW_guess_1 (by decide) ?_
  refine zr_lcmp_gt (tgt := 8) hx hb (by omega) (by omega) dW_guess_2 dW_guess_3 (by decide) (fun c_1 => ?_) (fun c_1 => ?_)
  · obtain ⟨u0, hu0e⟩ : ∃ t, t = lsh d n up (tp + 1) := ⟨_, rfl⟩
    obtain ⟨u1, hu1e⟩ : ∃ t, t = lsh d n up tp := ⟨_, rfl⟩
    obtain ⟨u2, hu2e⟩ : ∃ t, t = lsh d n up (tp - 1) := ⟨_, rfl⟩
    have hu1 : u1 < 268435456 := by rw [hu1e]; exact lsh_lt d n up _
    have hu2 : u2 < 268435456 := by rw [hu2e]; exact lsh_lt d n up _
    rw [← hu0e] at hu0
    refine lv_aload_n hx hb dW_guess_8 rfl (lv_at hl 0 rfl) ?_
    refine lv_iload_n hx hb dW_guess_9 rfl (lv_at hl 1 rfl) ?_
    refine lv_iload_n hx hb dW_guess_10 rfl (lv_at hl 2 rfl) ?_
    refine zcV_l 2 (As := [.int (iZ (↑tp)), .int (iZ (↑up))]) (rest := []) rfl ⟨hx, hb, hml, hown, ht⟩ (mW_limbShifted l E B v0 o k hk d n b ev (↑tp) (⟨by omega, by omega⟩) up (by omega)) tw_419 tw_416 tw_417 tw_418 tw_2 qW_limbShifted (by rw [hR]; decide) (zW_recv hK hZ hk) hZ hK hl.1 rfl rfl (Nat.le_of_ble_eq_true rfl) dW_guess_11 ⟨Nat.zero_le _, Nat.zero_le _⟩ hS (fun r_2 v1 H locs hp hZ _ hS => ?_)
    obtain ⟨hv1, hr1⟩ := hp
    rw [hv1] at hZ
    subst hr1
    clear hv1 v1
    refine zc_l (y := lZ (↑u0)) (congrArg lZ (by rw [hu0e]; rfl)) ?_
    refine lv_bipush (v := iZ (28)) hx hb dW_guess_14 (by decide) ?_
    refine zr_lshl (n := 28) (P := 268435456) hx hb (Nat.le_of_ble_eq_true rfl) (p2_28) dW_guess_16 ?_
    refine lv_aload_n hx hb dW_guess_17 rfl (lv_at hl 0 rfl) ?_
    refine lv_iload_n hx hb dW_guess_18 rfl (lv_at hl 1 rfl) ?_
    refine lv_iconst (v := iZ (1)) hx hb dW_guess_19 (by decide) ?_
    refine zr_isub hx hb dW_guess_20 ?_
    refine lv_iload_n hx hb dW_guess_21 rfl (lv_at hl 2 rfl) ?_
    refine zcV_l 2 (As := [.int (iZ (↑tp - 1)), .int (iZ (↑up))]) (rest := [.long (lZ (↑u0 * 268435456))]) rfl ⟨hx, hb, hml, hown, ht⟩ (mW_limbShifted l E B v0 o k hk d n b ev (↑tp - 1) (⟨by omega, by omega⟩) up (by omega)) tw_419 tw_416 tw_417 tw_418 tw_2 qW_limbShifted (by rw [hR]; decide) (zW_recv hK hZ hk) hZ hK hl.1 rfl rfl (Nat.le_of_ble_eq_true rfl) dW_guess_22 ⟨Nat.zero_le _, Nat.zero_le _⟩ hS (fun r_3 v1 H locs hp hZ _ hS => ?_)
    obtain ⟨hv1, hr1⟩ := hp
    rw [hv1] at hZ
    subst hr1
    clear hv1 v1
    refine zc_l (y := lZ (↑u1)) (congrArg lZ (by rw [hu1e, show ((tp : Int) - 1 + 1).toNat = tp by omega])) ?_
    refine zr_lor (n := 28) (P := 268435456) hx hb p2_28 (by omega) (by omega) (by omega) (by omega) dW_guess_25 ?_
    obtain ⟨pt, hpt⟩ : ∃ t : Nat, t = u0 * 268435456 + u1 := ⟨_, rfl⟩
    refine zc_l (y := lZ ↑pt) (congrArg lZ (by omega)) ?_
    have hptb : pt ≤ hi * 268435456 + 268435455 := by omega
    refine lv_lstore (lv' := [(7, .long (lZ (↑pt))), (0, .ref (B + k)), (1, .int (iZ (↑tp))), (2, .int (iZ (↑up))), (3, .long (lZ (↑hi))), (5, .long (lZ (↑nx)))]) hx hb dW_guess_26 hl (by decide) rfl (fun ls hl => ?_)
    refine lv_aload_n hx hb dW_guess_28 rfl (lv_at hl 1 rfl) ?_
    refine lv_iload_n hx hb dW_guess_29 rfl (lv_at hl 2 rfl) ?_
    refine lv_iconst (v := iZ (2)) hx hb dW_guess_30 (by decide) ?_
    refine zr_isub hx hb dW_guess_31 ?_
    refine lv_iload_n hx hb dW_guess_32 rfl (lv_at hl 3 rfl) ?_
    refine zcV_l 2 (As := [.int (iZ (↑tp - 2)), .int (iZ (↑up))]) (rest := []) rfl ⟨hx, hb, hml, hown, ht⟩ (mW_limbShifted l E B v0 o k hk d n b ev (↑tp - 2) (⟨by omega, by omega⟩) up (by omega)) tw_419 tw_416 tw_417 tw_418 tw_2 qW_limbShifted (by rw [hR]; decide) (zW_recv hK hZ hk) hZ hK hl.1 rfl rfl (Nat.le_of_ble_eq_true rfl) dW_guess_33 ⟨Nat.zero_le _, Nat.zero_le _⟩ hS (fun r_4 v1 H locs hp hZ _ hS => ?_)
    obtain ⟨hv1, hr1⟩ := hp
    rw [hv1] at hZ
    subst hr1
    clear hv1 v1
    refine zc_l (y := lZ (↑u2)) (congrArg lZ (by rw [hu2e, show ((tp : Int) - 2 + 1).toNat = tp - 1 by omega])) ?_
    refine lv_lstore (lv' := [(9, .long (lZ (↑u2))), (7, .long (lZ (↑pt))), (0, .ref (B + k)), (1, .int (iZ (↑tp))), (2, .int (iZ (↑up))), (3, .long (lZ (↑hi))), (5, .long (lZ (↑nx)))]) hx hb dW_guess_36 hl (by decide) rfl (fun ls hl => ?_)
    refine lv_lload hx hb dW_guess_38 (lv_at hl 1 rfl) ?_
    refine lv_lload_n hx hb dW_guess_40 rfl (lv_at hl 5 rfl) ?_
    refine zr_ldiv hx hb (by omega) (by omega) (by omega) (by omega) dW_guess_41 ?_
    refine zc_l (y := lZ (↑(pt / hi))) (congrArg lZ (Int.natCast_ediv _ _).symm) ?_
    refine lv_lstore (lv' := [(11, .long (lZ (↑(pt / hi)))), (9, .long (lZ (↑u2))), (7, .long (lZ (↑pt))), (0, .ref (B + k)), (1, .int (iZ (↑tp))), (2, .int (iZ (↑up))), (3, .long (lZ (↑hi))), (5, .long (lZ (↑nx)))]) hx hb dW_guess_42 hl (by decide) rfl (fun ls hl => ?_)
    refine lv_lload hx hb dW_guess_44 (lv_at hl 2 rfl) ?_
    refine lv_lload hx hb dW_guess_46 (lv_at hl 0 rfl) ?_
    refine lv_lload_n hx hb dW_guess_48 rfl (lv_at hl 6 rfl) ?_
    refine zr_lmul hx hb dW_guess_49 ?_
    refine zr_lsub hx hb dW_guess_50 ?_
    refine zc_l (y := lZ (↑(pt % hi))) (congrArg lZ (by have h9 := Nat.div_add_mod pt hi; rw [Nat.mul_comm] at h9; have h8 : ((pt / hi : Nat) : Int) * (hi : Int) = ((pt / hi * hi : Nat) : Int) := (Int.natCast_mul _ _).symm; rw [h8]; omega)) ?_
    refine lv_lstore (lv' := [(13, .long (lZ (↑(pt % hi)))), (11, .long (lZ (↑(pt / hi)))), (9, .long (lZ (↑u2))), (7, .long (lZ (↑pt))), (0, .ref (B + k)), (1, .int (iZ (↑tp))), (2, .int (iZ (↑up))), (3, .long (lZ (↑hi))), (5, .long (lZ (↑nx)))]) hx hb dW_guess_51 hl (by decide) rfl (fun ls hl => ?_)
    refine lv_iconst (v := iZ (0)) hx hb dW_guess_53 (by decide) ?_
    refine lv_istore (lv' := [(15, .int (iZ (0))), (13, .long (lZ (↑(pt % hi)))), (11, .long (lZ (↑(pt / hi)))), (9, .long (lZ (↑u2))), (7, .long (lZ (↑pt))), (0, .ref (B + k)), (1, .int (iZ (↑tp))), (2, .int (iZ (↑up))), (3, .long (lZ (↑hi))), (5, .long (lZ (↑nx)))]) hx hb dW_guess_54 hl (by decide) rfl (fun ls hl => ?_)
    have L56 : ∀ (fu : Nat) (i : Nat) (g : Nat) (lf : Nat) (H : Heap) (locs : List Loc) (ls : Array Slot), 2 - i < fu → (pt = g * hi + lf) → (i ≤ 2 ∧ i * hi ≤ lf ∧ lf < (i + 1) * hi) → (pt * 268435456 + u2 < (g + 1) * (hi * 268435456 + nx) ∨ 268435456 ≤ g + 1) → zD E B v0 o H → va_S (zA B 80) s.heap H locs → lv_has ls 16 [(0, .ref (B + k)), (3, .long (lZ (↑hi))), (5, .long (lZ (↑nx))), (9, .long (lZ (↑u2))), (11, .long (lZ (↑g))), (13, .long (lZ (↑lf))), (15, .int (iZ (↑i)))] → W p l e R s m args below meth c H locs 0 0 Q (F0 m 56 ls []) := by
      intro fu
      induction fu with
      | zero => intro i g lf H locs ls hm; exact absurd hm (Nat.not_lt_zero _)
      | succ fu ihL56 =>
        intro i g lf H locs ls hm hp hi2 hlow  hZ hS hl
        have hgp : g ≤ pt := by rw [hp]; have h9 : g * 1 ≤ g * hi := Nat.mul_le_mul_left _ (by omega); omega
        have hl3 : lf < 3 * hi := Nat.lt_of_lt_of_le hi2.2.2 (Nat.mul_le_mul_right _ (by omega))
        have J118 : ∀  (H : Heap) (locs : List Loc) (ls : Array Slot), (g = gs (hi * 268435456 + nx) (pt * 268435456 + u2)) → zD E B v0 o H → va_S (zA B 80) s.heap H locs → lv_has ls 16 [(11, .long (lZ (↑g)))] → W p l e R s m args below meth c H locs 0 0 Q (F0 m 118 ls []) := by
          intro  H locs ls hF  hZ hS hl
          refine lv_lload hx hb dW_guess_118 (lv_at hl 0 rfl) ?_
          exact hend 120 (_) v0 _ _ _ dW_guess_120 (⟨rfl, congrArg lZ (by rw [hF, hpt, hu0e, hu1e, hu2e])⟩) hZ hS
        have J100 : ∀  (H : Heap) (locs : List Loc) (ls : Array Slot), (1 ≤ g ∧ (pt * 268435456 + u2 < (g - 1 + 1) * (hi * 268435456 + nx) ∨ 268435456 ≤ g - 1 + 1)) → (i < 2) → zD E B v0 o H → va_S (zA B 80) s.heap H locs → lv_has ls 16 [(0, .ref (B + k)), (3, .long (lZ (↑hi))), (5, .long (lZ (↑nx))), (9, .long (lZ (↑u2))), (11, .long (lZ (↑g))), (13, .long (lZ (↑lf))), (15, .int (iZ (↑i)))] → W p l e R s m args below meth c H locs 0 0 Q (F0 m 100 ls []) := by
          intro  H locs ls hdec hi1  hZ hS hl
          refine lv_lload hx hb dW_guess_100 (lv_at hl 4 rfl) ?_
          refine lv_lconst (v := lZ (1)) hx hb dW_guess_102 (by decide) ?_
          refine zr_lsub hx hb dW_guess_103 ?_
          refine zc_l (y := lZ (↑(g - 1))) (congrArg lZ (by have := hdec.1; omega)) ?_
          refine lv_lstore (lv' := [(11, .long (lZ (↑(g - 1)))), (0, .ref (B + k)), (3, .long (lZ (↑hi))), (5, .long (lZ (↑nx))), (9, .long (lZ (↑u2))), (13, .long (lZ (↑lf))), (15, .int (iZ (↑i)))]) hx hb dW_guess_104 hl (by decide) rfl (fun ls hl => ?_)
          refine lv_lload hx hb dW_guess_106 (lv_at hl 5 rfl) ?_
          refine lv_lload_n hx hb dW_guess_108 rfl (lv_at hl 2 rfl) ?_
          refine zr_ladd hx hb dW_guess_109 ?_
          refine zc_l (y := lZ (↑(lf + hi))) (congrArg lZ (Int.natCast_add _ _).symm) ?_
          refine lv_lstore (lv' := [(13, .long (lZ (↑(lf + hi)))), (11, .long (lZ (↑(g - 1)))), (0, .ref (B + k)), (3, .long (lZ (↑hi))), (5, .long (lZ (↑nx))), (9, .long (lZ (↑u2))), (15, .int (iZ (↑i)))]) hx hb dW_guess_110 hl (by decide) rfl (fun ls hl => ?_)
          refine lv_iinc (v := iZ (↑i + 1)) (lv' := [(15, .int (iZ (↑i + 1))), (13, .long (lZ (↑(lf + hi)))), (11, .long (lZ (↑(g - 1)))), (0, .ref (B + k)), (3, .long (lZ (↑hi))), (5, .long (lZ (↑nx))), (9, .long (lZ (↑u2)))]) hx hb dW_guess_112 hl (k := 6) rfl (iZ_add _ _) (by decide) rfl (fun ls hl => ?_)
          refine lv_goto (tgt := 56) hx hb dW_guess_115 (by decide) ?_
          exact ihL56 (i + 1) (g - 1) (lf + hi)  _ _ _ (by omega) (by rw [hp, Nat.sub_mul, Nat.one_mul]; have h9 : 1 * hi ≤ g * hi := Nat.mul_le_mul_right _ hdec.1; omega) (⟨by omega, by rw [Nat.add_mul, Nat.one_mul]; omega, by rw [Nat.add_mul (i + 1), Nat.one_mul]; omega⟩) (hdec.2)  hZ hS (lv_sub hl [3, 4, 5, 6, 2, 1, 0] rfl)
        refine lv_iload hx hb dW_guess_56 (lv_at hl 6 rfl) ?_
        refine lv_iconst (v := iZ (2)) hx hb dW_guess_58 (by decide) ?_
        refine zr_icmp_ge (tgt := 118) hx hb (by omega) (by omega) dW_guess_59 (by decide) (fun c_5 => ?_) (fun c_5 => ?_)
        · exact J118   _ _ _ (g_end hhi.1 hnx hp hptb hlow (by first | (left; omega) | (left; have h9 : 2 * hi ≤ lf := Nat.le_trans (Nat.mul_le_mul_right _ (by omega)) hi2.2.1; omega) | (right; exact ⟨by omega, by omega⟩)))  hZ hS (lv_sub hl [4] rfl)
        · refine lv_lload hx hb dW_guess_62 (lv_at hl 5 rfl) ?_
          refine lv_ldc2 (v := lZ (268435455)) hx hb hown (ht _ tw_291) dW_guess_64 ?_
          refine zr_lcmp_gt (tgt := 118) hx hb (by omega) (by omega) dW_guess_67 dW_guess_68 (by decide) (fun c_6 => ?_) (fun c_6 => ?_)
          · exact J118   _ _ _ (g_end hhi.1 hnx hp hptb hlow (by first | (left; omega) | (left; have h9 : 2 * hi ≤ lf := Nat.le_trans (Nat.mul_le_mul_right _ (by omega)) hi2.2.1; omega) | (right; exact ⟨by omega, by omega⟩)))  hZ hS (lv_sub hl [4] rfl)
          · refine lv_lload hx hb dW_guess_71 (lv_at hl 4 rfl) ?_
            refine lv_ldc2 (v := lZ (268435455)) hx hb hown (ht _ tw_291) dW_guess_73 ?_
            refine zr_lcmp_gt (tgt := 100) hx hb (by omega) (by omega) dW_guess_76 dW_guess_77 (by decide) (fun c_7 => ?_) (fun c_7 => ?_)
            · exact J100   _ _ _ (g_dec hp (by first | (left; omega) | (right; omega))) (by omega)  hZ hS (lv_sub hl [0, 1, 2, 3, 4, 5, 6] rfl)
            · have hgn : g * nx ≤ 268435455 * 268435455 := Nat.mul_le_mul (by omega) (by omega)
              refine lv_lload hx hb dW_guess_80 (lv_at hl 4 rfl) ?_
              refine lv_lload hx hb dW_guess_82 (lv_at hl 2 rfl) ?_
              refine zr_lmul hx hb dW_guess_84 ?_
              refine zc_l (y := lZ (↑(g * nx))) (congrArg lZ (Int.natCast_mul _ _).symm) ?_
              refine lv_lload hx hb dW_guess_85 (lv_at hl 5 rfl) ?_
              refine lv_bipush (v := iZ (28)) hx hb dW_guess_87 (by decide) ?_
              refine zr_lshl (n := 28) (P := 268435456) hx hb (Nat.le_of_ble_eq_true rfl) (p2_28) dW_guess_89 ?_
              refine lv_lload hx hb dW_guess_90 (lv_at hl 3 rfl) ?_
              refine zr_lor (n := 28) (P := 268435456) hx hb p2_28 (by omega) (by omega) (by omega) (by omega) dW_guess_92 ?_
              refine zr_lcmp_gt (tgt := 100) hx hb (by omega) (by omega) dW_guess_93 dW_guess_94 (by decide) (fun c_8 => ?_) (fun c_8 => ?_)
              · exact J100   _ _ _ (g_dec hp (by first | (left; omega) | (right; omega))) (by omega)  hZ hS (lv_sub hl [0, 1, 2, 3, 4, 5, 6] rfl)
              · refine lv_goto (tgt := 118) hx hb dW_guess_97 (by decide) ?_
                exact J118   _ _ _ (g_end hhi.1 hnx hp hptb hlow (by first | (left; omega) | (left; have h9 : 2 * hi ≤ lf := Nat.le_trans (Nat.mul_le_mul_right _ (by omega)) hi2.2.1; omega) | (right; exact ⟨by omega, by omega⟩)))  hZ hS (lv_sub hl [4] rfl)
    exact L56 _ 0 (pt / hi) (pt % hi)  _ _ _ (Nat.lt_succ_self _) (by rw [Nat.mul_comm]; exact (Nat.div_add_mod pt hi).symm) (⟨by omega, by omega, by rw [Nat.zero_add, Nat.one_mul]; exact Nat.mod_lt _ (by omega)⟩) (Or.inl (g_start (by omega) hu2))  hZ hS (lv_sub hl [5, 8, 9, 3, 2, 1, 0] rfl)
  · exfalso; omega
end
section
theorem gs_lt (a b : Nat) : gs a b < 268435456 := by
  unfold gs
  split <;> omega
theorem wv_set0 {d : Nat → Nat} {i n g : Nat} (h : i < n) (h0 : d i = 0) : wv (va_up d i g) n = wv d n + g * wP i := by
  obtain ⟨k, rfl⟩ : ∃ k, n = i + 1 + k := ⟨n - i - 1, by omega⟩
  rw [wv_split _ (i + 1) k, wv_split d (i + 1) k, wv_up_s, wv_s, h0]
  have : wv (fun j => va_up d i g (i + 1 + j)) k = wv (fun j => d (i + 1 + j)) k := wv_congr fun j _ => va_up_ne d g (by omega)
  rw [this]
  omega
/-- a number that is less than the weight of its highest limb has 0 there -/
theorem wv_top0 {d : Nat → Nat} {n : Nat} (h : wv d (n + 1) < wP n) : d n = 0 ∧ wv d (n + 1) = wv d n := by
  have h0 : d n = 0 := by
    rcases Nat.eq_zero_or_pos (d n) with h1 | h1
    · exact h1
    · have := wv_ge (d := d) (n := n) (by omega)
      omega
  exact ⟨h0, by rw [wv_s, h0, Nat.zero_mul, Nat.add_zero]⟩
theorem dv_next {d d2 du du1 dq : Nat → Nat} {n n2 nq m g : Nat} (hd2 : ∀ i, d2 i < 268435456) (hm : 1 ≤ m) (hmq : m ≤ nq) (hI : wv d n = wv d2 n2 * wv dq nq + wv du (m + n2)) (hz : ∀ i, i < m → dq i = 0)
    (hJ1 : (wv du1 (m + n2) : Int) + (g : Int) * ((wv d2 n2 : Int) * wP (m - 1)) = wv du (m + n2)) (hJ2 : (wv du1 (m + n2) : Int) < (wv d2 n2 : Int) * wP (m - 1)) :
    wv d n = wv d2 n2 * wv (va_up dq (m - 1) g) nq + wv du1 (m - 1 + n2) ∧ wv du1 (m - 1 + n2) < wv d2 n2 * wP (m - 1) := by
  obtain ⟨a, rfl⟩ : ∃ a, m = a + 1 := ⟨m - 1, by omega⟩
  rw [show a + 1 - 1 = a by omega, show a + 1 + n2 = a + n2 + 1 by omega] at *
  have e1 : (g : Int) * ((wv d2 n2 : Int) * wP a) = ((g * (wv d2 n2 * wP a) : Nat) : Int) := by simp only [Int.natCast_mul]
  have e2 : (wv d2 n2 : Int) * wP a = ((wv d2 n2 * wP a : Nat) : Int) := by simp only [Int.natCast_mul]
  rw [e1] at hJ1
  rw [e2] at hJ2
  have h1 : wv d2 n2 * wP a < wP (a + n2) := by
    rw [Nat.add_comm, wP_add]
    exact Nat.mul_lt_mul_of_pos_right (wv_lt hd2 n2) (wP_pos a)
  have h2 := wv_top0 (d := du1) (n := a + n2) (by omega)
  rw [h2.2] at hJ1 hJ2
  rw [wv_set0 (by omega) (hz a (by omega)), Nat.mul_add, hI]
  have e3 : wv d2 n2 * (g * wP a) = g * (wv d2 n2 * wP a) := Nat.mul_left_comm _ _ _
  rw [e3]
  generalize g * (wv d2 n2 * wP a) = X at *
  generalize wv d2 n2 * wP a = Y at *
  omega
theorem dv_first {d d2 ds : Nat → Nat} {n n2 : Nat} (hd : ∀ i, d i < 268435456) (hn2 : n2 ≠ 0) (hnn : n2 ≤ n) (ht : d2 (n2 - 1) ≠ 0) (hlo : ∀ i, i < n → ds i = d i) (hhi : ds n = 0) : wv ds (n - n2 + 1 + n2) = wv d n ∧ wv d n < wv d2 n2 * wP (n - n2 + 1) := by
  rw [show n - n2 + 1 + n2 = n + 1 by omega, wv_s, hhi, Nat.zero_mul, Nat.add_zero, wv_congr hlo]
  refine ⟨rfl, ?_⟩
  have h1 := wv_lt hd n
  have h2 := wv_ge ht
  rw [show n2 - 1 + 1 = n2 by omega] at h2
  have h3 := Nat.mul_le_mul_right (wP (n - n2 + 1)) h2
  rw [← wP_add, show n2 - 1 + (n - n2 + 1) = n by omega] at h3
  omega
end
section
set_option maxHeartbeats 4000000 in
set_option maxRecDepth 100000 in
theorem mW_divideOut (l : Launch) (E : zE) (B : Nat) (v0 : Nat → zV) (o : Nat → va_E) (k : Nat) (hk : lp k = true) (d : Nat → Nat) (n : Nat) (b : Bool) (ev : v0 k = (d, n, b)) (j : Nat) (hj : lp j = true) (d2 : Nat → Nat) (n2 : Nat) (b2 : Bool) (ev2 : v0 j = (d2, n2, b2)) (t : Nat) (htt : lp t = true) (d3 : Nat → Nat) (n3 : Nat) (b3 : Bool) (ev3 : v0 t = (d3, n3, b3)) (hjk : j ≠ k) (htk : t ≠ k) (htj : t ≠ j) (hz1 : nz d n) (hb1 : b = true → n ≠ 0) (hn1 : n ≤ 151) (hn20 : n2 ≠ 0) (hz2 : nz d2 n2) :
    Met l yW_divideOut (zws yW_divideOut cW_divideOut 12 none) { frames := 3, cells := 0, slots := 0, locals := 104 } (zPc E (zD E B v0 o) [.ref (B + k), .ref (B + j), .ref (B + t)]) (va_Qv (fun v : Nat → zV => (∀ j, j ≠ k → j ≠ t → v j = v0 j) ∧ ∃ q r0 : Nat, wv d n = q * wv d2 n2 + r0 ∧ r0 < wv d2 n2 ∧ zN (v t) q ∧ zN (v k) (if b = true then -(r0 : Int) else (r0 : Int))) (fun v t => zD E B v o t.heap ∧ zK E t) (zA B 80)) 0 0 (zA B 80) := by
  refine zof_v (by decide) (Nat.le_of_ble_eq_true rfl) fun p e R s m args below meth c Q ls hR hx hb hml ht hown hK hZ hl hend => ?_
  have hS : va_S (zA B 80) s.heap s.heap [] := va_S.rf
  have hown : s.vm.findClass "WholeDesk$Whole" = some m.cls := hown
  have hl : lv_has ls 12 [(0, .ref (B + k)), (1, .ref (B + j)), (2, .ref (B + t))] := hl
  have hn : n ≤ 152 := by have := (hZ.2 k hk).2; rw [ev] at this; exact this
  have hd0 : ∀ i, d i < 268435456 := by have := (hZ.2 k hk).1; rw [ev] at this; exact this
  have hn2 : n2 ≤ 152 := by have := (hZ.2 j hj).2; rw [ev2] at this; exact this
  have hd2 : ∀ i, d2 i < 268435456 := by have := (hZ.2 j hj).1; rw [ev2] at this; exact this
  have fr : ∀ j, j ≠ k → j ≠ t → v0 j = v0 j := fun j _ _ => rfl
  refine lv_aload_n hx hb dW_divideOut_0 rfl (lv_at hl 2 rfl) ?_
  refine lv_iconst (v := iZ (0)) hx hb dW_divideOut_1 (by decide) ?_
  rw [show (0 : Int) = ((0 : Nat) : Int) from rfl]
  refine zw_put_count (n1 := 0) hx hb ht hown hK hZ htt ev3 hS (by omega) tw_34 dW_divideOut_2 (fun v H locs ev3 ho hZ hS => ?_)
  have ev := (ho k (Ne.symm htk)).trans ev
  have ev2 := (ho j (Ne.symm htj)).trans ev2
  have fr : ∀ j, j ≠ k → j ≠ t → v j = v0 j := fun j h0 h1 => (ho j h1).trans (fr j h0 h1)
  refine lv_aload_n hx hb dW_divideOut_5 rfl (lv_at hl 2 rfl) ?_
  refine lv_iconst (v := iZ (0)) hx hb dW_divideOut_6 (by decide) ?_
  refine W.eq (g2 := F0 m 7 ls (.int (iZ (bZ false)) :: .ref (B + t) :: [])) rfl ?_
  refine zw_put_below (b1 := false) hx hb ht hown hK hZ htt ev3 hS tw_39 dW_divideOut_7 (fun v H locs ev3 ho hZ hS => ?_)
  have ev := (ho k (Ne.symm htk)).trans ev
  have ev2 := (ho j (Ne.symm htj)).trans ev2
  have fr : ∀ j, j ≠ k → j ≠ t → v j = v0 j := fun j h0 h1 => (ho j h1).trans (fr j h0 h1)
  refine lv_aload_n hx hb dW_divideOut_10 rfl (lv_at hl 0 rfl) ?_
  refine zw_count hx hb ht hown hK hZ hk ev tw_34 dW_divideOut_11 ?_
  refine lv_aload_n hx hb dW_divideOut_14 rfl (lv_at hl 1 rfl) ?_
  refine zw_count hx hb ht hown hK hZ hj ev2 tw_34 dW_divideOut_15 ?_
  refine zr_isub hx hb dW_divideOut_18 ?_
  refine lv_iconst (v := iZ (1)) hx hb dW_divideOut_19 (by decide) ?_
  refine zr_iadd hx hb dW_divideOut_20 ?_
  refine lv_istore_n (lv' := [(3, .int (iZ ((↑n - ↑n2) + 1))), (0, .ref (B + k)), (1, .ref (B + j)), (2, .ref (B + t))]) hx hb dW_divideOut_21 rfl hl (by decide) rfl (fun ls hl => ?_)
  refine lv_aload_n hx hb dW_divideOut_22 rfl (lv_at hl 2 rfl) ?_
  refine zw_count hx hb ht hown hK hZ hj ev2 tw_34 dW_divideOut_23 ?_
  refine zr_if_eq (tgt := 34) hx hb (by omega) dW_divideOut_26 (by decide) (fun c_1 => ?_) (fun c_1 => ?_)
  · exfalso; omega
  · refine lv_iload_n hx hb dW_divideOut_29 rfl (lv_at hl 0 rfl) ?_
    refine lv_iconst (v := iZ (1)) hx hb dW_divideOut_30 (by decide) ?_
    refine zr_icmp_ge (tgt := 35) hx hb (by omega) (by omega) dW_divideOut_31 (by decide) (fun c_2 => ?_) (fun c_2 => ?_)
    · have hnn : n2 ≤ n := by omega
      refine lv_bipush (v := iZ (28)) hx hb dW_divideOut_35 (by decide) ?_
      refine lv_aload_n hx hb dW_divideOut_37 rfl (lv_at hl 2 rfl) ?_
      refine lv_aload_n hx hb dW_divideOut_38 rfl (lv_at hl 2 rfl) ?_
      refine zw_count hx hb ht hown hK hZ hj ev2 tw_34 dW_divideOut_39 ?_
      refine lv_iconst (v := iZ (1)) hx hb dW_divideOut_42 (by decide) ?_
      refine zr_isub hx hb dW_divideOut_43 ?_
      refine zcV_l 1 (As := [.int (iZ (↑n2 - 1))]) (rest := [.int (iZ (28))]) rfl ⟨hx, hb, hml, hown, ht⟩ (mW_limb l E B v o j hj d2 n2 b2 ev2 (↑n2 - 1) (by omega)) tw_322 tw_319 tw_320 tw_321 tw_2 qW_limb (by rw [hR]; decide) (zW_recv hK hZ hj) hZ hK hl.1 rfl rfl (Nat.le_of_ble_eq_true rfl) dW_divideOut_44 ⟨Nat.zero_le _, Nat.zero_le _⟩ hS (fun r_3 v1 H locs hp hZ _ hS => ?_)
      obtain ⟨hv1, hr1⟩ := hp
      rw [hv1] at hZ
      subst hr1
      clear hv1 v1
      refine zcS_i 1 (As := [.long (lZ (↑(wz d2 n2 (↑n2 - 1))))]) (rest := [.int (iZ (28))]) ⟨hx, hb, hml, hown, ht⟩ (mW_digitsOf l E B v o (wz d2 n2 (↑n2 - 1)) (wz_lt hd2 n2 _)) tw_325 tw_323 tw_324 tw_2 qW_digitsOf (by rw [hR]; decide) hZ hK hl.1 rfl rfl (Nat.le_of_ble_eq_true rfl) dW_divideOut_47 ⟨Nat.zero_le _, Nat.zero_le _⟩ hS (fun r_5 v1 H locs hp hZ _ hS => ?_)
      obtain ⟨hv1, q_4, hr1, hq_4⟩ := hp
      rw [hv1] at hZ
      subst hr1
      clear hv1 v1
      refine zr_isub hx hb dW_divideOut_50 ?_
      rw [wz_in (by omega) (by omega), show ((n2 : Int) - 1).toNat = n2 - 1 by omega] at hq_4
      have hq28 := bl_28 (hd2 _) hq_4
      obtain ⟨up, hupe⟩ : ∃ t : Nat, t = 28 - q_4 := ⟨_, rfl⟩
      refine zc_i (y := iZ (↑up)) (congrArg iZ (by omega)) ?_
      refine lv_istore (lv' := [(4, .int (iZ (↑up))), (3, .int (iZ ((↑n - ↑n2) + 1))), (0, .ref (B + k)), (1, .ref (B + j)), (2, .ref (B + t))]) hx hb dW_divideOut_51 hl (by decide) rfl (fun ls hl => ?_)
      refine lv_aload_n hx hb dW_divideOut_53 rfl (lv_at hl 3 rfl) ?_
      refine lv_aload_n hx hb dW_divideOut_54 rfl (lv_at hl 3 rfl) ?_
      refine zw_count hx hb ht hown hK hZ hj ev2 tw_34 dW_divideOut_55 ?_
      refine lv_iconst (v := iZ (1)) hx hb dW_divideOut_58 (by decide) ?_
      refine zr_isub hx hb dW_divideOut_59 ?_
      refine lv_iload hx hb dW_divideOut_60 (lv_at hl 0 rfl) ?_
      refine zcV_l 2 (As := [.int (iZ (↑n2 - 1)), .int (iZ (↑up))]) (rest := []) rfl ⟨hx, hb, hml, hown, ht⟩ (mW_limbShifted l E B v o j hj d2 n2 b2 ev2 (↑n2 - 1) (⟨by omega, by omega⟩) up (by omega)) tw_419 tw_416 tw_417 tw_418 tw_2 qW_limbShifted (by rw [hR]; decide) (zW_recv hK hZ hj) hZ hK hl.1 rfl rfl (Nat.le_of_ble_eq_true rfl) dW_divideOut_62 ⟨Nat.zero_le _, Nat.zero_le _⟩ hS (fun r_6 v1 H locs hp hZ _ hS => ?_)
      obtain ⟨hv1, hr1⟩ := hp
      rw [hv1] at hZ
      subst hr1
      clear hv1 v1
      obtain ⟨hi0, hhi0⟩ : ∃ t, t = lsh d2 n2 up n2 := ⟨_, rfl⟩
      refine zc_l (y := lZ (↑hi0)) (congrArg lZ (by rw [hhi0, show ((n2 : Int) - 1 + 1).toNat = n2 by omega])) ?_
      refine lv_lstore (lv' := [(5, .long (lZ (↑hi0))), (4, .int (iZ (↑up))), (3, .int (iZ ((↑n - ↑n2) + 1))), (0, .ref (B + k)), (1, .ref (B + j)), (2, .ref (B + t))]) hx hb dW_divideOut_65 hl (by decide) rfl (fun ls hl => ?_)
      refine lv_aload_n hx hb dW_divideOut_67 rfl (lv_at hl 4 rfl) ?_
      refine lv_aload_n hx hb dW_divideOut_68 rfl (lv_at hl 4 rfl) ?_
      refine zw_count hx hb ht hown hK hZ hj ev2 tw_34 dW_divideOut_69 ?_
      refine lv_iconst (v := iZ (2)) hx hb dW_divideOut_72 (by decide) ?_
      refine zr_isub hx hb dW_divideOut_73 ?_
      refine lv_iload hx hb dW_divideOut_74 (lv_at hl 1 rfl) ?_
      refine zcV_l 2 (As := [.int (iZ (↑n2 - 2)), .int (iZ (↑up))]) (rest := []) rfl ⟨hx, hb, hml, hown, ht⟩ (mW_limbShifted l E B v o j hj d2 n2 b2 ev2 (↑n2 - 2) (⟨by omega, by omega⟩) up (by omega)) tw_419 tw_416 tw_417 tw_418 tw_2 qW_limbShifted (by rw [hR]; decide) (zW_recv hK hZ hj) hZ hK hl.1 rfl rfl (Nat.le_of_ble_eq_true rfl) dW_divideOut_76 ⟨Nat.zero_le _, Nat.zero_le _⟩ hS (fun r_7 v1 H locs hp hZ _ hS => ?_)
      obtain ⟨hv1, hr1⟩ := hp
      rw [hv1] at hZ
      subst hr1
      clear hv1 v1
      obtain ⟨nx0, hnx0⟩ : ∃ t, t = lsh d2 n2 up (n2 - 1) := ⟨_, rfl⟩
      refine zc_l (y := lZ (↑nx0)) (congrArg lZ (by rw [hnx0, show ((n2 : Int) - 2 + 1).toNat = n2 - 1 by omega])) ?_
      refine lv_lstore (lv' := [(7, .long (lZ (↑nx0))), (5, .long (lZ (↑hi0))), (4, .int (iZ (↑up))), (3, .int (iZ ((↑n - ↑n2) + 1))), (0, .ref (B + k)), (1, .ref (B + j)), (2, .ref (B + t))]) hx hb dW_divideOut_79 hl (by decide) rfl (fun ls hl => ?_)
      refine lv_aload_n hx hb dW_divideOut_81 rfl (lv_at hl 6 rfl) ?_
      refine lv_iload_n hx hb dW_divideOut_82 rfl (lv_at hl 3 rfl) ?_
      refine zcV_v 1 (As := [.int (iZ ((↑n - ↑n2) + 1))]) (rest := []) rfl ⟨hx, hb, hml, hown, ht⟩ (mW_stretch l E B v o t htt d3 (0 : Nat) false ev3 ((↑n - ↑n2) + 1) (by omega)) tw_304 tw_301 tw_302 tw_303 tw_2 qW_stretch (by rw [hR]; decide) (zW_recv hK hZ htt) hZ hK hl.1 rfl rfl (Nat.le_of_ble_eq_true rfl) dW_divideOut_83 ⟨Nat.zero_le _, Nat.zero_le _⟩ hS (fun  v H locs hp hZ _ hS => ?_)
      obtain ⟨ho, d_9, n_8, ev3, hn_8, hd_9lo, hd_9hi⟩ := hp
      have ev := (ho k (Ne.symm htk)).trans ev
      have ev2 := (ho j (Ne.symm htj)).trans ev2
      have fr : ∀ j, j ≠ k → j ≠ t → v j = v0 j := fun j h0 h1 => (ho j h1).trans (fr j h0 h1)
      refine lv_aload_n hx hb dW_divideOut_86 rfl (lv_at hl 4 rfl) ?_
      refine lv_aload_n hx hb dW_divideOut_87 rfl (lv_at hl 4 rfl) ?_
      refine zw_count hx hb ht hown hK hZ hk ev tw_34 dW_divideOut_88 ?_
      refine lv_iconst (v := iZ (1)) hx hb dW_divideOut_91 (by decide) ?_
      refine zr_iadd hx hb dW_divideOut_92 ?_
      refine zcV_v 1 (As := [.int (iZ (↑n + 1))]) (rest := []) rfl ⟨hx, hb, hml, hown, ht⟩ (mW_stretch l E B v o k hk d n b ev (↑n + 1) (by omega)) tw_304 tw_301 tw_302 tw_303 tw_2 qW_stretch (by rw [hR]; decide) (zW_recv hK hZ hk) hZ hK hl.1 rfl rfl (Nat.le_of_ble_eq_true rfl) dW_divideOut_93 ⟨Nat.zero_le _, Nat.zero_le _⟩ hS (fun  v H locs hp hZ _ hS => ?_)
      obtain ⟨ho, d_11, n_10, ev, hn_10, hd_11lo, hd_11hi⟩ := hp
      have ev2 := (ho j hjk).trans ev2
      have ev3 := (ho t htk).trans ev3
      have fr : ∀ j, j ≠ k → j ≠ t → v j = v0 j := fun j h0 h1 => (ho j h0).trans (fr j h0 h1)
      have hnU : n_10 = n - n2 + 1 + n2 := by omega
      rw [hnU] at ev
      have hnQ : n_8 = n - n2 + 1 := by omega
      rw [hnQ] at ev3
      have hfi := dv_first hd0 hn20 hnn (hz2 hn20) hd_11lo (hd_11hi n (Nat.le_refl _) (by omega))
      have hq0 : ∀ i, i < n - n2 + 1 → d_9 i = 0 := fun i hi => hd_9hi i (Nat.zero_le _) (by omega)
      refine lv_aload_n hx hb dW_divideOut_96 rfl (lv_at hl 6 rfl) ?_
      refine zw_count hx hb ht hown hK hZ htt ev3 tw_34 dW_divideOut_97 ?_
      refine lv_iconst (v := iZ (1)) hx hb dW_divideOut_100 (by decide) ?_
      refine zr_isub hx hb dW_divideOut_101 ?_
      refine lv_istore (lv' := [(9, .int (iZ (((n - n2 + 1 : Nat) : Int) - 1))), (7, .long (lZ (↑nx0))), (5, .long (lZ (↑hi0))), (4, .int (iZ (↑up))), (3, .int (iZ ((↑n - ↑n2) + 1))), (0, .ref (B + k)), (1, .ref (B + j)), (2, .ref (B + t))]) hx hb dW_divideOut_102 hl (by decide) rfl (fun ls hl => ?_)
      have L104 : ∀ (fu : Nat) (m0 : Nat) (du : Nat → Nat) (dq : Nat → Nat) (v : Nat → zV) (H : Heap) (locs : List Loc) (ls : Array Slot), m0 < fu → (wv d n = wv d2 n2 * wv dq (n - n2 + 1) + wv du (m0 + n2)) → (wv du (m0 + n2) < wv d2 n2 * wP m0) → (∀ i, i < m0 → dq i = 0) → (m0 ≤ n - n2 + 1) → v k = (du, m0 + n2, b) → v j = (d2, n2, b2) → v t = (dq, n - n2 + 1, false) → (∀ j, j ≠ k → j ≠ t → v j = v0 j) → zD E B v o H → va_S (zA B 80) s.heap H locs → lv_has ls 12 [(0, .ref (B + k)), (1, .ref (B + j)), (2, .ref (B + t)), (4, .int (iZ (↑up))), (5, .long (lZ (↑hi0))), (7, .long (lZ (↑nx0))), (9, .int (iZ (↑m0 - 1)))] → W p l e R s m args below meth c H locs 0 0 Q (F0 m 104 ls []) := by
        intro fu
        induction fu with
        | zero => intro m0 du dq v H locs ls hm; exact absurd hm (Nat.not_lt_zero _)
        | succ fu ihL104 =>
          intro m0 du dq v H locs ls hm hI hlt hz hm ev ev2 ev3 fr hZ hS hl
          refine lv_iload hx hb dW_divideOut_104 (lv_at hl 6 rfl) ?_
          refine zr_if_lt (tgt := 194) hx hb (by omega) dW_divideOut_106 (by decide) (fun c_12 => ?_) (fun c_12 => ?_)
          · have hm0 : m0 = 0 := by omega
            rw [hm0] at ev hI hlt
            refine lv_aload_n hx hb dW_divideOut_194 rfl (lv_at hl 2 rfl) ?_
            refine zcV_v 0 (As := []) (rest := []) rfl ⟨hx, hb, hml, hown, ht⟩ (mW_trim l E B v o t htt dq (n - n2 + 1) false ev3) tw_295 tw_292 tw_293 tw_294 tw_2 qW_trim (by rw [hR]; decide) (zW_recv hK hZ htt) hZ hK hl.1 rfl rfl (Nat.le_of_ble_eq_true rfl) dW_divideOut_195 ⟨Nat.zero_le _, Nat.zero_le _⟩ hS (fun  v H locs hp hZ _ hS => ?_)
            obtain ⟨ho, n_13, ev3, hn_13le, hn_13z, hn_13nz⟩ := hp
            have ev := (ho k (Ne.symm htk)).trans ev
            have ev2 := (ho j (Ne.symm htj)).trans ev2
            have fr : ∀ j, j ≠ k → j ≠ t → v j = v0 j := fun j h0 h1 => (ho j h1).trans (fr j h0 h1)
            refine lv_aload_n hx hb dW_divideOut_198 rfl (lv_at hl 0 rfl) ?_
            refine zcV_v 0 (As := []) (rest := []) rfl ⟨hx, hb, hml, hown, ht⟩ (mW_trim l E B v o k hk du (0 + n2) b ev) tw_295 tw_292 tw_293 tw_294 tw_2 qW_trim (by rw [hR]; decide) (zW_recv hK hZ hk) hZ hK hl.1 rfl rfl (Nat.le_of_ble_eq_true rfl) dW_divideOut_199 ⟨Nat.zero_le _, Nat.zero_le _⟩ hS (fun  v H locs hp hZ _ hS => ?_)
            obtain ⟨ho, n_14, ev, hn_14le, hn_14z, hn_14nz⟩ := hp
            have ev2 := (ho j hjk).trans ev2
            have ev3 := (ho t htk).trans ev3
            have fr : ∀ j, j ≠ k → j ≠ t → v j = v0 j := fun j h0 h1 => (ho j h0).trans (fr j h0 h1)
            exact hend 202 v _ _ _ dW_divideOut_202 (⟨fr, wv dq (n - n2 + 1), wv du (0 + n2), by rw [Nat.mul_comm]; exact hI, by rw [wP_0, Nat.mul_one] at hlt; exact hlt, by rw [ev3]; exact zN_trim (b := false) hn_13le hn_13z hn_13nz, by rw [ev]; exact zN_trim (b := b) hn_14le hn_14z hn_14nz⟩) hZ hS
          · have hm1 : 1 ≤ m0 := by omega
            have hdub : ∀ i, du i < 268435456 := by have := (hZ.2 k hk).1; rw [ev] at this; exact this
            have hG := dv_guess hd2 hdub hn20 (hz2 hn20) hq_4 hupe hm1 hlt
            rw [← hhi0, ← hnx0] at hG
            obtain ⟨g0, hg0⟩ : ∃ t, t = gs (hi0 * 268435456 + nx0) ((lsh du (m0 + n2) up (m0 + n2) * 268435456 + lsh du (m0 + n2) up (m0 + n2 - 1)) * 268435456 + lsh du (m0 + n2) up (m0 + n2 - 2)) := ⟨_, rfl⟩
            rw [← hg0] at hG
            have hgB : g0 < 268435456 := by rw [hg0]; exact gs_lt _ _
            have hVQ : 0 < wv d2 n2 * wP (m0 - 1) := Nat.mul_pos ((nz_pos hz2).mp hn20) (wP_pos _)
            have hRn := wv_lt hdub (m0 + n2)
            have hVQn : wv d2 n2 * wP (m0 - 1) < wP (m0 + n2) := Nat.lt_of_lt_of_le (by rw [Nat.add_comm (m0 - 1), wP_add]; exact Nat.mul_lt_mul_of_pos_right (wv_lt hd2 n2) (wP_pos _) : wv d2 n2 * wP (m0 - 1) < wP (m0 - 1 + n2)) (wP_mono (by omega))
            have J165 : ∀ (g1 : Nat) (du1 : Nat → Nat) (v : Nat → zV) (H : Heap) (locs : List Loc) (ls : Array Slot), ((wv du1 (m0 + n2) : Int) + (g1 : Int) * ((wv d2 n2 : Int) * wP (m0 - 1)) = wv du (m0 + n2)) → ((wv du1 (m0 + n2) : Int) < (wv d2 n2 : Int) * wP (m0 - 1)) → (g1 < 268435456) → v k = (du1, m0 + n2, b) → v j = (d2, n2, b2) → v t = (dq, n - n2 + 1, false) → (∀ j, j ≠ k → j ≠ t → v j = v0 j) → zD E B v o H → va_S (zA B 80) s.heap H locs → lv_has ls 12 [(0, .ref (B + k)), (1, .ref (B + j)), (2, .ref (B + t)), (4, .int (iZ (↑up))), (5, .long (lZ (↑hi0))), (7, .long (lZ (↑nx0))), (9, .int (iZ (↑m0 - 1))), (10, .long (lZ (↑g1)))] → W p l e R s m args below meth c H locs 0 0 Q (F0 m 165 ls []) := by
              intro g1 du1 v H locs ls hJ1 hJ2 hJ3 ev ev2 ev3 fr hZ hS hl
              have hnx := dv_next hd2 hm1 hm hI hz hJ1 hJ2
              refine lv_aload_n hx hb dW_divideOut_165 rfl (lv_at hl 2 rfl) ?_
              refine zw_limbs hx hb ht hown hK hZ htt ev3 tw_31 dW_divideOut_166 ?_
              refine lv_iload hx hb dW_divideOut_169 (lv_at hl 6 rfl) ?_
              refine lv_lload hx hb dW_divideOut_171 (lv_at hl 7 rfl) ?_
              refine zw_st (x := g1) hx hb hK hZ htt ev3 hS (by omega) (by omega) (by omega) dW_divideOut_173 (fun v H locs ev3 ho hZ hS => ?_)
              rw [show (↑m0 - 1 : Int).toNat = m0 - 1 from by omega] at ev3
              have ev := (ho k (Ne.symm htk)).trans ev
              have ev2 := (ho j (Ne.symm htj)).trans ev2
              have fr : ∀ j, j ≠ k → j ≠ t → v j = v0 j := fun j h0 h1 => (ho j h1).trans (fr j h0 h1)
              refine lv_aload_n hx hb dW_divideOut_174 rfl (lv_at hl 0 rfl) ?_
              refine lv_aload_n hx hb dW_divideOut_175 rfl (lv_at hl 0 rfl) ?_
              refine zw_count hx hb ht hown hK hZ hk ev tw_34 dW_divideOut_176 ?_
              refine lv_iconst (v := iZ (1)) hx hb dW_divideOut_179 (by decide) ?_
              refine zr_isub hx hb dW_divideOut_180 ?_
              refine lv_iconst (v := iZ (0)) hx hb dW_divideOut_181 (by decide) ?_
              refine zr_max hx hb (by rw [hml]; exact hl.1.symm) ht hown tw_308 (by rw [hR]; decide) (by rw [hR]; exact Nat.le_of_ble_eq_true rfl) (Nat.zero_le _) (Nat.zero_le _) (by omega) (by omega) dW_divideOut_182 ?_
              rw [show (max (((m0 + n2 : Nat) : Int) - 1 : Int) (0 : Int) : Int) = ((m0 - 1 + n2 : Nat) : Int) from by omega]
              refine zw_put_count (n1 := m0 - 1 + n2) hx hb ht hown hK hZ hk ev hS (by omega) tw_34 dW_divideOut_185 (fun v H locs ev ho hZ hS => ?_)
              have ev2 := (ho j hjk).trans ev2
              have ev3 := (ho t htk).trans ev3
              have fr : ∀ j, j ≠ k → j ≠ t → v j = v0 j := fun j h0 h1 => (ho j h0).trans (fr j h0 h1)
              refine lv_iinc (v := iZ (↑m0 - 1 - 1)) (lv' := [(9, .int (iZ (↑m0 - 1 - 1))), (0, .ref (B + k)), (1, .ref (B + j)), (2, .ref (B + t)), (4, .int (iZ (↑up))), (5, .long (lZ (↑hi0))), (7, .long (lZ (↑nx0))), (10, .long (lZ (↑g1)))]) hx hb dW_divideOut_188 hl (k := 6) rfl (iZ_dec _ _) (by decide) rfl (fun ls hl => ?_)
              refine lv_goto (tgt := 104) hx hb dW_divideOut_191 (by decide) ?_
              rw [show (↑m0 - 1 - 1 : Int) = ↑(m0 - 1) - 1 from by omega] at hl
              exact ihL104 (m0 - 1) du1 (va_up dq (m0 - 1) g1) v _ _ _ (by omega) (hnx.1) (hnx.2) (fun i hi => by rw [va_up_ne _ _ (by omega)]; exact hz i (by omega)) (by omega) ev ev2 ev3 fr hZ hS (lv_sub hl [1, 2, 3, 4, 5, 6, 0] rfl)
            refine lv_aload_n hx hb dW_divideOut_109 rfl (lv_at hl 0 rfl) ?_
            refine lv_iload hx hb dW_divideOut_110 (lv_at hl 6 rfl) ?_
            refine lv_aload_n hx hb dW_divideOut_112 rfl (lv_at hl 1 rfl) ?_
            refine zw_count hx hb ht hown hK hZ hj ev2 tw_34 dW_divideOut_113 ?_
            refine zr_iadd hx hb dW_divideOut_116 ?_
            refine zc_i (y := iZ (↑(m0 - 1 + n2))) (congrArg iZ (by omega)) ?_
            refine lv_iload hx hb dW_divideOut_117 (lv_at hl 3 rfl) ?_
            refine lv_lload hx hb dW_divideOut_119 (lv_at hl 4 rfl) ?_
            refine lv_lload hx hb dW_divideOut_121 (lv_at hl 5 rfl) ?_
            refine zcV_l 4 (As := [.int (iZ (↑(m0 - 1 + n2))), .int (iZ (↑up)), .long (lZ (↑hi0)), .long (lZ (↑nx0))]) (rest := []) rfl ⟨hx, hb, hml, hown, ht⟩ (mW_guess l E B v o k hk du (m0 + n2) b ev (m0 - 1 + n2) ⟨by omega, by omega⟩ up (by omega) hi0 nx0 ⟨hG.1, by rw [hhi0]; exact lsh_lt _ _ _ _⟩ (by rw [hnx0]; exact lsh_lt _ _ _ _) (by rw [show m0 - 1 + n2 + 1 = m0 + n2 by omega]; exact hG.2.1)) tw_423 tw_420 tw_422 tp_5 tw_2 qW_guess (by rw [hR]; decide) (zW_recv hK hZ hk) hZ hK hl.1 rfl rfl (Nat.le_of_ble_eq_true rfl) dW_divideOut_123 ⟨Nat.zero_le _, Nat.zero_le _⟩ hS (fun r_15 v1 H locs hp hZ _ hS => ?_)
            obtain ⟨hv1, hr1⟩ := hp
            rw [hv1] at hZ
            subst hr1
            clear hv1 v1
            refine zc_l (y := lZ (↑g0)) (congrArg lZ (by rw [hg0, show m0 - 1 + n2 + 1 = m0 + n2 by omega, show m0 - 1 + n2 = m0 + n2 - 1 by omega, show m0 + n2 - 1 - 1 = m0 + n2 - 2 by omega])) ?_
            refine lv_lstore (lv' := [(10, .long (lZ (↑g0))), (0, .ref (B + k)), (1, .ref (B + j)), (2, .ref (B + t)), (4, .int (iZ (↑up))), (5, .long (lZ (↑hi0))), (7, .long (lZ (↑nx0))), (9, .int (iZ (↑m0 - 1)))]) hx hb dW_divideOut_126 hl (by decide) rfl (fun ls hl => ?_)
            refine lv_lload hx hb dW_divideOut_128 (lv_at hl 0 rfl) ?_
            refine lv_lconst (v := lZ (0)) hx hb dW_divideOut_130 (by decide) ?_
            refine zr_lcmp_eq (tgt := 165) hx hb (by omega) (by omega) dW_divideOut_131 dW_divideOut_132 (by decide) (fun c_16 => ?_) (fun c_16 => ?_)
            · exact J165 g0 du v _ _ _ (by have h0 : g0 = 0 := (by omega); rw [h0]; simp) (by have h9 := (Nat.div_lt_iff_lt_mul hVQ).mp (show wv du (m0 + n2) / (wv d2 n2 * wP (m0 - 1)) < 1 by omega); rw [Nat.one_mul] at h9; have e9 : (wv d2 n2 : Int) * wP (m0 - 1) = ((wv d2 n2 * wP (m0 - 1) : Nat) : Int) := (by simp only [Int.natCast_mul]); rw [e9]; omega) (hgB) ev ev2 ev3 fr hZ hS (lv_sub hl [1, 2, 3, 4, 5, 6, 7, 0] rfl)
            · refine lv_aload_n hx hb dW_divideOut_135 rfl (lv_at hl 1 rfl) ?_
              refine lv_aload_n hx hb dW_divideOut_136 rfl (lv_at hl 2 rfl) ?_
              refine lv_lload hx hb dW_divideOut_137 (lv_at hl 0 rfl) ?_
              refine zr_lneg hx hb dW_divideOut_139 ?_
              refine lv_iload hx hb dW_divideOut_140 (lv_at hl 7 rfl) ?_
              rw [show (↑m0 - 1 : Int) = ((m0 - 1 : Nat) : Int) from by omega]
              refine zcV_l 3 (As := [.ref (B + j), .long (lZ (-↑g0)), .int (iZ (↑(m0 - 1)))]) (rest := []) rfl ⟨hx, hb, hml, hown, ht⟩ (mW_mix l E B v o k hk du (m0 + n2) b ev j hj d2 n2 b2 ev2 hjk (-↑g0) (⟨by omega, by omega⟩) (m0 - 1) (by omega)) tw_374 tw_424 tw_372 tw_373 tw_2 qW_mix (by rw [hR]; decide) (zW_recv hK hZ hk) hZ hK hl.1 rfl rfl (Nat.le_of_ble_eq_true rfl) dW_divideOut_142 ⟨Nat.zero_le _, Nat.zero_le _⟩ hS (fun r_19 v H locs hp hZ _ hS => ?_)
              obtain ⟨ho, d_17, k_18, ev, hr1, hk_18I, hk_18lo, hk_18hi⟩ := hp
              subst hr1
              have ev2 := (ho j hjk).trans ev2
              have ev3 := (ho t htk).trans ev3
              have fr : ∀ j, j ≠ k → j ≠ t → v j = v0 j := fun j h0 h1 => (ho j h0).trans (fr j h0 h1)
              refine lv_lconst (v := lZ (0)) hx hb dW_divideOut_145 (by decide) ?_
              refine zr_lcmp_ge (tgt := 165) hx hb (by omega) (by omega) dW_divideOut_146 dW_divideOut_147 (by decide) (fun c_20 => ?_) (fun c_20 => ?_)
              · have hx9 := dv_digit (g := g0) (A := (wv d_17 (m0 + n2) : Int)) (n := m0 + n2) hVQ hG.2.2.1 hRn (Int.natCast_nonneg _) (by have h9 : ∀ i, d_17 i < 268435456 := (by have := (hZ.2 k hk).1; rw [ev] at this; exact this); have := wv_lt h9 (m0 + n2); omega) (by rw [hk_18I, Int.neg_mul, Int.neg_mul, Int.sub_eq_add_neg]) (by omega)
                exact J165 g0 d_17 v _ _ _ (hx9.1) (hx9.2) (hgB) ev ev2 ev3 fr hZ hS (lv_sub hl [1, 2, 3, 4, 5, 6, 7, 0] rfl)
              · have hA1 : (wv d_17 (m0 + n2) : Int) < wP (m0 + n2) := by have h9 : ∀ i, d_17 i < 268435456 := (by have := (hZ.2 k hk).1; rw [ev] at this; exact this); have := wv_lt h9 (m0 + n2); omega
                refine lv_aload_n hx hb dW_divideOut_150 rfl (lv_at hl 1 rfl) ?_
                refine lv_aload_n hx hb dW_divideOut_151 rfl (lv_at hl 2 rfl) ?_
                refine lv_lconst (v := lZ (1)) hx hb dW_divideOut_152 (by decide) ?_
                refine lv_iload hx hb dW_divideOut_153 (lv_at hl 7 rfl) ?_
                rw [show (↑m0 - 1 : Int) = ((m0 - 1 : Nat) : Int) from by omega]
                refine zcV_l 3 (As := [.ref (B + j), .long (lZ (1)), .int (iZ (↑(m0 - 1)))]) (rest := []) rfl ⟨hx, hb, hml, hown, ht⟩ (mW_mix l E B v o k hk d_17 (m0 + n2) b ev j hj d2 n2 b2 ev2 hjk (1) (⟨by omega, by omega⟩) (m0 - 1) (by omega)) tw_374 tw_424 tw_372 tw_373 tw_2 qW_mix (by rw [hR]; decide) (zW_recv hK hZ hk) hZ hK hl.1 rfl rfl (Nat.le_of_ble_eq_true rfl) dW_divideOut_155 ⟨Nat.zero_le _, Nat.zero_le _⟩ hS (fun r_23 v H locs hp hZ _ hS => ?_)
                obtain ⟨ho, d_21, k_22, ev, hr1, hk_22I, hk_22lo, hk_22hi⟩ := hp
                subst hr1
                have ev2 := (ho j hjk).trans ev2
                have ev3 := (ho t htk).trans ev3
                have fr : ∀ j, j ≠ k → j ≠ t → v j = v0 j := fun j h0 h1 => (ho j h0).trans (fr j h0 h1)
                refine lv_pop2_2 hx hb dW_divideOut_158 rfl ?_
                refine lv_lload hx hb dW_divideOut_159 (lv_at hl 0 rfl) ?_
                refine lv_lconst (v := lZ (1)) hx hb dW_divideOut_161 (by decide) ?_
                refine zr_lsub hx hb dW_divideOut_162 ?_
                refine zc_l (y := lZ (↑(g0 - 1))) (congrArg lZ (by omega)) ?_
                refine lv_lstore (lv' := [(10, .long (lZ (↑(g0 - 1)))), (0, .ref (B + k)), (1, .ref (B + j)), (2, .ref (B + t)), (4, .int (iZ (↑up))), (5, .long (lZ (↑hi0))), (7, .long (lZ (↑nx0))), (9, .int (iZ (↑m0 - 1)))]) hx hb dW_divideOut_163 hl (by decide) rfl (fun ls hl => ?_)
                have hx9 := dv_back (g := g0) (A := (wv d_17 (m0 + n2) : Int)) (A2 := (wv d_21 (m0 + n2) : Int)) (n := m0 + n2) hVQ hG.2.2.2 hRn hVQn (Int.natCast_nonneg _) hA1 (by rw [hk_18I, Int.neg_mul, Int.neg_mul, Int.sub_eq_add_neg]) (by omega) (Int.natCast_nonneg _) (by have h9 : ∀ i, d_21 i < 268435456 := (by have := (hZ.2 k hk).1; rw [ev] at this; exact this); have := wv_lt h9 (m0 + n2); omega) hk_22I
                exact J165 (g0 - 1) d_21 v _ _ _ (hx9.2.1) (hx9.2.2) (by omega) ev ev2 ev3 fr hZ hS (lv_sub hl [1, 2, 3, 4, 5, 6, 7, 0] rfl)
      exact L104 _ (n - n2 + 1) d_11 d_9 v _ _ _ (Nat.lt_succ_self _) (by rw [wv_drop (m := 0) (Nat.zero_le _) (fun i _ hi => hq0 i hi), wv_0, Nat.mul_zero, Nat.zero_add]; exact hfi.1.symm) (by rw [hfi.1]; exact hfi.2) (hq0) (Nat.le_refl _) ev ev2 ev3 fr hZ hS (lv_sub hl [5, 6, 7, 3, 2, 1, 0] rfl)
    · exact hend 34 v _ _ _ dW_divideOut_34 (⟨fr, 0, wv d n, by rw [Nat.zero_mul, Nat.zero_add], Nat.lt_of_lt_of_le (wv_lt hd0 n) (Nat.le_trans (wP_mono (show n ≤ n2 - 1 by omega)) (by have h9 := wv_ge (hz2 hn20); rw [show n2 - 1 + 1 = n2 by omega] at h9; exact h9)), by rw [ev3]; exact ⟨nz_0 _, fun h => (by cases h), rfl⟩, by rw [ev]; exact ⟨hz1, hb1, rfl⟩⟩) hZ hS
end
section
theorem ag1 {w1 w2 : zV} {x y : Int} (h1 : zN w1 x) (h2 : zN w2 y) (hb : w1.2.2 = true) (hb2 : w2.2.2 = false) : cmpZ x y = -1 := by
  have e1 := (zN_neg h1).mp hb
  have e2 := zN_neg h2
  unfold cmpZ
  rw [if_pos]
  rw [hb2] at e2
  have : ¬ y < 0 := fun h => by cases e2.mpr h
  omega
theorem ag2 {w1 w2 : zV} {x y : Int} (h1 : zN w1 x) (h2 : zN w2 y) (hb : w1.2.2 = false) (hb2 : w2.2.2 = true) : cmpZ x y = 1 := by
  have e1 := (zN_neg h2).mp hb2
  have e2 := zN_neg h1
  rw [hb] at e2
  have : ¬ x < 0 := fun h => by cases e2.mpr h
  unfold cmpZ
  rw [if_neg (by omega), if_neg (by omega)]
theorem ag3 {w1 w2 : zV} {x y : Int} (h1 : zN w1 x) (h2 : zN w2 y) (hb : w1.2.2 = true) (hb2 : w2.2.2 = true) : cmpZ (wv w2.1 w2.2.1) (wv w1.1 w1.2.1) = cmpZ x y := by
  have e1 := h1.2.2
  have e2 := h2.2.2
  rw [if_pos hb] at e1
  rw [if_pos hb2] at e2
  unfold cmpZ
  split <;> split <;> (try split) <;> (try split) <;> first | rfl | omega
theorem ag4 {w1 w2 : zV} {x y : Int} (h1 : zN w1 x) (h2 : zN w2 y) (hb : w1.2.2 = false) (hb2 : w2.2.2 = false) : cmpZ (wv w1.1 w1.2.1) (wv w2.1 w2.2.1) = cmpZ x y := by
  have e1 := h1.2.2
  have e2 := h2.2.2
  rw [if_neg (by rw [hb]; decide)] at e1
  rw [if_neg (by rw [hb2]; decide)] at e2
  rw [e1, e2]
set_option maxHeartbeats 4000000 in
set_option maxRecDepth 100000 in
theorem mW_against (l : Launch) (E : zE) (B : Nat) (v0 : Nat → zV) (o : Nat → va_E) (k : Nat) (hk : lp k = true) (d : Nat → Nat) (n : Nat) (b : Bool) (ev : v0 k = (d, n, b)) (j : Nat) (hj : lp j = true) (d2 : Nat → Nat) (n2 : Nat) (b2 : Bool) (ev2 : v0 j = (d2, n2, b2)) (x1 x2 : Int) (hN1 : zN (d, n, b) x1) (hN2 : zN (d2, n2, b2) x2) :
    Met l yW_against (zws yW_against cW_against 2 (some .int)) { frames := 1, cells := 0, slots := 0, locals := 24 } (zPc E (zD E B v0 o) [.ref (B + k), .ref (B + j)]) (va_Qi (fun (r : Int32) (v : Nat → zV) => v = v0 ∧ r = iZ (cmpZ x1 x2)) (fun v t => zD E B v o t.heap ∧ zK E t) (zA B 80)) 0 0 (zA B 80) := by
  refine zof_i (by decide) (Nat.le_of_ble_eq_true rfl) fun p e R s m args below meth c Q ls hR hx hb hml ht hown hK hZ hl hend => ?_
  have hS : va_S (zA B 80) s.heap s.heap [] := va_S.rf
  have hown : s.vm.findClass "WholeDesk$Whole" = some m.cls := hown
  have hl : lv_has ls 2 [(0, .ref (B + k)), (1, .ref (B + j))] := hl
  have hn : n ≤ 152 := by have := (hZ.2 k hk).2; rw [ev] at this; exact this
  have hn2 : n2 ≤ 152 := by have := (hZ.2 j hj).2; rw [ev2] at this; exact this
  refine lv_aload_n hx hb dW_against_0 rfl (lv_at hl 0 rfl) ?_
  refine zw_below hx hb ht hown hK hZ hk ev tw_39 dW_against_1 ?_
  refine lv_aload_n hx hb dW_against_4 rfl (lv_at hl 1 rfl) ?_
  refine zw_below hx hb ht hown hK hZ hj ev2 tw_39 dW_against_5 ?_
  refine zr_icmp_eq (tgt := 24) hx hb (by have := bZ_01 b; omega) (by have := bZ_01 b2; omega) dW_against_8 (by decide) (fun c_1 => ?_) (fun c_1 => ?_)
  · refine lv_aload_n hx hb dW_against_24 rfl (lv_at hl 0 rfl) ?_
    refine zw_below hx hb ht hown hK hZ hk ev tw_39 dW_against_25 ?_
    refine zr_if_eq (tgt := 39) hx hb (by have := bZ_01 b; omega) dW_against_28 (by decide) (fun c_2 => ?_) (fun c_2 => ?_)
    · refine lv_aload_n hx hb dW_against_39 rfl (lv_at hl 0 rfl) ?_
      refine lv_aload_n hx hb dW_against_40 rfl (lv_at hl 1 rfl) ?_
      refine zcV_i 1 (As := [.ref (B + j)]) (rest := []) rfl ⟨hx, hb, hml, hown, ht⟩ (mW_sizeAgainst l E B v0 o k hk d n b ev j hj d2 n2 b2 ev2 hN1.1 hN2.1) tw_378 tw_623 tw_376 tw_377 tw_2 qW_sizeAgainst (by rw [hR]; decide) (zW_recv hK hZ hk) hZ hK hl.1 rfl rfl (Nat.le_of_ble_eq_true rfl) dW_against_41 ⟨Nat.zero_le _, Nat.zero_le _⟩ hS (fun r_3 v1 H locs hp hZ _ hS => ?_)
      obtain ⟨hv1, hr1⟩ := hp
      rw [hv1] at hZ
      subst hr1
      clear hv1 v1
      exact hend 44 (_) v0 _ _ _ dW_against_44 (⟨rfl, congrArg iZ (by have hq1 := bZ_01 b; have hq2 := bZ_01 b2; exact ag4 hN1 hN2 (show b = false from bZ_f.mp (by omega)) (show b2 = false from bZ_f.mp (by omega)))⟩) hZ hS
    · refine lv_aload_n hx hb dW_against_31 rfl (lv_at hl 1 rfl) ?_
      refine lv_aload_n hx hb dW_against_32 rfl (lv_at hl 0 rfl) ?_
      refine zcV_i 1 (As := [.ref (B + k)]) (rest := []) rfl ⟨hx, hb, hml, hown, ht⟩ (mW_sizeAgainst l E B v0 o j hj d2 n2 b2 ev2 k hk d n b ev hN2.1 hN1.1) tw_378 tw_623 tw_376 tw_377 tw_2 qW_sizeAgainst (by rw [hR]; decide) (zW_recv hK hZ hj) hZ hK hl.1 rfl rfl (Nat.le_of_ble_eq_true rfl) dW_against_33 ⟨Nat.zero_le _, Nat.zero_le _⟩ hS (fun r_4 v1 H locs hp hZ _ hS => ?_)
      obtain ⟨hv1, hr1⟩ := hp
      rw [hv1] at hZ
      subst hr1
      clear hv1 v1
      refine lv_goto (tgt := 44) hx hb dW_against_36 (by decide) ?_
      exact hend 44 (_) v0 _ _ _ dW_against_44 (⟨rfl, congrArg iZ (by have hq1 := bZ_01 b; have hq2 := bZ_01 b2; exact ag3 hN1 hN2 (show b = true from bZ_t.mp (by omega)) (show b2 = true from bZ_t.mp (by omega)))⟩) hZ hS
  · refine lv_aload_n hx hb dW_against_11 rfl (lv_at hl 0 rfl) ?_
    refine zw_below hx hb ht hown hK hZ hk ev tw_39 dW_against_12 ?_
    refine zr_if_eq (tgt := 22) hx hb (by have := bZ_01 b; omega) dW_against_15 (by decide) (fun c_5 => ?_) (fun c_5 => ?_)
    · refine lv_iconst (v := iZ (1)) hx hb dW_against_22 (by decide) ?_
      exact hend 23 (_) v0 _ _ _ dW_against_23 (⟨rfl, congrArg iZ (by have hq1 := bZ_01 b; have hq2 := bZ_01 b2; exact (ag2 hN1 hN2 (show b = false from bZ_f.mp (by omega)) (show b2 = true from bZ_t.mp (by omega))).symm)⟩) hZ hS
    · refine lv_iconst (v := iZ (-1)) hx hb dW_against_18 (by decide) ?_
      refine lv_goto (tgt := 23) hx hb dW_against_19 (by decide) ?_
      exact hend 23 (_) v0 _ _ _ dW_against_23 (⟨rfl, congrArg iZ (by have hq1 := bZ_01 b; have hq2 := bZ_01 b2; exact (ag1 hN1 hN2 (show b = true from bZ_t.mp (by omega)) (show b2 = false from bZ_f.mp (by omega))).symm)⟩) hZ hS

theorem ga_step {d d1 d2 d3 : Nat → Nat} {n1 n3 i : Nat} {c : Int} {X : Nat} (hI : wv d1 n1 = X + wv d2 i * wv d3 n3) (h1 : ∀ i, d i < 268435456) (hk : (wv d n1 : Int) + c * wP n1 = wv d1 n1 + (d2 i : Int) * wP i * wv d3 n3) (hb : X + wv d2 (i + 1) * wv d3 n3 < wP n1) : wv d n1 = X + wv d2 (i + 1) * wv d3 n3 := by
  have e : (wv d1 n1 : Int) + (d2 i : Int) * wP i * wv d3 n3 = ((X + wv d2 (i + 1) * wv d3 n3 : Nat) : Int) := by
    rw [hI, wv_s, Nat.add_mul]
    simp only [Int.natCast_add, Int.natCast_mul]
    grind
  rw [e] at hk
  have h2 := wv_lt h1 n1
  have := (no_carry hk (by omega) (by omega) (by omega) (by omega)).2
  omega
theorem ga_bd {d d2 d3 : Nat → Nat} (hd : ∀ i, d i < 268435456) (hd2 : ∀ i, d2 i < 268435456) (hd3 : ∀ i, d3 i < 268435456) {n n1 n2 n3 i : Nat} (hi : i ≤ n2) (hn : max n (n2 + n3) + 1 ≤ n1) : wv d n + wv d2 i * wv d3 n3 < wP n1 := by
  have h1 := Nat.lt_of_lt_of_le (wv_lt hd n) (wP_mono (show n ≤ max n (n2 + n3) by omega))
  have h2 : wv d2 i * wv d3 n3 ≤ wP i * wP n3 := Nat.mul_le_mul (Nat.le_of_lt (wv_lt hd2 i)) (Nat.le_of_lt (wv_lt hd3 n3))
  rw [← wP_add] at h2
  have h3 := Nat.le_trans h2 (wP_mono (show i + n3 ≤ max n (n2 + n3) by omega))
  have h4 := wP_mono hn
  rw [wP_s] at h4
  omega
set_option maxHeartbeats 4000000 in
set_option maxRecDepth 100000 in
theorem mW_gather (l : Launch) (E : zE) (B : Nat) (v0 : Nat → zV) (o : Nat → va_E) (k : Nat) (hk : lp k = true) (d : Nat → Nat) (n : Nat) (b : Bool) (ev : v0 k = (d, n, b)) (j : Nat) (hj : lp j = true) (d2 : Nat → Nat) (n2 : Nat) (b2 : Bool) (ev2 : v0 j = (d2, n2, b2)) (t : Nat) (htt : lp t = true) (d3 : Nat → Nat) (n3 : Nat) (b3 : Bool) (ev3 : v0 t = (d3, n3, b3)) (hjk : j ≠ k) (htk : t ≠ k) (hnn : max n (n2 + n3) + 1 ≤ 152) :
    Met l yW_gather (zws yW_gather cW_gather 4 none) { frames := 2, cells := 0, slots := 0, locals := 68 } (zPc E (zD E B v0 o) [.ref (B + k), .ref (B + j), .ref (B + t)]) (va_Qv (fun v : Nat → zV => (∀ j, j ≠ k → v j = v0 j) ∧ zN (v k) (if b = true then -((wv d n + wv d2 n2 * wv d3 n3 : Nat) : Int) else ((wv d n + wv d2 n2 * wv d3 n3 : Nat) : Int))) (fun v t => zD E B v o t.heap ∧ zK E t) (zA B 80)) 0 0 (zA B 80) := by
  refine zof_v (by decide) (Nat.le_of_ble_eq_true rfl) fun p e R s m args below meth c Q ls hR hx hb hml ht hown hK hZ hl hend => ?_
  have hS : va_S (zA B 80) s.heap s.heap [] := va_S.rf
  have hown : s.vm.findClass "WholeDesk$Whole" = some m.cls := hown
  have hl : lv_has ls 4 [(0, .ref (B + k)), (1, .ref (B + j)), (2, .ref (B + t))] := hl
  have hn : n ≤ 152 := by have := (hZ.2 k hk).2; rw [ev] at this; exact this
  have hd0 : ∀ i, d i < 268435456 := by have := (hZ.2 k hk).1; rw [ev] at this; exact this
  have hn2 : n2 ≤ 152 := by have := (hZ.2 j hj).2; rw [ev2] at this; exact this
  have hd2 : ∀ i, d2 i < 268435456 := by have := (hZ.2 j hj).1; rw [ev2] at this; exact this
  have hn3 : n3 ≤ 152 := by have := (hZ.2 t htt).2; rw [ev3] at this; exact this
  have hd3 : ∀ i, d3 i < 268435456 := by have := (hZ.2 t htt).1; rw [ev3] at this; exact this
  have fr : ∀ j, j ≠ k → v0 j = v0 j := fun j _ => rfl
  refine lv_aload_n hx hb dW_gather_0 rfl (lv_at hl 0 rfl) ?_
  refine lv_aload_n hx hb dW_gather_1 rfl (lv_at hl 0 rfl) ?_
  refine zw_count hx hb ht hown hK hZ hk ev tw_34 dW_gather_2 ?_
  refine lv_aload_n hx hb dW_gather_5 rfl (lv_at hl 1 rfl) ?_
  refine zw_count hx hb ht hown hK hZ hj ev2 tw_34 dW_gather_6 ?_
  refine lv_aload_n hx hb dW_gather_9 rfl (lv_at hl 2 rfl) ?_
  refine zw_count hx hb ht hown hK hZ htt ev3 tw_34 dW_gather_10 ?_
  refine zr_iadd hx hb dW_gather_13 ?_
  refine zr_max hx hb (by rw [hml]; exact hl.1.symm) ht hown tw_308 (by rw [hR]; decide) (by rw [hR]; exact Nat.le_of_ble_eq_true rfl) (Nat.zero_le _) (Nat.zero_le _) (by omega) (by omega) dW_gather_14 ?_
  refine lv_iconst (v := iZ (1)) hx hb dW_gather_17 (by decide) ?_
  refine zr_iadd hx hb dW_gather_18 ?_
  refine zcV_v 1 (As := [.int (iZ ((max (↑n : Int) (↑n2 + ↑n3 : Int)) + 1))]) (rest := []) rfl ⟨hx, hb, hml, hown, ht⟩ (mW_stretch l E B v0 o k hk d n b ev ((max (↑n : Int) (↑n2 + ↑n3 : Int)) + 1) (by omega)) tw_304 tw_301 tw_302 tw_303 tw_2 qW_stretch (by rw [hR]; decide) (zW_recv hK hZ hk) hZ hK hl.1 rfl rfl (Nat.le_of_ble_eq_true rfl) dW_gather_19 ⟨Nat.zero_le _, Nat.zero_le _⟩ hS (fun  v H locs hp hZ _ hS => ?_)
  obtain ⟨ho, d_2, n_1, ev, hn_1, hd_2lo, hd_2hi⟩ := hp
  have ev2 := (ho j hjk).trans ev2
  have ev3 := (ho t htk).trans ev3
  have fr : ∀ j, j ≠ k → v j = v0 j := fun j h0 => (ho j h0).trans (fr j h0)
  have hS0 : wv d_2 n_1 = wv d n := by rw [wv_drop (show n ≤ n_1 by omega) hd_2hi]; exact wv_congr hd_2lo
  have hnS : max n (n2 + n3) + 1 ≤ n_1 := by omega
  refine lv_iconst (v := iZ (0)) hx hb dW_gather_22 (by decide) ?_
  refine lv_istore_n (lv' := [(3, .int (iZ (0))), (0, .ref (B + k)), (1, .ref (B + j)), (2, .ref (B + t))]) hx hb dW_gather_23 rfl hl (by decide) rfl (fun ls hl => ?_)
  have L24 : ∀ (fu : Nat) (i : Nat) (d1 : Nat → Nat) (v : Nat → zV) (H : Heap) (locs : List Loc) (ls : Array Slot), n2 - i < fu → (wv d1 n_1 = wv d n + wv d2 i * wv d3 n3) → (i ≤ n2) → v k = (d1, n_1, b) → v j = (d2, n2, b2) → v t = (d3, n3, b3) → (∀ j, j ≠ k → v j = v0 j) → zD E B v o H → va_S (zA B 80) s.heap H locs → lv_has ls 4 [(0, .ref (B + k)), (1, .ref (B + j)), (2, .ref (B + t)), (3, .int (iZ (↑i)))] → W p l e R s m args below meth c H locs 0 0 Q (F0 m 24 ls []) := by
    intro fu
    induction fu with
    | zero => intro i d1 v H locs ls hm; exact absurd hm (Nat.not_lt_zero _)
    | succ fu ihL24 =>
      intro i d1 v H locs ls hm hI hi ev ev2 ev3 fr hZ hS hl
      refine lv_iload_n hx hb dW_gather_24 rfl (lv_at hl 3 rfl) ?_
      refine lv_aload_n hx hb dW_gather_25 rfl (lv_at hl 1 rfl) ?_
      refine zw_count hx hb ht hown hK hZ hj ev2 tw_34 dW_gather_26 ?_
      refine zr_icmp_ge (tgt := 51) hx hb (by omega) (by omega) dW_gather_29 (by decide) (fun c_3 => ?_) (fun c_3 => ?_)
      · have hin : i = n2 := by omega
        rw [hin] at hI
        refine lv_aload_n hx hb dW_gather_51 rfl (lv_at hl 0 rfl) ?_
        refine zcV_v 0 (As := []) (rest := []) rfl ⟨hx, hb, hml, hown, ht⟩ (mW_trim l E B v o k hk d1 n_1 b ev) tw_295 tw_292 tw_293 tw_294 tw_2 qW_trim (by rw [hR]; decide) (zW_recv hK hZ hk) hZ hK hl.1 rfl rfl (Nat.le_of_ble_eq_true rfl) dW_gather_52 ⟨Nat.zero_le _, Nat.zero_le _⟩ hS (fun  v H locs hp hZ _ hS => ?_)
        obtain ⟨ho, n_4, ev, hn_4le, hn_4z, hn_4nz⟩ := hp
        have ev2 := (ho j hjk).trans ev2
        have ev3 := (ho t htk).trans ev3
        have fr : ∀ j, j ≠ k → v j = v0 j := fun j h0 => (ho j h0).trans (fr j h0)
        exact hend 55 v _ _ _ dW_gather_55 (⟨fr, by
          rw [ev]
          have h9 := zN_trim (b := b) hn_4le hn_4z hn_4nz
          rw [hI] at h9
          exact h9⟩) hZ hS
      · refine lv_aload_n hx hb dW_gather_32 rfl (lv_at hl 0 rfl) ?_
        refine lv_aload_n hx hb dW_gather_33 rfl (lv_at hl 2 rfl) ?_
        refine lv_aload_n hx hb dW_gather_34 rfl (lv_at hl 1 rfl) ?_
        refine zw_limbs hx hb ht hown hK hZ hj ev2 tw_31 dW_gather_35 ?_
        refine lv_iload_n hx hb dW_gather_38 rfl (lv_at hl 3 rfl) ?_
        refine zw_ld hx hb hK hZ hj ev2 (by omega) (by omega) dW_gather_39 ?_
        rw [show (↑i : Int).toNat = i from by omega]
        refine lv_iload_n hx hb dW_gather_40 rfl (lv_at hl 3 rfl) ?_
        refine zcV_l 3 (As := [.ref (B + t), .long (lZ (↑(d2 i))), .int (iZ (↑i))]) (rest := []) rfl ⟨hx, hb, hml, hown, ht⟩ (mW_mix l E B v o k hk d1 n_1 b ev t htt d3 n3 b3 ev3 htk (↑(d2 i)) (⟨by omega, by have := hd2 i; omega⟩) (i) (by omega)) tw_374 tw_424 tw_372 tw_373 tw_2 qW_mix (by rw [hR]; decide) (zW_recv hK hZ hk) hZ hK hl.1 rfl rfl (Nat.le_of_ble_eq_true rfl) dW_gather_41 ⟨Nat.zero_le _, Nat.zero_le _⟩ hS (fun r_7 v H locs hp hZ _ hS => ?_)
        obtain ⟨ho, d_5, k_6, ev, hr1, hk_6I, hk_6lo, hk_6hi⟩ := hp
        subst hr1
        have ev2 := (ho j hjk).trans ev2
        have ev3 := (ho t htk).trans ev3
        have fr : ∀ j, j ≠ k → v j = v0 j := fun j h0 => (ho j h0).trans (fr j h0)
        have hdb : ∀ i, d_5 i < 268435456 := by have := (hZ.2 k hk).1; rw [ev] at this; exact this
        have hk9 := hk_6I
        refine lv_pop2_2 hx hb dW_gather_44 rfl ?_
        refine lv_iinc (v := iZ (↑i + 1)) (lv' := [(3, .int (iZ (↑i + 1))), (0, .ref (B + k)), (1, .ref (B + j)), (2, .ref (B + t))]) hx hb dW_gather_45 hl (k := 3) rfl (iZ_add _ _) (by decide) rfl (fun ls hl => ?_)
        refine lv_goto (tgt := 24) hx hb dW_gather_48 (by decide) ?_
        exact ihL24 (i + 1) d_5 v _ _ _ (by omega) (ga_step hI hdb hk9 (ga_bd hd0 hd2 hd3 (by omega) hnS)) (by omega) ev ev2 ev3 fr hZ hS (lv_sub hl [1, 2, 3, 0] rfl)
  exact L24 _ 0 d_2 v _ _ _ (Nat.lt_succ_self _) (by rw [hS0, wv_0, Nat.zero_mul, Nat.add_zero]) (by omega) ev ev2 ev3 fr hZ hS (lv_sub hl [1, 2, 3, 0] rfl)
end
section
theorem lZ_congr {a b : Int} (h : a % 18446744073709551616 = b % 18446744073709551616) : lZ a = lZ b := by rw [lZ_mod a, lZ_mod b, h]
theorem zr_lorC {p : Program} {l : Launch} {e : Env} {R : Room} {s : State} {m : MethodId} {args : Array Value} {below : List Frame} {meth : Method} {c : Code} {H : Heap} {locs : List Loc} {cells slots : Nat} {Q : State → Prop} {cc : ByteArray} {pc : Nat} {ls : Array Slot} {rest : List Value} (hx : p.tables.exec = Jvm.exec) (hb : c.code = cc) {a b P : Int} {n : Nat} (hP : ((2 ^ n : Nat) : Int) = P) (ha : 0 ≤ a) (ha2 : a < P) (hb0 : 0 ≤ b) (h : b * P + a < 18446744073709551616) (hd : decode cc pc = .ok (.lor, 1)) (k : W p l e R s m args below meth c H locs cells slots Q (F0 m (pc + 1) ls (.long (lZ (b * P + a)) :: rest))) : W p l e R s m args below meth c H locs cells slots Q (F0 m pc ls (.long (lZ (b * P)) :: .long (lZ a) :: rest)) := lv_lor hx hb hd (by rw [Int64.or_comm, lZ_or hP ha ha2 hb0 h]; exact k)
theorem low64 {d : Nat → Nat} (hd : ∀ i, d i < 268435456) (n : Nat) : ((wx d n 2 : Int) % 256 * 72057594037927936 + ((wx d n 1 : Int) * 268435456 + (wx d n 0 : Int))) % 18446744073709551616 = (wv d n : Int) % 18446744073709551616 := by
  have h := wv_split (wx d n) 3 n
  rw [wv_wx d (by omega)] at h
  have e : wv (wx d n) 3 = wx d n 0 + wx d n 1 * 268435456 + wx d n 2 * 72057594037927936 := by simp [wv, wP]
  have e2 : wP 3 = 19342813113834066795298816 := rfl
  rw [e, e2] at h
  rw [h]
  generalize wv (fun i => wx d n (3 + i)) n = G
  omega
theorem neg_mod {a b M : Int} (h : a % M = b % M) : (-a) % M = (-b) % M := by rw [← Int.zero_sub, ← Int.zero_sub b, Int.sub_emod, h, ← Int.sub_emod]
set_option maxHeartbeats 4000000 in
set_option maxRecDepth 100000 in
theorem mW_lowest64 (l : Launch) (E : zE) (B : Nat) (v0 : Nat → zV) (o : Nat → va_E) (k : Nat) (hk : lp k = true) (d : Nat → Nat) (n : Nat) (b : Bool) (ev : v0 k = (d, n, b)) (x1 : Int) (hN1 : zN (d, n, b) x1) :
    Met l yW_lowest64 (zws yW_lowest64 cW_lowest64 3 (some .long)) { frames := 1, cells := 0, slots := 0, locals := 30 } (zPc E (zD E B v0 o) [.ref (B + k)]) (va_Ql (fun (r : Int64) (v : Nat → zV) => v = v0 ∧ r = lZ x1) (fun v t => zD E B v o t.heap ∧ zK E t) (zA B 80)) 0 0 (zA B 80) := by
  refine zof_l (by decide) (Nat.le_of_ble_eq_true rfl) fun p e R s m args below meth c Q ls hR hx hb hml ht hown hK hZ hl hend => ?_
  have hS : va_S (zA B 80) s.heap s.heap [] := va_S.rf
  have hown : s.vm.findClass "WholeDesk$Whole" = some m.cls := hown
  have hl : lv_has ls 3 [(0, .ref (B + k))] := hl
  have hn : n ≤ 152 := by have := (hZ.2 k hk).2; rw [ev] at this; exact this
  have hd0 : ∀ i, d i < 268435456 := by have := (hZ.2 k hk).1; rw [ev] at this; exact this
  have hL0 := wx_lt hd0 n 0
  have hL1 := wx_lt hd0 n 1
  have hL2 := wx_lt hd0 n 2
  have hL := low64 hd0 n
  refine lv_aload_n hx hb dW_lowest64_0 rfl (lv_at hl 0 rfl) ?_
  refine lv_iconst (v := iZ (0)) hx hb dW_lowest64_1 (by decide) ?_
  refine zcV_l 1 (As := [.int (iZ (0))]) (rest := []) rfl ⟨hx, hb, hml, hown, ht⟩ (mW_limb l E B v0 o k hk d n b ev (0) (by omega)) tw_322 tw_319 tw_320 tw_321 tw_2 qW_limb (by rw [hR]; decide) (zW_recv hK hZ hk) hZ hK hl.1 rfl rfl (Nat.le_of_ble_eq_true rfl) dW_lowest64_2 ⟨Nat.zero_le _, Nat.zero_le _⟩ hS (fun r_1 v1 H locs hp hZ _ hS => ?_)
  obtain ⟨hv1, hr1⟩ := hp
  rw [hv1] at hZ
  subst hr1
  clear hv1 v1
  refine zc_l (y := lZ (↑(wx d n 0))) (congrArg lZ (by rw [show (0 : Int) = ((0 : Nat) : Int) from rfl, wz_nat])) ?_
  refine lv_aload_n hx hb dW_lowest64_5 rfl (lv_at hl 0 rfl) ?_
  refine lv_iconst (v := iZ (1)) hx hb dW_lowest64_6 (by decide) ?_
  refine zcV_l 1 (As := [.int (iZ (1))]) (rest := [.long (lZ (↑(wx d n 0)))]) rfl ⟨hx, hb, hml, hown, ht⟩ (mW_limb l E B v0 o k hk d n b ev (1) (by omega)) tw_322 tw_319 tw_320 tw_321 tw_2 qW_limb (by rw [hR]; decide) (zW_recv hK hZ hk) hZ hK hl.1 rfl rfl (Nat.le_of_ble_eq_true rfl) dW_lowest64_7 ⟨Nat.zero_le _, Nat.zero_le _⟩ hS (fun r_2 v1 H locs hp hZ _ hS => ?_)
  obtain ⟨hv1, hr1⟩ := hp
  rw [hv1] at hZ
  subst hr1
  clear hv1 v1
  refine zc_l (y := lZ (↑(wx d n 1))) (congrArg lZ (by rw [show (1 : Int) = ((1 : Nat) : Int) from rfl, wz_nat])) ?_
  refine lv_bipush (v := iZ (28)) hx hb dW_lowest64_10 (by decide) ?_
  refine zr_lshl (n := 28) (P := 268435456) hx hb (Nat.le_of_ble_eq_true rfl) (p2_28) dW_lowest64_12 ?_
  refine zr_lorC (n := 28) (P := 268435456) hx hb p2_28 (by omega) (by omega) (by omega) (by omega) dW_lowest64_13 ?_
  refine lv_aload_n hx hb dW_lowest64_14 rfl (lv_at hl 0 rfl) ?_
  refine lv_iconst (v := iZ (2)) hx hb dW_lowest64_15 (by decide) ?_
  refine zcV_l 1 (As := [.int (iZ (2))]) (rest := [.long (lZ ((↑(wx d n 1)) * 268435456 + (↑(wx d n 0))))]) rfl ⟨hx, hb, hml, hown, ht⟩ (mW_limb l E B v0 o k hk d n b ev (2) (by omega)) tw_322 tw_319 tw_320 tw_321 tw_2 qW_limb (by rw [hR]; decide) (zW_recv hK hZ hk) hZ hK hl.1 rfl rfl (Nat.le_of_ble_eq_true rfl) dW_lowest64_16 ⟨Nat.zero_le _, Nat.zero_le _⟩ hS (fun r_3 v1 H locs hp hZ _ hS => ?_)
  obtain ⟨hv1, hr1⟩ := hp
  rw [hv1] at hZ
  subst hr1
  clear hv1 v1
  refine zc_l (y := lZ (↑(wx d n 2))) (congrArg lZ (by rw [show (2 : Int) = ((2 : Nat) : Int) from rfl, wz_nat])) ?_
  refine lv_bipush (v := iZ (56)) hx hb dW_lowest64_19 (by decide) ?_
  refine zr_lshl (n := 56) (P := 72057594037927936) hx hb (Nat.le_of_ble_eq_true rfl) (p2_56) dW_lowest64_21 ?_
  refine zc_l (y := lZ ((↑(wx d n 2) % 256) * 72057594037927936)) (lZ_congr (by omega)) ?_
  refine zr_lorC (n := 56) (P := 72057594037927936) hx hb p2_56 (by omega) (by omega) (by omega) (by omega) dW_lowest64_22 ?_
  refine lv_lstore_n (lv' := [(1, .long (lZ ((↑(wx d n 2) % 256) * 72057594037927936 + ((↑(wx d n 1)) * 268435456 + (↑(wx d n 0)))))), (0, .ref (B + k))]) hx hb dW_lowest64_23 rfl hl (by decide) rfl (fun ls hl => ?_)
  refine lv_aload_n hx hb dW_lowest64_24 rfl (lv_at hl 1 rfl) ?_
  refine zw_below hx hb ht hown hK hZ hk ev tw_39 dW_lowest64_25 ?_
  refine zr_if_eq (tgt := 36) hx hb (by have := bZ_01 b; omega) dW_lowest64_28 (by decide) (fun c_4 => ?_) (fun c_4 => ?_)
  · refine lv_lload_n hx hb dW_lowest64_36 rfl (lv_at hl 0 rfl) ?_
    exact hend 37 (_) v0 _ _ _ dW_lowest64_37 (⟨rfl, lZ_congr (by have h9 := hN1.2.2; rw [if_neg (show ¬ b = true by rw [show b = false from bZ_f.mp (by assumption)]; decide)] at h9; rw [h9]; exact hL)⟩) hZ hS
  · refine lv_lload_n hx hb dW_lowest64_31 rfl (lv_at hl 0 rfl) ?_
    refine zr_lneg hx hb dW_lowest64_32 ?_
    refine lv_goto (tgt := 37) hx hb dW_lowest64_33 (by decide) ?_
    exact hend 37 (_) v0 _ _ _ dW_lowest64_37 (⟨rfl, lZ_congr (by have h9 := hN1.2.2; rw [if_pos (show b = true from bZ_nf.mp (by assumption))] at h9; rw [h9]; exact neg_mod hL)⟩) hZ hS

set_option maxHeartbeats 4000000 in
set_option maxRecDepth 100000 in
theorem mW_becomePowerOfTwo (l : Launch) (E : zE) (B : Nat) (v0 : Nat → zV) (o : Nat → va_E) (k : Nat) (hk : lp k = true) (d : Nat → Nat) (n : Nat) (b : Bool) (ev : v0 k = (d, n, b)) (ex : Nat) (hex : ex < 4200) :
    Met l yW_becomePowerOfTwo (zws yW_becomePowerOfTwo cW_becomePowerOfTwo 3 none) { frames := 2, cells := 0, slots := 0, locals := 60 } (zPc E (zD E B v0 o) [.ref (B + k), .int (iZ (↑ex))]) (va_Qv (fun v : Nat → zV => (∀ j, j ≠ k → v j = v0 j) ∧ zN (v k) ((2 ^ ex : Nat) : Int)) (fun v t => zD E B v o t.heap ∧ zK E t) (zA B 80)) 0 0 (zA B 80) := by
  refine zof_v (by decide) (Nat.le_of_ble_eq_true rfl) fun p e R s m args below meth c Q ls hR hx hb hml ht hown hK hZ hl hend => ?_
  have hS : va_S (zA B 80) s.heap s.heap [] := va_S.rf
  have hown : s.vm.findClass "WholeDesk$Whole" = some m.cls := hown
  have hl : lv_has ls 3 [(0, .ref (B + k)), (1, .int (iZ (↑ex)))] := hl
  have hn : n ≤ 152 := by have := (hZ.2 k hk).2; rw [ev] at this; exact this
  have hd0 : ∀ i, d i < 268435456 := by have := (hZ.2 k hk).1; rw [ev] at this; exact this
  have fr : ∀ j, j ≠ k → v0 j = v0 j := fun j _ => rfl
  refine lv_aload_n hx hb dW_becomePowerOfTwo_0 rfl (lv_at hl 0 rfl) ?_
  refine lv_iconst (v := iZ (0)) hx hb dW_becomePowerOfTwo_1 (by decide) ?_
  rw [show (0 : Int) = ((0 : Nat) : Int) from rfl]
  refine zw_put_count (n1 := 0) hx hb ht hown hK hZ hk ev hS (by omega) tw_34 dW_becomePowerOfTwo_2 (fun v H locs ev ho hZ hS => ?_)
  have fr : ∀ j, j ≠ k → v j = v0 j := fun j h0 => (ho j h0).trans (fr j h0)
  refine lv_aload_n hx hb dW_becomePowerOfTwo_5 rfl (lv_at hl 0 rfl) ?_
  refine lv_iconst (v := iZ (0)) hx hb dW_becomePowerOfTwo_6 (by decide) ?_
  refine W.eq (g2 := F0 m 7 ls (.int (iZ (bZ false)) :: .ref (B + k) :: [])) rfl ?_
  refine zw_put_below (b1 := false) hx hb ht hown hK hZ hk ev hS tw_39 dW_becomePowerOfTwo_7 (fun v H locs ev ho hZ hS => ?_)
  have fr : ∀ j, j ≠ k → v j = v0 j := fun j h0 => (ho j h0).trans (fr j h0)
  refine lv_iload_n hx hb dW_becomePowerOfTwo_10 rfl (lv_at hl 1 rfl) ?_
  refine lv_bipush (v := iZ (28)) hx hb dW_becomePowerOfTwo_11 (by decide) ?_
  refine zr_idiv hx hb (by omega) (by omega) (by omega) (by omega) dW_becomePowerOfTwo_13 ?_
  refine zc_i (y := iZ (↑(ex / 28))) (congrArg iZ (Int.natCast_ediv _ _).symm) ?_
  refine lv_istore_n (lv' := [(2, .int (iZ (↑(ex / 28)))), (0, .ref (B + k)), (1, .int (iZ (↑ex)))]) hx hb dW_becomePowerOfTwo_14 rfl hl (by decide) rfl (fun ls hl => ?_)
  refine lv_aload_n hx hb dW_becomePowerOfTwo_15 rfl (lv_at hl 1 rfl) ?_
  refine lv_iload_n hx hb dW_becomePowerOfTwo_16 rfl (lv_at hl 0 rfl) ?_
  refine lv_iconst (v := iZ (1)) hx hb dW_becomePowerOfTwo_17 (by decide) ?_
  refine zr_iadd hx hb dW_becomePowerOfTwo_18 ?_
  refine zcV_v 1 (As := [.int (iZ ((↑(ex / 28)) + 1))]) (rest := []) rfl ⟨hx, hb, hml, hown, ht⟩ (mW_stretch l E B v o k hk d (0 : Nat) false ev ((↑(ex / 28)) + 1) (by omega)) tw_304 tw_301 tw_302 tw_303 tw_2 qW_stretch (by rw [hR]; decide) (zW_recv hK hZ hk) hZ hK hl.1 rfl rfl (Nat.le_of_ble_eq_true rfl) dW_becomePowerOfTwo_19 ⟨Nat.zero_le _, Nat.zero_le _⟩ hS (fun  v H locs hp hZ _ hS => ?_)
  obtain ⟨ho, d_2, n_1, ev, hn_1, hd_2lo, hd_2hi⟩ := hp
  have fr : ∀ j, j ≠ k → v j = v0 j := fun j h0 => (ho j h0).trans (fr j h0)
  refine lv_iload_n hx hb dW_becomePowerOfTwo_22 rfl (lv_at hl 0 rfl) ?_
  refine zr_if_lt (tgt := 46) hx hb (by omega) dW_becomePowerOfTwo_23 (by decide) (fun c_3 => ?_) (fun c_3 => ?_)
  · exfalso; omega
  · refine lv_iload_n hx hb dW_becomePowerOfTwo_26 rfl (lv_at hl 0 rfl) ?_
    refine lv_aload_n hx hb dW_becomePowerOfTwo_27 rfl (lv_at hl 1 rfl) ?_
    refine zw_count hx hb ht hown hK hZ hk ev tw_34 dW_becomePowerOfTwo_28 ?_
    refine zr_icmp_ge (tgt := 46) hx hb (by omega) (by omega) dW_becomePowerOfTwo_31 (by decide) (fun c_4 => ?_) (fun c_4 => ?_)
    · exfalso; omega
    · refine lv_aload_n hx hb dW_becomePowerOfTwo_34 rfl (lv_at hl 1 rfl) ?_
      refine zw_limbs hx hb ht hown hK hZ hk ev tw_31 dW_becomePowerOfTwo_35 ?_
      refine lv_iload_n hx hb dW_becomePowerOfTwo_38 rfl (lv_at hl 0 rfl) ?_
      refine lv_lconst (v := lZ (1)) hx hb dW_becomePowerOfTwo_39 (by decide) ?_
      refine lv_iload_n hx hb dW_becomePowerOfTwo_40 rfl (lv_at hl 2 rfl) ?_
      refine lv_bipush (v := iZ (28)) hx hb dW_becomePowerOfTwo_41 (by decide) ?_
      refine zr_irem hx hb (by omega) (by omega) (by omega) (by omega) dW_becomePowerOfTwo_43 ?_
      refine zc_i (y := iZ (↑(ex % 28))) (congrArg iZ (Int.natCast_emod _ _).symm) ?_
      refine zr_lshl (n := ex % 28) (P := ((2 ^ (ex % 28) : Nat) : Int)) hx hb (by omega) (rfl) dW_becomePowerOfTwo_44 ?_
      rw [show (1 * ((2 ^ (ex % 28) : Nat) : Int) : Int) = ((2 ^ (ex % 28) : Nat) : Int) from Int.one_mul _]
      refine zw_st (x := 2 ^ (ex % 28)) hx hb hK hZ hk ev hS (by omega) (by omega) (Nat.pow_lt_pow_right (a := 2) (by decide) (show ex % 28 < 28 by omega)) dW_becomePowerOfTwo_45 (fun v H locs ev ho hZ hS => ?_)
      rw [show (↑(ex / 28) : Int).toNat = ex / 28 from by omega] at ev
      have fr : ∀ j, j ≠ k → v j = v0 j := fun j h0 => (ho j h0).trans (fr j h0)
      exact hend 46 v _ _ _ dW_becomePowerOfTwo_46 (⟨fr, by
        rw [ev]
        have hn1 : n_1 = ex / 28 + 1 := by omega
        have hw := wv_set0 (d := d_2) (i := ex / 28) (n := n_1) (g := 2 ^ (ex % 28)) (by omega) (hd_2hi _ (Nat.zero_le _) (by omega))
        rw [wv_drop (d := d_2) (m := 0) (n := n_1) (Nat.zero_le _) hd_2hi, wv_0, Nat.zero_add, wP_two, ← Nat.pow_add, show ex % 28 + 28 * (ex / 28) = ex by omega] at hw
        refine ⟨fun _ => ?_, fun h => (by cases h), ?_⟩
        · show va_up d_2 (ex / 28) (2 ^ (ex % 28)) (n_1 - 1) ≠ 0
          rw [hn1, Nat.add_sub_cancel, va_up_self]
          have := Nat.two_pow_pos (ex % 28)
          omega
        · show _ = ((wv _ _ : Nat) : Int)
          rw [hw]⟩) hZ hS
end
section
/-- the Reckoner's object: its Wholes at 23, 25, .., answer and spare at an and sp -/
def zR (B an sp : Nat) : va_E := .inr (1, [.ref (B + 23), .ref (B + 25), .ref (B + an), .ref (B + sp), .ref (B + 31), .ref (B + 33), .ref (B + 35), .ref (B + 37), .ref (B + 39)])
/-- the array of powers -/
def zPw (E : zE) (B : Nat) : va_E := .inl (E.2.2.2.1, 16, .inr (.inr (.inr (.inr (fun i => some (B + (40 + 2 * i)))))))
/-- the other cells with the Reckoner's object and its array -/
def zo (E : zE) (B : Nat) (o : Nat → va_E) (an sp : Nat) : Nat → va_E := va_up (va_up o 39 (zPw E B)) 22 (zR B an sp)
theorem zo_22 (E : zE) (B : Nat) (o : Nat → va_E) (an sp : Nat) : zo E B o an sp 22 = zR B an sp := va_up_self _ _ _
theorem zo_39 (E : zE) (B : Nat) (o : Nat → va_E) (an sp : Nat) : zo E B o an sp 39 = zPw E B := by
  unfold zo
  rw [va_up_ne _ _ (by decide), va_up_self]
theorem zo_up (E : zE) (B : Nat) (o : Nat → va_E) (an sp an1 sp1 : Nat) : va_up (zo E B o an sp) 22 (zR B an1 sp1) = zo E B o an1 sp1 := bx_uu _ _ _ _
theorem lp_22 : ¬ lp 22 = true := by decide
theorem lp_21 : ¬ (1 ≤ 22 ∧ lp (22 - 1) = true) := by decide
theorem lp_39 : ¬ lp 39 = true := by decide
theorem lp_38 : ¬ (1 ≤ 39 ∧ lp (39 - 1) = true) := by decide
section ZKR
variable {p : Program} {l : Launch} {e : Env} {R : Room} {s : State} {m : MethodId} {args : Array Value} {below : List Frame} {meth : Method} {c : Code} {H : Heap} {locs : List Loc} {cells slots : Nat} {Q : State → Prop}
variable {cc : ByteArray} {pc : Nat} {ls : Array Slot} {rest : List Value} {E : zE} {B : Nat} {v : Nat → zV} {o : Nat → va_E} {H0 : Heap} {own : String} {index an sp : Nat}
theorem zk_quotient (hx : p.tables.exec = Jvm.exec) (hb : c.code = cc) (ht : ∀ w ∈ zt, w.before args s = true) (hown : s.vm.findClass own = some m.cls) (hK : zK E s) (hZ : zD E B v (zo E B o an sp) H) (hl : Cond.fieldLink own index "WholeDesk$Reckoner" "quotient" "LWholeDesk$Whole;" ∈ zt) (hd : decode cc pc = .ok (.getfield index, 3))
    (kk : W p l e R s m args below meth c H locs cells slots Q (F0 m (pc + 3) ls (.ref (B + 23) :: rest))) : W p l e R s m args below meth c H locs cells slots Q (F0 m pc ls (.ref (B + 22) :: rest)) :=
  va_get (D := E.1) (cl := zCl) (ci := 1) (C := "WholeDesk$Reckoner") (T := TK) (N := 9) hx hb ht inK hown hK hZ.1 22 (by rw [zB_at (by decide), zO_o lp_22 lp_21, zo_22]; rfl) rfl 0 (by decide) (ht _ hl) (fun _ h9 => h9) rfl hd kk
theorem zk_rest (hx : p.tables.exec = Jvm.exec) (hb : c.code = cc) (ht : ∀ w ∈ zt, w.before args s = true) (hown : s.vm.findClass own = some m.cls) (hK : zK E s) (hZ : zD E B v (zo E B o an sp) H) (hl : Cond.fieldLink own index "WholeDesk$Reckoner" "rest" "LWholeDesk$Whole;" ∈ zt) (hd : decode cc pc = .ok (.getfield index, 3))
    (kk : W p l e R s m args below meth c H locs cells slots Q (F0 m (pc + 3) ls (.ref (B + 25) :: rest))) : W p l e R s m args below meth c H locs cells slots Q (F0 m pc ls (.ref (B + 22) :: rest)) :=
  va_get (D := E.1) (cl := zCl) (ci := 1) (C := "WholeDesk$Reckoner") (T := TK) (N := 9) hx hb ht inK hown hK hZ.1 22 (by rw [zB_at (by decide), zO_o lp_22 lp_21, zo_22]; rfl) rfl 1 (by decide) (ht _ hl) (fun _ h9 => h9) rfl hd kk
theorem zk_answer (hx : p.tables.exec = Jvm.exec) (hb : c.code = cc) (ht : ∀ w ∈ zt, w.before args s = true) (hown : s.vm.findClass own = some m.cls) (hK : zK E s) (hZ : zD E B v (zo E B o an sp) H) (hl : Cond.fieldLink own index "WholeDesk$Reckoner" "answer" "LWholeDesk$Whole;" ∈ zt) (hd : decode cc pc = .ok (.getfield index, 3))
    (kk : W p l e R s m args below meth c H locs cells slots Q (F0 m (pc + 3) ls (.ref (B + an) :: rest))) : W p l e R s m args below meth c H locs cells slots Q (F0 m pc ls (.ref (B + 22) :: rest)) :=
  va_get (D := E.1) (cl := zCl) (ci := 1) (C := "WholeDesk$Reckoner") (T := TK) (N := 9) hx hb ht inK hown hK hZ.1 22 (by rw [zB_at (by decide), zO_o lp_22 lp_21, zo_22]; rfl) rfl 2 (by decide) (ht _ hl) (fun _ h9 => h9) rfl hd kk
theorem zk_spare (hx : p.tables.exec = Jvm.exec) (hb : c.code = cc) (ht : ∀ w ∈ zt, w.before args s = true) (hown : s.vm.findClass own = some m.cls) (hK : zK E s) (hZ : zD E B v (zo E B o an sp) H) (hl : Cond.fieldLink own index "WholeDesk$Reckoner" "spare" "LWholeDesk$Whole;" ∈ zt) (hd : decode cc pc = .ok (.getfield index, 3))
    (kk : W p l e R s m args below meth c H locs cells slots Q (F0 m (pc + 3) ls (.ref (B + sp) :: rest))) : W p l e R s m args below meth c H locs cells slots Q (F0 m pc ls (.ref (B + 22) :: rest)) :=
  va_get (D := E.1) (cl := zCl) (ci := 1) (C := "WholeDesk$Reckoner") (T := TK) (N := 9) hx hb ht inK hown hK hZ.1 22 (by rw [zB_at (by decide), zO_o lp_22 lp_21, zo_22]; rfl) rfl 3 (by decide) (ht _ hl) (fun _ h9 => h9) rfl hd kk
theorem zk_first (hx : p.tables.exec = Jvm.exec) (hb : c.code = cc) (ht : ∀ w ∈ zt, w.before args s = true) (hown : s.vm.findClass own = some m.cls) (hK : zK E s) (hZ : zD E B v (zo E B o an sp) H) (hl : Cond.fieldLink own index "WholeDesk$Reckoner" "first" "LWholeDesk$Whole;" ∈ zt) (hd : decode cc pc = .ok (.getfield index, 3))
    (kk : W p l e R s m args below meth c H locs cells slots Q (F0 m (pc + 3) ls (.ref (B + 31) :: rest))) : W p l e R s m args below meth c H locs cells slots Q (F0 m pc ls (.ref (B + 22) :: rest)) :=
  va_get (D := E.1) (cl := zCl) (ci := 1) (C := "WholeDesk$Reckoner") (T := TK) (N := 9) hx hb ht inK hown hK hZ.1 22 (by rw [zB_at (by decide), zO_o lp_22 lp_21, zo_22]; rfl) rfl 4 (by decide) (ht _ hl) (fun _ h9 => h9) rfl hd kk
theorem zk_second (hx : p.tables.exec = Jvm.exec) (hb : c.code = cc) (ht : ∀ w ∈ zt, w.before args s = true) (hown : s.vm.findClass own = some m.cls) (hK : zK E s) (hZ : zD E B v (zo E B o an sp) H) (hl : Cond.fieldLink own index "WholeDesk$Reckoner" "second" "LWholeDesk$Whole;" ∈ zt) (hd : decode cc pc = .ok (.getfield index, 3))
    (kk : W p l e R s m args below meth c H locs cells slots Q (F0 m (pc + 3) ls (.ref (B + 33) :: rest))) : W p l e R s m args below meth c H locs cells slots Q (F0 m pc ls (.ref (B + 22) :: rest)) :=
  va_get (D := E.1) (cl := zCl) (ci := 1) (C := "WholeDesk$Reckoner") (T := TK) (N := 9) hx hb ht inK hown hK hZ.1 22 (by rw [zB_at (by decide), zO_o lp_22 lp_21, zo_22]; rfl) rfl 5 (by decide) (ht _ hl) (fun _ h9 => h9) rfl hd kk
theorem zk_third (hx : p.tables.exec = Jvm.exec) (hb : c.code = cc) (ht : ∀ w ∈ zt, w.before args s = true) (hown : s.vm.findClass own = some m.cls) (hK : zK E s) (hZ : zD E B v (zo E B o an sp) H) (hl : Cond.fieldLink own index "WholeDesk$Reckoner" "third" "LWholeDesk$Whole;" ∈ zt) (hd : decode cc pc = .ok (.getfield index, 3))
    (kk : W p l e R s m args below meth c H locs cells slots Q (F0 m (pc + 3) ls (.ref (B + 35) :: rest))) : W p l e R s m args below meth c H locs cells slots Q (F0 m pc ls (.ref (B + 22) :: rest)) :=
  va_get (D := E.1) (cl := zCl) (ci := 1) (C := "WholeDesk$Reckoner") (T := TK) (N := 9) hx hb ht inK hown hK hZ.1 22 (by rw [zB_at (by decide), zO_o lp_22 lp_21, zo_22]; rfl) rfl 6 (by decide) (ht _ hl) (fun _ h9 => h9) rfl hd kk
theorem zk_fourth (hx : p.tables.exec = Jvm.exec) (hb : c.code = cc) (ht : ∀ w ∈ zt, w.before args s = true) (hown : s.vm.findClass own = some m.cls) (hK : zK E s) (hZ : zD E B v (zo E B o an sp) H) (hl : Cond.fieldLink own index "WholeDesk$Reckoner" "fourth" "LWholeDesk$Whole;" ∈ zt) (hd : decode cc pc = .ok (.getfield index, 3))
    (kk : W p l e R s m args below meth c H locs cells slots Q (F0 m (pc + 3) ls (.ref (B + 37) :: rest))) : W p l e R s m args below meth c H locs cells slots Q (F0 m pc ls (.ref (B + 22) :: rest)) :=
  va_get (D := E.1) (cl := zCl) (ci := 1) (C := "WholeDesk$Reckoner") (T := TK) (N := 9) hx hb ht inK hown hK hZ.1 22 (by rw [zB_at (by decide), zO_o lp_22 lp_21, zo_22]; rfl) rfl 7 (by decide) (ht _ hl) (fun _ h9 => h9) rfl hd kk
theorem zk_powers (hx : p.tables.exec = Jvm.exec) (hb : c.code = cc) (ht : ∀ w ∈ zt, w.before args s = true) (hown : s.vm.findClass own = some m.cls) (hK : zK E s) (hZ : zD E B v (zo E B o an sp) H) (hl : Cond.fieldLink own index "WholeDesk$Reckoner" "powers" "[LWholeDesk$Whole;" ∈ zt) (hd : decode cc pc = .ok (.getfield index, 3))
    (kk : W p l e R s m args below meth c H locs cells slots Q (F0 m (pc + 3) ls (.ref (B + 39) :: rest))) : W p l e R s m args below meth c H locs cells slots Q (F0 m pc ls (.ref (B + 22) :: rest)) :=
  va_get (D := E.1) (cl := zCl) (ci := 1) (C := "WholeDesk$Reckoner") (T := TK) (N := 9) hx hb ht inK hown hK hZ.1 22 (by rw [zB_at (by decide), zO_o lp_22 lp_21, zo_22]; rfl) rfl 8 (by decide) (ht _ hl) (fun _ h9 => h9) rfl hd kk
theorem zk_put_answer (hx : p.tables.exec = Jvm.exec) (hb : c.code = cc) (ht : ∀ w ∈ zt, w.before args s = true) (hown : s.vm.findClass own = some m.cls) (hK : zK E s) (hZ : zD E B v (zo E B o an sp) H) (hS : va_S (zA B 80) H0 H locs) {x : Nat} (hl : Cond.fieldLink own index "WholeDesk$Reckoner" "answer" "LWholeDesk$Whole;" ∈ zt) (hd : decode cc pc = .ok (.putfield index, 3))
    (kk : ∀ (H1 : Heap) (locs1 : List Loc), zD E B v (zo E B o x sp) H1 → va_S (zA B 80) H0 H1 locs1 → W p l e R s m args below meth c H1 locs1 cells slots Q (F0 m (pc + 3) ls rest)) : W p l e R s m args below meth c H locs cells slots Q (F0 m pc ls (.ref (B + x) :: .ref (B + 22) :: rest)) := by
  refine va_put (D := E.1) (cl := zCl) (ci := 1) (C := "WholeDesk$Reckoner") (T := TK) (N := 9) (ty := .object "WholeDesk$Whole") (fs := [.ref (B + 23), .ref (B + 25), .ref (B + an), .ref (B + sp), .ref (B + 31), .ref (B + 33), .ref (B + 35), .ref (B + 37), .ref (B + 39)]) hx hb ht inK tyK tyK_ok nmK hown hK hZ.1 (zB_DA B 80 _) hS 22 (by rw [zB_at (by decide), zO_o lp_22 lp_21, zo_22]; rfl) rfl 2 (by decide) (ht _ hl) (fun _ h9 => h9) rfl (by decide +kernel) rfl rfl (Nat.le_of_ble_eq_true rfl) hd fun H1 locs1 hP hD hS1 => ?_
  refine kk H1 locs1 ⟨?_, hZ.2⟩ hS1
  rw [zB_set (by decide), zO_upo lp_22 lp_21] at hP
  rw [← zo_up E B o an sp]
  exact hP
theorem zk_put_spare (hx : p.tables.exec = Jvm.exec) (hb : c.code = cc) (ht : ∀ w ∈ zt, w.before args s = true) (hown : s.vm.findClass own = some m.cls) (hK : zK E s) (hZ : zD E B v (zo E B o an sp) H) (hS : va_S (zA B 80) H0 H locs) {x : Nat} (hl : Cond.fieldLink own index "WholeDesk$Reckoner" "spare" "LWholeDesk$Whole;" ∈ zt) (hd : decode cc pc = .ok (.putfield index, 3))
    (kk : ∀ (H1 : Heap) (locs1 : List Loc), zD E B v (zo E B o an x) H1 → va_S (zA B 80) H0 H1 locs1 → W p l e R s m args below meth c H1 locs1 cells slots Q (F0 m (pc + 3) ls rest)) : W p l e R s m args below meth c H locs cells slots Q (F0 m pc ls (.ref (B + x) :: .ref (B + 22) :: rest)) := by
  refine va_put (D := E.1) (cl := zCl) (ci := 1) (C := "WholeDesk$Reckoner") (T := TK) (N := 9) (ty := .object "WholeDesk$Whole") (fs := [.ref (B + 23), .ref (B + 25), .ref (B + an), .ref (B + sp), .ref (B + 31), .ref (B + 33), .ref (B + 35), .ref (B + 37), .ref (B + 39)]) hx hb ht inK tyK tyK_ok nmK hown hK hZ.1 (zB_DA B 80 _) hS 22 (by rw [zB_at (by decide), zO_o lp_22 lp_21, zo_22]; rfl) rfl 3 (by decide) (ht _ hl) (fun _ h9 => h9) rfl (by decide +kernel) rfl rfl (Nat.le_of_ble_eq_true rfl) hd fun H1 locs1 hP hD hS1 => ?_
  refine kk H1 locs1 ⟨?_, hZ.2⟩ hS1
  rw [zB_set (by decide), zO_upo lp_22 lp_21] at hP
  rw [← zo_up E B o an sp]
  exact hP
theorem zk_pw (hx : p.tables.exec = Jvm.exec) (hb : c.code = cc) (hK : zK E s) (hZ : zD E B v (zo E B o an sp) H) {i : Nat} (hi : i < 16) (hd : decode cc pc = .ok (.aaload, 1))
    (kk : W p l e R s m args below meth c H locs cells slots Q (F0 m (pc + 1) ls (.ref (B + (40 + 2 * i)) :: rest))) : W p l e R s m args below meth c H locs cells slots Q (F0 m pc ls (.int (iZ i) :: .ref (B + 39) :: rest)) := by
  refine va_aldq (D := E.1) (cl := zCl) (cA := E.2.2.2.1) (C := "WholeDesk$Whole") (n := 16) (f := fun i => some (B + (40 + 2 * i))) hx hb hK hZ.1 39 2 (by rw [zB_at (by decide), zO_o lp_39 lp_38, zo_39]; rfl) rfl (iZ_in ⟨by omega, by omega⟩ (by omega) (by omega)) hd ?_
  rw [iZ_clamp ⟨by omega, by omega⟩, Int.toNat_natCast]
  exact kk
end ZKR
theorem zK_recv {E : zE} {B : Nat} {v : Nat → zV} {o : Nat → va_E} {an sp : Nat} {H : Heap} {s : State} (hK : zK E s) (hZ : zD E B v (zo E B o an sp) H) : ∃ cellB : Cell, H[B + 22]? = some cellB ∧ cellB.vm.isStatics = false ∧ s.vm.findClass "WholeDesk$Reckoner" = some cellB.cls :=
  va_recv (q := ("WholeDesk$Reckoner", TK, 9)) hK hZ.1 (ci := 1) (q0 := 22) rfl (by rw [zB_at (by decide), zO_o lp_22 lp_21, zo_22]; rfl)
theorem zof_r {l : Launch} {y : MethodName} {cc : ByteArray} {maxL fr lo : Nat} {E : zE} {P : Heap → Prop} {S : Type} {post : S → Prop} {P' : S → Nat → Heap → Prop} {A : Nat → Prop} {av : List Value} {C : String} (hy : plainName y.cls = true) (hlen : (lg_sl av).length ≤ maxL)
    (body : ∀ (p : Program) (e : Env) (R : Room) (s : State) (m : MethodId) (args : Array Value) (below : List Frame) (meth : Method) (c : Code) (Q : State → Prop) (ls : Array Slot), R = { frames := fr, cells := 0, slots := 0, locals := lo } → p.tables.exec = Jvm.exec → c.code = cc → c.maxLocals = maxL → (∀ w ∈ zt, w.before args s = true) → s.vm.findClass y.cls = some m.cls → zK E s → P s.heap → lv_has ls maxL (lv_args 0 av) →
      (∀ (pc : Nat) (u : S) (a : Nat) (H : Heap) (locs : List Loc) (ls : Array Slot), decode cc pc = .ok (.areturn, 1) → post u → P' u a H → va_S A s.heap H locs → W p l e R s m args below meth c H locs 0 0 Q (F0 m pc ls [.ref a])) → W p l e R s m args below meth c s.heap [] 0 0 Q (F0 m 0 ls [])) :
    Met l y (zws y cc maxL (some (.object C))) { frames := fr, cells := 0, slots := 0, locals := lo } (zPc E P av) (va_Qr post (fun u a t => P' u a t.heap ∧ zK E t) A) 0 0 A := by
  refine Met.ofW (cc := cc) (maxL := maxL) (ret := some (.object C)) hy rfl ?_
  intro p e s m args below meth c s₁ BB hml hv
  obtain ⟨rfl, hZ, hK⟩ := hv
  have hlocks := BB.notSynchronized
  have hl := lv_entry av (n := maxL) hlen
  rw [lg_entry_eq]
  refine body p e _ s m _ below meth c _ _ rfl BB.exec BB.bytes hml (fun w h => atoms_spec (ws := zws y cc maxL (some (.object C))) BB.pre w (List.mem_cons_of_mem _ h)) (findClass_of_methodNamed BB.named) hK hZ hl ?_
  intro pc u a H locs ls hd hp hP hS
  exact W.aret (v := .ref a) BB.exec BB.bytes BB.returns (Or.inl ⟨C, rfl⟩) (Or.inr ⟨a, rfl⟩) (fun t ht9 hW9 => ⟨⟨u, a, rfl, hp, by rw [ht9]; exact hP, va_K.moved hW9.alike hK⟩, hS.F ht9⟩) hS.2.2 hd hlocks
theorem zcV_r {p : Program} {l : Launch} {e : Env} {R : Room} {s : State} {m : MethodId} {args : Array Value} {below : List Frame} {meth : Method} {c : Code} {H : Heap} {locs : List Loc} {cells slots : Nat} {Q : State → Prop} {cc : ByteArray} {pc : Nat} {ls : Array Slot} {rest st : List Value} {E : zE} {H0 : Heap} {own : String} {index maxL nL fr lo : Nat} {y : MethodName} {bytes : ByteArray} {ret : Option FieldType} {S : Type} {post : S → Prop} {P : Heap → Prop} {P' : S → Nat → Heap → Prop} {A : Nat → Prop} (n : Nat) {C : String} {a : Nat} {As av : List Value} (hav : av = .ref a :: As) (F : CallFix p m c cc nL s args zt own) (hM : Met l y (zws y bytes maxL ret) { frames := fr, cells := 0, slots := 0, locals := lo } (zPc E P av) (va_Qr post (fun u a t => P' u a t.heap ∧ zK E t) A) 0 0 A) (hcode : Cond.code y bytes maxL ret ∈ zt) (hlink : Cond.methodLink own index y ∈ zt) (hinst : Cond.instanceMethod y ∈ zt) (hsel : Cond.selects C y y ∈ zt) (hini : Cond.initialized y.cls ∈ zt) (hd : y.cls ≠ "java/lang/invoke/MethodHandle" ∧ y.cls ≠ "java/lang/invoke/VarHandle" ∧ (parseMethodDescriptor y.desc).map (fun d => d.parameters.length) = some n) (hR : fr + 1 ≤ R.frames ∧ 8 + (maxL + 11) + lo ≤ R.locals)
    (hrecv : ∃ cellB : Cell, H[a]? = some cellB ∧ cellB.vm.isStatics = false ∧ s.vm.findClass C = some cellB.cls) (hP : P H) (hK : zK E s) (hsize : ls.size = nL) (hst : st = As.reverse ++ .ref a :: rest) (hn : As.length = n) (hroom : (rest.map fun v => v.category).sum ≤ 8) (hdg : decode cc pc = .ok (.invokevirtual index, 3)) (hf : cells ≤ R.cells ∧ slots ≤ R.slots) (hS : va_S A H0 H locs)
    (kk : ∀ (u : S) (r : Nat) (H1 : Heap) (locs1 : List Loc), post u → P' u r H1 → H1.size ≥ H.size → va_S A H0 H1 locs1 → W p l e R s m args below meth c H1 locs1 cells slots Q (F0 m (pc + 3) ls (.ref r :: rest))) : W p l e R s m args below meth c H locs cells slots Q (F0 m pc ls st) := by
  subst hav
  have ht := F.2.2.2.2
  have cb : CallB R s args own index y bytes maxL ret (zws y bytes maxL ret) { frames := fr, cells := 0, slots := 0, locals := lo } 0 0 n := callB_of n ht (good_zws hcode) rfl rfl rfl (ht _ hini) (ht _ hlink) hd hR
  exact va_callr (va_runV (As := As) (rest := rest) (b := a) F hM ⟨cb, ht _ hinst, ht _ hsel⟩ ⟨zPc_blind E P _, hrecv, zPc_pre hP hK⟩ rfl hn hsize hst (lv_room hroom) hdg hf) hS (fun _ _ h => h) (fun _ h => h) (fun u r t H1 locs1 ht1 hvm hw hB hz1 hk1 hS1 => kk u r H1 locs1 hw (by rw [← ht1]; exact hB.1) hz1 hS1)
/-! from limbs to values -/
theorem zN_copy {w : zV} {d1 : Nat → Nat} {x : Int} (h : zN w x) (hd : ∀ i, i < w.2.1 → d1 i = w.1 i) : zN (d1, w.2.1, w.2.2) x := by
  obtain ⟨h1, h2, h3⟩ := h
  refine ⟨fun hn => ?_, h2, ?_⟩
  · show d1 (w.2.1 - 1) ≠ 0
    have hn1 : w.2.1 ≠ 0 := hn
    rw [hd _ (by omega)]
    exact h1 hn
  · rw [h3]
    show (if w.2.2 = true then -(wv w.1 w.2.1 : Int) else (wv w.1 w.2.1 : Int)) = if w.2.2 = true then -(wv d1 w.2.1 : Int) else (wv d1 w.2.1 : Int)
    rw [wv_congr hd]
theorem zN_sgn {w : zV} {x : Int} (h : zN w x) (t : Nat) : (if w.2.2 = true then -(t : Int) else (t : Int)) = if x < 0 then -(t : Int) else (t : Int) := by
  by_cases hx : x < 0
  · rw [if_pos ((zN_neg h).mpr hx), if_pos hx]
  · rw [if_neg (fun h9 => hx ((zN_neg h).mp h9)), if_neg hx]
theorem zN_len {w : zV} {x : Int} (hd : ∀ i, w.1 i < 268435456) (h : zN w x) {k : Nat} : w.2.1 ≤ k ↔ x.natAbs < wP k := by rw [zN_abs h]; exact nz_le hd h.1
theorem zN_mul {w1 w2 : zV} {x y : Int} (h1 : zN w1 x) (h2 : zN w2 y) : (if (w1.2.2 != w2.2.2) = true then -((wv w1.1 w1.2.1 * wv w2.1 w2.2.1 : Nat) : Int) else ((wv w1.1 w1.2.1 * wv w2.1 w2.2.1 : Nat) : Int)) = x * y := by
  obtain ⟨-, -, e1⟩ := h1
  obtain ⟨-, -, e2⟩ := h2
  rw [e1, e2, Int.natCast_mul]
  cases w1.2.2 <;> cases w2.2.2 <;> simp [Int.neg_mul, Int.mul_neg]
theorem zN_mulroom {w1 w2 : zV} {x y : Int} (hd1 : ∀ i, w1.1 i < 268435456) (hd2 : ∀ i, w2.1 i < 268435456) (hn1 : w1.2.1 ≤ 152) (hn2 : w2.2.1 ≤ 152) (h1 : zN w1 x) (h2 : zN w2 y) (hb : x.natAbs * y.natAbs < wP 150) : w1.2.1 + w2.2.1 ≤ 152 := by
  rw [zN_abs h1, zN_abs h2] at hb
  by_cases e1 : w1.2.1 = 0
  · omega
  · by_cases e2 : w2.2.1 = 0
    · omega
    · have a1 := wv_ge (h1.1 e1)
      have a2 := wv_ge (h2.1 e2)
      rw [show w1.2.1 - 1 + 1 = w1.2.1 by omega] at a1
      rw [show w2.2.1 - 1 + 1 = w2.2.1 by omega] at a2
      have a3 := Nat.mul_le_mul a1 a2
      rw [← wP_add] at a3
      rcases Nat.lt_or_ge 150 (w1.2.1 - 1 + (w2.2.1 - 1)) with h | h
      · have := wP_mono (Nat.le_of_lt h)
        omega
      · omega
theorem zN_div {w w2 : zV} {x y : Int} {q r0 : Nat} (h1 : zN w x) (h2 : zN w2 y) (e : wv w.1 w.2.1 = q * wv w2.1 w2.2.1 + r0) (hr : r0 < wv w2.1 w2.2.1) : q = x.natAbs / y.natAbs ∧ r0 = x.natAbs % y.natAbs := by
  rw [← zN_abs h1, ← zN_abs h2] at e
  rw [← zN_abs h2] at hr
  rw [e, Nat.add_comm, Nat.mul_comm]
  exact ⟨by rw [Nat.add_mul_div_left _ _ (by omega), Nat.div_eq_of_lt hr, Nat.zero_add], by rw [Nat.add_mul_mod_self_left, Nat.mod_eq_of_lt hr]⟩
theorem zN_rest {w : zV} {x : Int} (h : zN w x) (m : Int) : (if w.2.2 = true then -((x.natAbs % m.natAbs : Nat) : Int) else ((x.natAbs % m.natAbs : Nat) : Int)) = x.tmod m := by
  rw [zN_sgn h]
  by_cases hx : x < 0
  · rw [if_pos hx]
    obtain ⟨a, ha⟩ : ∃ a : Nat, x = -(a : Int) := ⟨x.natAbs, by omega⟩
    subst ha
    rw [Int.neg_tmod, Int.natAbs_neg, Int.natAbs_natCast]
    congr 1
    rcases Int.natAbs_eq m with h9 | h9 <;> rw [h9] <;> simp [Int.tmod_neg] <;> exact (Int.tmod_eq_emod_of_nonneg (by omega)).symm
  · rw [if_neg hx]
    obtain ⟨a, ha⟩ : ∃ a : Nat, x = (a : Int) := ⟨x.natAbs, by omega⟩
    subst ha
    rw [Int.natAbs_natCast]
    rcases Int.natAbs_eq m with h9 | h9 <;> rw [h9] <;> simp [Int.tmod_neg] <;> exact (Int.tmod_eq_emod_of_nonneg (by omega)).symm
theorem s_l : ∀ n, n < 32 → ((nI n &&& 31).toBitVec.smod 32).toNat = n := by decide +kernel
theorem zr_ishr {p : Program} {l : Launch} {e : Env} {R : Room} {s : State} {m : MethodId} {args : Array Value} {below : List Frame} {meth : Method} {c : Code} {H : Heap} {locs : List Loc} {cells slots : Nat} {Q : State → Prop} {cc : ByteArray} {pc : Nat} {ls : Array Slot} {rest : List Value} (hx : p.tables.exec = Jvm.exec) (hb : c.code = cc) {z k : Nat} (h : z < 2147483648) (hk : k < 32) (hd : decode cc pc = .ok (.ishr, 1)) (kk : W p l e R s m args below meth c H locs cells slots Q (F0 m (pc + 1) ls (.int (iZ ((z / 2 ^ k : Nat) : Int)) :: rest))) : W p l e R s m args below meth c H locs cells slots Q (F0 m pc ls (.int (iZ k) :: .int (iZ z) :: rest)) := lv_ishr hx hb hd (by rw [← iZ_nI, ← iZ_nI, pk_shrN h _ k (s_l k hk), iZ_nI]; exact kk)
theorem zr_iand {p : Program} {l : Launch} {e : Env} {R : Room} {s : State} {m : MethodId} {args : Array Value} {below : List Frame} {meth : Method} {c : Code} {H : Heap} {locs : List Loc} {cells slots : Nat} {Q : State → Prop} {cc : ByteArray} {pc : Nat} {ls : Array Slot} {rest : List Value} (hx : p.tables.exec = Jvm.exec) (hb : c.code = cc) {z : Nat} {M : Int32} (k : Nat) (h : z < 4294967296) (hM : M.toBitVec.toNat = 2 ^ k - 1) (hd : decode cc pc = .ok (.iand, 1)) (kk : W p l e R s m args below meth c H locs cells slots Q (F0 m (pc + 1) ls (.int (iZ ((z % 2 ^ k : Nat) : Int)) :: rest))) : W p l e R s m args below meth c H locs cells slots Q (F0 m pc ls (.int M :: .int (iZ z) :: rest)) := lv_iand hx hb hd (by rw [← iZ_nI, pk_andN h k hM, iZ_nI]; exact kk)
/-- sizes that have room; words that omega does not open -/
def sm (x : Int) : Prop := x.natAbs < wP 151
def smm (x y : Int) : Prop := x.natAbs * y.natAbs < wP 150
end
section
set_option maxHeartbeats 4000000 in
set_option maxRecDepth 100000 in
theorem mK_product (l : Launch) (E : zE) (B : Nat) (v0 : Nat → zV) (o : Nat → va_E) (an0 sp0 : Nat) (hA0 : (an0 = 27 ∧ sp0 = 29) ∨ (an0 = 29 ∧ sp0 = 27)) (a : Nat) (hla : lp a = true) (x : Int) (hVx : zN (v0 a) x) (b : Nat) (hlb : lp b = true) (y : Int) (hVy : zN (v0 b) y) (ha : a ≠ an0) (hb9 : b ≠ an0) (hxy : smm x y) :
    Met l yK_product (zws yK_product cK_product 3 (some (.object "WholeDesk$Whole"))) { frames := 2, cells := 0, slots := 0, locals := 64 } (zPc E (zD E B v0 (zo E B o an0 sp0)) [.ref (B + 22), .ref (B + a), .ref (B + b)]) (va_Qr (fun u : (Nat → zV) × Nat × Nat × Nat => (∀ j, j ≠ an0 → u.1 j = v0 j) ∧ u.2.1 = an0 ∧ u.2.2.1 = sp0 ∧ u.2.2.2 = an0 ∧ zN (u.1 an0) (x * y)) (fun (u : (Nat → zV) × Nat × Nat × Nat) a t => (a = B + u.2.2.2 ∧ zD E B u.1 (zo E B o u.2.1 u.2.2.1) t.heap) ∧ zK E t) (zA B 80)) 0 0 (zA B 80) := by
  refine zof_r (P' := fun (u : (Nat → zV) × Nat × Nat × Nat) a H => a = B + u.2.2.2 ∧ zD E B u.1 (zo E B o u.2.1 u.2.2.1) H) (by decide) (Nat.le_of_ble_eq_true rfl) fun p e R s m args below meth c Q ls hR hx hb hml ht hown hK hZ hl hend => ?_
  have hS : va_S (zA B 80) s.heap s.heap [] := va_S.rf
  have hown : s.vm.findClass "WholeDesk$Reckoner" = some m.cls := hown
  have hl : lv_has ls 3 [(0, .ref (B + 22)), (1, .ref (B + a)), (2, .ref (B + b))] := hl
  have hlan : lp an0 = true := by rw [lp_iff]; omega
  have hlsp : lp sp0 = true := by rw [lp_iff]; omega
  have ne_0_1 : an0 ≠ a := by omega
  have ne_0_2 : an0 ≠ b := by omega
  have ne_1_0 : a ≠ an0 := by omega
  have ne_2_0 : b ≠ an0 := by omega
  have fr : ∀ j, j ≠ an0 → v0 j = v0 j := fun j _ => rfl
  refine lv_aload_n hx hb dK_product_0 rfl (lv_at hl 0 rfl) ?_
  refine zk_answer hx hb ht hown hK hZ tw_63 dK_product_1 ?_
  refine lv_aload_n hx hb dK_product_4 rfl (lv_at hl 1 rfl) ?_
  refine lv_aload_n hx hb dK_product_5 rfl (lv_at hl 2 rfl) ?_
  refine zcV_v 2 (As := [.ref (B + a), .ref (B + b)]) (rest := []) rfl ⟨hx, hb, hml, hown, ht⟩ (mW_becomeProduct l E B v0 (zo E B o an0 sp0) an0 hlan (v0 an0).1 (v0 an0).2.1 (v0 an0).2.2 rfl a hla (v0 a).1 (v0 a).2.1 (v0 a).2.2 rfl b hlb (v0 b).1 (v0 b).2.1 (v0 b).2.2 rfl ne_1_0 ne_2_0 (zN_mulroom (hZ.2 a hla).1 (hZ.2 b hlb).1 (hZ.2 a hla).2 (hZ.2 b hlb).2 hVx hVy (hxy))) tw_399 tw_396 tw_397 tw_398 tw_2 qW_becomeProduct (by rw [hR]; decide) (zW_recv hK hZ hlan) hZ hK hl.1 rfl rfl (Nat.le_of_ble_eq_true rfl) dK_product_6 ⟨Nat.zero_le _, Nat.zero_le _⟩ hS (fun v H locs hp hZ _ hS => ?_)
  obtain ⟨ho, hN9⟩ := hp
  rw [zN_mul hVx hVy] at hN9
  have hVx : zN (v a) (x) := by rw [ho _ ne_1_0]; exact hVx
  have hVy : zN (v b) (y) := by rw [ho _ ne_2_0]; exact hVy
  have fr : ∀ j, j ≠ an0 → v j = v0 j := fun j h0 => (ho j h0).trans (fr j h0)
  have hNan : zN (v an0) ((x) * (y)) := hN9
  refine lv_aload_n hx hb dK_product_9 rfl (lv_at hl 0 rfl) ?_
  refine zk_answer hx hb ht hown hK hZ tw_63 dK_product_10 ?_
  exact hend 13 (v, an0, sp0, an0) _ _ _ _ dK_product_13 (⟨fr, rfl, rfl, rfl, hNan⟩) ⟨rfl, hZ⟩ hS

theorem tmod_res {x m : Int} (hm : 0 < m) (h : x.tmod m < 0) : ((m.natAbs : Nat) : Int) - (((x.tmod m).natAbs : Nat) : Int) = x % m := by
  have h1 := Int.emod_nonneg x (show m ≠ 0 by omega)
  have h2 := Int.emod_lt_of_pos x hm
  have h3 : x = m * x.tdiv m + x.tmod m := (Int.mul_tdiv_add_tmod x m).symm
  have h4 : x = m * (x / m) + x % m := (Int.mul_ediv_add_emod x m).symm
  have h5 : -m < x.tmod m := by
    have := Int.natAbs_tmod x m
    have h6 := Nat.mod_lt x.natAbs (show 0 < m.natAbs by omega)
    omega
  have h7 : m * (x / m - x.tdiv m) = x.tmod m - x % m := by rw [Int.mul_sub]; omega
  have h8 : x / m - x.tdiv m = -1 := by
    rcases Int.lt_trichotomy (x / m - x.tdiv m) (-1) with h9 | h9 | h9
    · have := Int.mul_le_mul_of_nonneg_left (show x / m - x.tdiv m ≤ -2 by omega) (show 0 ≤ m by omega)
      omega
    · exact h9
    · have := Int.mul_le_mul_of_nonneg_left (show 0 ≤ x / m - x.tdiv m by omega) (show 0 ≤ m by omega)
      omega
  rw [h8] at h7
  omega
theorem tmod_res0 {x m : Int} (hm : 0 < m) (h : ¬ x.tmod m < 0) : x.tmod m = x % m := by
  by_cases hx : 0 ≤ x
  · exact Int.tmod_eq_emod_of_nonneg hx
  · have h0 : x.tmod m = 0 := by
      have : x.tmod m ≤ 0 := by
        have h9 := Int.neg_tmod (-x) m
        rw [Int.neg_neg] at h9
        have := Int.tmod_nonneg m (show 0 ≤ -x by omega)
        omega
      omega
    rw [h0]
    exact (Int.emod_eq_zero_of_dvd (Int.dvd_of_tmod_eq_zero h0)).symm
set_option maxHeartbeats 4000000 in
set_option maxRecDepth 100000 in
theorem mK_residue (l : Launch) (E : zE) (B : Nat) (v0 : Nat → zV) (o : Nat → va_E) (an0 sp0 : Nat) (hA0 : (an0 = 27 ∧ sp0 = 29) ∨ (an0 = 29 ∧ sp0 = 27)) (a : Nat) (hla : lp a = true) (x : Int) (hVx : zN (v0 a) x) (b : Nat) (hlb : lp b = true) (y : Int) (hVy : zN (v0 b) y) (ha : a ≠ 23 ∧ a ≠ 25) (hb9 : b ≠ 23 ∧ b ≠ 25) (hy0 : 0 < y) (hxb : sm x) :
    Met l yK_residue (zws yK_residue cK_residue 3 (some (.object "WholeDesk$Whole"))) { frames := 4, cells := 0, slots := 0, locals := 140 } (zPc E (zD E B v0 (zo E B o an0 sp0)) [.ref (B + 22), .ref (B + a), .ref (B + b)]) (va_Qr (fun u : (Nat → zV) × Nat × Nat × Nat => (∀ j, j ≠ 23 → j ≠ 25 → u.1 j = v0 j) ∧ (u.2.1 = an0 ∧ u.2.2.1 = sp0) ∧ u.2.2.2 = 25 ∧ zN (u.1 25) (x % y)) (fun (u : (Nat → zV) × Nat × Nat × Nat) a t => (a = B + u.2.2.2 ∧ zD E B u.1 (zo E B o u.2.1 u.2.2.1) t.heap) ∧ zK E t) (zA B 80)) 0 0 (zA B 80) := by
  refine zof_r (P' := fun (u : (Nat → zV) × Nat × Nat × Nat) a H => a = B + u.2.2.2 ∧ zD E B u.1 (zo E B o u.2.1 u.2.2.1) H) (by decide) (Nat.le_of_ble_eq_true rfl) fun p e R s m args below meth c Q ls hR hx hb hml ht hown hK hZ hl hend => ?_
  have hS : va_S (zA B 80) s.heap s.heap [] := va_S.rf
  have hown : s.vm.findClass "WholeDesk$Reckoner" = some m.cls := hown
  have hl : lv_has ls 3 [(0, .ref (B + 22)), (1, .ref (B + a)), (2, .ref (B + b))] := hl
  have hlan : lp an0 = true := by rw [lp_iff]; omega
  have hlsp : lp sp0 = true := by rw [lp_iff]; omega
  have ne_0_2 : 25 ≠ a := by omega
  have ne_0_3 : 25 ≠ b := by omega
  have ne_1_2 : 23 ≠ a := by omega
  have ne_1_3 : 23 ≠ b := by omega
  have ne_2_0 : a ≠ 25 := by omega
  have ne_2_1 : a ≠ 23 := by omega
  have ne_3_0 : b ≠ 25 := by omega
  have ne_3_1 : b ≠ 23 := by omega
  have fr : ∀ j, j ≠ 23 → j ≠ 25 → v0 j = v0 j := fun j _ _ => rfl
  refine lv_aload_n hx hb dK_residue_0 rfl (lv_at hl 0 rfl) ?_
  refine zk_rest hx hb ht hown hK hZ tw_61 dK_residue_1 ?_
  refine lv_aload_n hx hb dK_residue_4 rfl (lv_at hl 1 rfl) ?_
  refine zcV_v 1 (As := [.ref (B + a)]) (rest := []) rfl ⟨hx, hb, hml, hown, ht⟩ (mW_copy l E B v0 (zo E B o an0 sp0) 25 (by decide) (v0 25).1 (v0 25).2.1 (v0 25).2.2 rfl a hla (v0 a).1 (v0 a).2.1 (v0 a).2.2 rfl ne_2_0) tw_345 tw_368 tw_343 tw_344 tw_2 qW_copy (by rw [hR]; decide) (zW_recv hK hZ (by decide)) hZ hK hl.1 rfl rfl (Nat.le_of_ble_eq_true rfl) dK_residue_5 ⟨Nat.zero_le _, Nat.zero_le _⟩ hS (fun v H locs hp hZ _ hS => ?_)
  obtain ⟨ho, d9, ev9, hd9⟩ := hp
  have hN9 : zN (v 25) (x) := by rw [ev9]; exact zN_copy hVx hd9
  have hVx : zN (v a) (x) := by rw [ho _ ne_2_0]; exact hVx
  have hVy : zN (v b) (y) := by rw [ho _ ne_3_0]; exact hVy
  have fr : ∀ j, j ≠ 23 → j ≠ 25 → v j = v0 j := fun j h0 h1 => (ho j h1).trans (fr j h0 h1)
  have hN25 : zN (v 25) (x) := hN9
  refine lv_aload_n hx hb dK_residue_8 rfl (lv_at hl 0 rfl) ?_
  refine zk_rest hx hb ht hown hK hZ tw_61 dK_residue_9 ?_
  refine lv_aload_n hx hb dK_residue_12 rfl (lv_at hl 2 rfl) ?_
  refine lv_aload_n hx hb dK_residue_13 rfl (lv_at hl 0 rfl) ?_
  refine zk_quotient hx hb ht hown hK hZ tw_59 dK_residue_14 ?_
  refine zcV_v 2 (As := [.ref (B + b), .ref (B + 23)]) (rest := []) rfl ⟨hx, hb, hml, hown, ht⟩ (mW_divideOut l E B v (zo E B o an0 sp0) 25 (by decide) (v 25).1 (v 25).2.1 (v 25).2.2 rfl b hlb (v b).1 (v b).2.1 (v b).2.2 rfl 23 (by decide) (v 23).1 (v 23).2.1 (v 23).2.2 rfl ne_3_0 (by decide) ne_1_3 hN25.1 hN25.2.1 ((zN_len (hZ.2 25 (by decide)).1 hN25).mpr (hxb)) (fun h9 => absurd ((zN_0 hVy).mp h9) (by omega)) hVy.1) tw_415 tw_412 tw_413 tw_414 tw_2 qW_divideOut (by rw [hR]; decide) (zW_recv hK hZ (by decide)) hZ hK hl.1 rfl rfl (Nat.le_of_ble_eq_true rfl) dK_residue_17 ⟨Nat.zero_le _, Nat.zero_le _⟩ hS (fun v H locs hp hZ _ hS => ?_)
  obtain ⟨ho, q9, r9, he9, hr9, hN8, hN9⟩ := hp
  obtain ⟨e8, e9⟩ := zN_div hN25 hVy he9 hr9
  rw [e8] at hN8
  rw [e9, zN_rest hN25] at hN9
  have hVx : zN (v a) (x) := by rw [ho _ ne_2_0 ne_2_1]; exact hVx
  have hVy : zN (v b) (y) := by rw [ho _ ne_3_0 ne_3_1]; exact hVy
  have fr : ∀ j, j ≠ 23 → j ≠ 25 → v j = v0 j := fun j h0 h1 => (ho j h1 h0).trans (fr j h0 h1)
  have hN23 : zN (v 23) ((((x).natAbs / (y).natAbs : Nat) : Int)) := hN8
  have hN25 : zN (v 25) ((x).tmod (y)) := hN9
  refine lv_aload_n hx hb dK_residue_20 rfl (lv_at hl 0 rfl) ?_
  refine zk_rest hx hb ht hown hK hZ tw_61 dK_residue_21 ?_
  refine zw_below (d := (v 25).1) (n := (v 25).2.1) (b := (v 25).2.2) hx hb ht hown hK hZ (by decide) rfl tw_38 dK_residue_24 ?_
  refine zr_if_eq (tgt := 38) hx hb (by have := bZ_01 (v 25).2.2; omega) dK_residue_27 (by decide) (fun c_1 => ?_) (fun c_1 => ?_)
  · have hneg : ¬ x.tmod y < 0 := fun h9 => by have h8 := (zN_neg hN25).mpr h9; have h7 := bZ_t.mpr h8; omega
    refine lv_aload_n hx hb dK_residue_38 rfl (lv_at hl 0 rfl) ?_
    refine zk_rest hx hb ht hown hK hZ tw_61 dK_residue_39 ?_
    exact hend 42 (v, an0, sp0, 25) _ _ _ _ dK_residue_42 (⟨fr, ⟨rfl, rfl⟩, rfl, by rw [← tmod_res0 hy0 hneg]; exact hN25⟩) ⟨rfl, hZ⟩ hS
  · have hneg : x.tmod y < 0 := (zN_neg hN25).mp (bZ_nf.mp (by assumption))
    refine lv_aload_n hx hb dK_residue_30 rfl (lv_at hl 0 rfl) ?_
    refine zk_rest hx hb ht hown hK hZ tw_61 dK_residue_31 ?_
    refine lv_aload_n hx hb dK_residue_34 rfl (lv_at hl 2 rfl) ?_
    refine zcV_v 1 (As := [.ref (B + b)]) (rest := []) rfl ⟨hx, hb, hml, hown, ht⟩ (mW_becomeLackTo l E B v (zo E B o an0 sp0) 25 (by decide) (v 25).1 (v 25).2.1 (v 25).2.2 rfl b hlb (v b).1 (v b).2.1 (v b).2.2 rfl ne_3_0 (by rw [← zN_abs hN25, ← zN_abs hVy]; rw [Int.natAbs_tmod]; exact Nat.le_of_lt (Nat.mod_lt _ (by omega)))) tw_383 tw_380 tw_381 tw_382 tw_2 qW_becomeLackTo (by rw [hR]; decide) (zW_recv hK hZ (by decide)) hZ hK hl.1 rfl rfl (Nat.le_of_ble_eq_true rfl) dK_residue_35 ⟨Nat.zero_le _, Nat.zero_le _⟩ hS (fun v H locs hp hZ _ hS => ?_)
    obtain ⟨ho, hN9⟩ := hp
    rw [← zN_abs hVy, ← zN_abs hN25] at hN9
    have hN23 : zN (v 23) ((((x).natAbs / (y).natAbs : Nat) : Int)) := by rw [ho _ (by decide)]; exact hN23
    have hVx : zN (v a) (x) := by rw [ho _ ne_2_0]; exact hVx
    have hVy : zN (v b) (y) := by rw [ho _ ne_3_0]; exact hVy
    have fr : ∀ j, j ≠ 23 → j ≠ 25 → v j = v0 j := fun j h0 h1 => (ho j h1).trans (fr j h0 h1)
    have hN25 : zN (v 25) ((((y).natAbs : Nat) : Int) - ((((x).tmod (y)).natAbs : Nat) : Int)) := hN9
    refine lv_aload_n hx hb dK_residue_38 rfl (lv_at hl 0 rfl) ?_
    refine zk_rest hx hb ht hown hK hZ tw_61 dK_residue_39 ?_
    exact hend 42 (v, an0, sp0, 25) _ _ _ _ dK_residue_42 (⟨fr, ⟨rfl, rfl⟩, rfl, by rw [← tmod_res hy0 hneg]; exact hN25⟩) ⟨rfl, hZ⟩ hS

set_option maxHeartbeats 4000000 in
set_option maxRecDepth 100000 in
theorem mK_times (l : Launch) (E : zE) (B : Nat) (v0 : Nat → zV) (o : Nat → va_E) (an0 sp0 : Nat) (hA0 : (an0 = 27 ∧ sp0 = 29) ∨ (an0 = 29 ∧ sp0 = 27)) (x : Int) (hNx : zN (v0 an0) x) (b : Nat) (hlb : lp b = true) (y : Int) (hVy : zN (v0 b) y) (hb9 : b ≠ sp0) (hxy : smm x y) :
    Met l yK_times (zws yK_times cK_times 3 none) { frames := 2, cells := 0, slots := 0, locals := 64 } (zPc E (zD E B v0 (zo E B o an0 sp0)) [.ref (B + 22), .ref (B + b)]) (va_Qv (fun u : (Nat → zV) × Nat × Nat × Nat => (∀ j, j ≠ 27 → j ≠ 29 → u.1 j = v0 j) ∧ (u.2.1 = sp0 ∧ u.2.2.1 = an0) ∧ zN (u.1 sp0) (x * y)) (fun (u : (Nat → zV) × Nat × Nat × Nat) t => zD E B u.1 (zo E B o u.2.1 u.2.2.1) t.heap ∧ zK E t) (zA B 80)) 0 0 (zA B 80) := by
  refine zof_v (P' := fun (u : (Nat → zV) × Nat × Nat × Nat) H => zD E B u.1 (zo E B o u.2.1 u.2.2.1) H) (by decide) (Nat.le_of_ble_eq_true rfl) fun p e R s m args below meth c Q ls hR hx hb hml ht hown hK hZ hl hend => ?_
  have hS : va_S (zA B 80) s.heap s.heap [] := va_S.rf
  have hown : s.vm.findClass "WholeDesk$Reckoner" = some m.cls := hown
  have hl : lv_has ls 3 [(0, .ref (B + 22)), (1, .ref (B + b))] := hl
  have hlan : lp an0 = true := by rw [lp_iff]; omega
  have hlsp : lp sp0 = true := by rw [lp_iff]; omega
  have ne_0_1 : an0 ≠ sp0 := by omega
  have ne_1_0 : sp0 ≠ an0 := by omega
  have ne_1_2 : sp0 ≠ b := by omega
  have ne_2_1 : b ≠ sp0 := by omega
  have fn_0 : ∀ j, j ≠ 27 → j ≠ 29 → j ≠ an0 := by omega
  have fn_1 : ∀ j, j ≠ 27 → j ≠ 29 → j ≠ sp0 := by omega
  have fr : ∀ j, j ≠ 27 → j ≠ 29 → v0 j = v0 j := fun j _ _ => rfl
  refine lv_aload_n hx hb dK_times_0 rfl (lv_at hl 0 rfl) ?_
  refine zk_spare hx hb ht hown hK hZ tw_64 dK_times_1 ?_
  refine lv_aload_n hx hb dK_times_4 rfl (lv_at hl 0 rfl) ?_
  refine zk_answer hx hb ht hown hK hZ tw_63 dK_times_5 ?_
  refine lv_aload_n hx hb dK_times_8 rfl (lv_at hl 1 rfl) ?_
  refine zcV_v 2 (As := [.ref (B + an0), .ref (B + b)]) (rest := []) rfl ⟨hx, hb, hml, hown, ht⟩ (mW_becomeProduct l E B v0 (zo E B o an0 sp0) sp0 hlsp (v0 sp0).1 (v0 sp0).2.1 (v0 sp0).2.2 rfl an0 hlan (v0 an0).1 (v0 an0).2.1 (v0 an0).2.2 rfl b hlb (v0 b).1 (v0 b).2.1 (v0 b).2.2 rfl ne_0_1 ne_2_1 (zN_mulroom (hZ.2 an0 hlan).1 (hZ.2 b hlb).1 (hZ.2 an0 hlan).2 (hZ.2 b hlb).2 hNx hVy (hxy))) tw_399 tw_396 tw_397 tw_398 tw_2 qW_becomeProduct (by rw [hR]; decide) (zW_recv hK hZ hlsp) hZ hK hl.1 rfl rfl (Nat.le_of_ble_eq_true rfl) dK_times_9 ⟨Nat.zero_le _, Nat.zero_le _⟩ hS (fun v H locs hp hZ _ hS => ?_)
  obtain ⟨ho, hN9⟩ := hp
  rw [zN_mul hNx hVy] at hN9
  have hNx : zN (v an0) (x) := by rw [ho _ ne_0_1]; exact hNx
  have hVy : zN (v b) (y) := by rw [ho _ ne_2_1]; exact hVy
  have fr : ∀ j, j ≠ 27 → j ≠ 29 → v j = v0 j := fun j h0 h1 => (ho j (fn_1 j h0 h1)).trans (fr j h0 h1)
  have hNsp : zN (v sp0) ((x) * (y)) := hN9
  refine lv_aload_n hx hb dK_times_12 rfl (lv_at hl 0 rfl) ?_
  refine zk_spare hx hb ht hown hK hZ tw_64 dK_times_13 ?_
  refine lv_astore_n (lv' := [(2, .ref (B + sp0)), (0, .ref (B + 22)), (1, .ref (B + b))]) hx hb dK_times_16 rfl hl (by decide) rfl (fun ls hl => ?_)
  refine lv_aload_n hx hb dK_times_17 rfl (lv_at hl 1 rfl) ?_
  refine lv_aload_n hx hb dK_times_18 rfl (lv_at hl 1 rfl) ?_
  refine zk_answer hx hb ht hown hK hZ tw_63 dK_times_19 ?_
  refine zk_put_spare (x := an0) hx hb ht hown hK hZ hS tw_64 dK_times_22 (fun H locs hZ hS => ?_)
  refine lv_aload_n hx hb dK_times_25 rfl (lv_at hl 1 rfl) ?_
  refine lv_aload_n hx hb dK_times_26 rfl (lv_at hl 0 rfl) ?_
  refine zk_put_answer (x := sp0) hx hb ht hown hK hZ hS tw_63 dK_times_27 (fun H locs hZ hS => ?_)
  exact hend 30 (v, sp0, an0, 0) _ _ _ dK_times_30 (⟨fr, ⟨rfl, rfl⟩, hNsp⟩) hZ hS
end
section
theorem smm_sm {x y : Int} (h : smm x y) : (x * y).natAbs < wP 151 := by
  rw [Int.natAbs_mul]
  exact Nat.lt_of_lt_of_le h (wP_mono (by decide))
set_option maxHeartbeats 4000000 in
set_option maxRecDepth 100000 in
theorem mK_timesModulo (l : Launch) (E : zE) (B : Nat) (v0 : Nat → zV) (o : Nat → va_E) (an0 sp0 : Nat) (hA0 : (an0 = 27 ∧ sp0 = 29) ∨ (an0 = 29 ∧ sp0 = 27)) (x : Int) (hNx : zN (v0 an0) x) (b : Nat) (hlb : lp b = true) (y : Int) (hVy : zN (v0 b) y) (m9 : Nat) (hlm9 : lp m9 = true) (z : Int) (hVz : zN (v0 m9) z) (hb9 : b ≠ sp0) (hm9 : m9 ≠ 23 ∧ m9 ≠ 27 ∧ m9 ≠ 29) (hz0 : z ≠ 0) (hxy : smm x y) :
    Met l yK_timesModulo (zws yK_timesModulo cK_timesModulo 3 none) { frames := 4, cells := 0, slots := 0, locals := 140 } (zPc E (zD E B v0 (zo E B o an0 sp0)) [.ref (B + 22), .ref (B + b), .ref (B + m9)]) (va_Qv (fun u : (Nat → zV) × Nat × Nat × Nat => (∀ j, j ≠ 23 → j ≠ 27 → j ≠ 29 → u.1 j = v0 j) ∧ (u.2.1 = sp0 ∧ u.2.2.1 = an0) ∧ zN (u.1 sp0) ((x * y).tmod z)) (fun (u : (Nat → zV) × Nat × Nat × Nat) t => zD E B u.1 (zo E B o u.2.1 u.2.2.1) t.heap ∧ zK E t) (zA B 80)) 0 0 (zA B 80) := by
  refine zof_v (P' := fun (u : (Nat → zV) × Nat × Nat × Nat) H => zD E B u.1 (zo E B o u.2.1 u.2.2.1) H) (by decide) (Nat.le_of_ble_eq_true rfl) fun p e R s m args below meth c Q ls hR hx hb hml ht hown hK hZ hl hend => ?_
  have hS : va_S (zA B 80) s.heap s.heap [] := va_S.rf
  have hown : s.vm.findClass "WholeDesk$Reckoner" = some m.cls := hown
  have hl : lv_has ls 3 [(0, .ref (B + 22)), (1, .ref (B + b)), (2, .ref (B + m9))] := hl
  have hlan : lp an0 = true := by rw [lp_iff]; omega
  have hlsp : lp sp0 = true := by rw [lp_iff]; omega
  have ne_0_1 : an0 ≠ sp0 := by omega
  have ne_0_2 : an0 ≠ 23 := by omega
  have ne_0_4 : an0 ≠ m9 := by omega
  have ne_1_0 : sp0 ≠ an0 := by omega
  have ne_1_2 : sp0 ≠ 23 := by omega
  have ne_1_3 : sp0 ≠ b := by omega
  have ne_1_4 : sp0 ≠ m9 := by omega
  have ne_2_0 : 23 ≠ an0 := by omega
  have ne_2_1 : 23 ≠ sp0 := by omega
  have ne_2_4 : 23 ≠ m9 := by omega
  have ne_3_1 : b ≠ sp0 := by omega
  have ne_4_0 : m9 ≠ an0 := by omega
  have ne_4_1 : m9 ≠ sp0 := by omega
  have ne_4_2 : m9 ≠ 23 := by omega
  have fn_0 : ∀ j, j ≠ 23 → j ≠ 27 → j ≠ 29 → j ≠ an0 := by omega
  have fn_1 : ∀ j, j ≠ 23 → j ≠ 27 → j ≠ 29 → j ≠ sp0 := by omega
  have fr : ∀ j, j ≠ 23 → j ≠ 27 → j ≠ 29 → v0 j = v0 j := fun j _ _ _ => rfl
  refine lv_aload_n hx hb dK_timesModulo_0 rfl (lv_at hl 0 rfl) ?_
  refine lv_aload_n hx hb dK_timesModulo_1 rfl (lv_at hl 1 rfl) ?_
  refine zcV_v 1 (As := [.ref (B + b)]) (rest := []) rfl ⟨hx, hb, hml, hown, ht⟩ (mK_times l E B v0 o an0 sp0 hA0 (x) hNx b hlb (y) hVy ne_3_1 (hxy)) tw_462 tw_459 tw_461 tp_6 tw_3 qK_times (by rw [hR]; decide) (zK_recv hK hZ) hZ hK hl.1 rfl rfl (Nat.le_of_ble_eq_true rfl) dK_timesModulo_2 ⟨Nat.zero_le _, Nat.zero_le _⟩ hS (fun u H locs hp hZ _ hS => ?_)
  obtain ⟨v, a9, s9, o9⟩ := u
  obtain ⟨ho, ⟨e8, e9⟩, hN9⟩ := hp
  dsimp only at ho e8 e9 hN9 hZ
  rw [e8, e9] at hZ
  have hVz : zN (v m9) (z) := by rw [ho _ (by omega) (by omega)]; exact hVz
  have fr : ∀ j, j ≠ 23 → j ≠ 27 → j ≠ 29 → v j = v0 j := fun j h0 h1 h2 => (ho j h1 h2).trans (fr j h0 h1 h2)
  have hNx : zN (v sp0) ((x) * (y)) := hN9
  have hA9 : (sp0 = 27 ∧ an0 = 29) ∨ (sp0 = 29 ∧ an0 = 27) := by omega
  refine lv_aload_n hx hb dK_timesModulo_5 rfl (lv_at hl 0 rfl) ?_
  refine zk_answer hx hb ht hown hK hZ tw_63 dK_timesModulo_6 ?_
  refine lv_aload_n hx hb dK_timesModulo_9 rfl (lv_at hl 2 rfl) ?_
  refine lv_aload_n hx hb dK_timesModulo_10 rfl (lv_at hl 0 rfl) ?_
  refine zk_quotient hx hb ht hown hK hZ tw_59 dK_timesModulo_11 ?_
  refine zcV_v 2 (As := [.ref (B + m9), .ref (B + 23)]) (rest := []) rfl ⟨hx, hb, hml, hown, ht⟩ (mW_divideOut l E B v (zo E B o sp0 an0) sp0 hlsp (v sp0).1 (v sp0).2.1 (v sp0).2.2 rfl m9 hlm9 (v m9).1 (v m9).2.1 (v m9).2.2 rfl 23 (by decide) (v 23).1 (v 23).2.1 (v 23).2.2 rfl ne_4_1 ne_2_1 ne_2_4 hNx.1 hNx.2.1 ((zN_len (hZ.2 sp0 hlsp).1 hNx).mpr (smm_sm hxy)) (fun h9 => absurd ((zN_0 hVz).mp h9) (hz0)) hVz.1) tw_415 tw_412 tw_413 tw_414 tw_2 qW_divideOut (by rw [hR]; decide) (zW_recv hK hZ hlsp) hZ hK hl.1 rfl rfl (Nat.le_of_ble_eq_true rfl) dK_timesModulo_14 ⟨Nat.zero_le _, Nat.zero_le _⟩ hS (fun v H locs hp hZ _ hS => ?_)
  obtain ⟨ho, q9, r9, he9, hr9, hN8, hN9⟩ := hp
  obtain ⟨e8, e9⟩ := zN_div hNx hVz he9 hr9
  rw [e8] at hN8
  rw [e9, zN_rest hNx] at hN9
  have hVz : zN (v m9) (z) := by rw [ho _ ne_4_1 ne_4_2]; exact hVz
  have fr : ∀ j, j ≠ 23 → j ≠ 27 → j ≠ 29 → v j = v0 j := fun j h0 h1 h2 => (ho j (fn_1 j h0 h1 h2) h0).trans (fr j h0 h1 h2)
  have hN23 : zN (v 23) (((((x) * (y)).natAbs / (z).natAbs : Nat) : Int)) := hN8
  have hNx : zN (v sp0) (((x) * (y)).tmod (z)) := hN9
  exact hend 17 (v, sp0, an0, 0) _ _ _ dK_timesModulo_17 (⟨fr, ⟨rfl, rfl⟩, hNx⟩) hZ hS

/-- powers that have room -/
def smp (x : Int) (n : Nat) : Prop := x.natAbs ^ n < wP 149
theorem smp_mul {x : Int} {n i j : Nat} (h : smp x n) (hij : i + j ≤ n) : smm (x ^ i) (x ^ j) := by
  unfold smm
  rw [Int.natAbs_pow, Int.natAbs_pow, ← Nat.pow_add]
  refine Nat.lt_of_le_of_lt ?_ (Nat.lt_of_lt_of_le (Nat.max_lt.mpr ⟨h, Nat.lt_of_lt_of_le (show 1 < wP 1 by decide) (wP_mono (show 1 ≤ 149 by decide))⟩) (wP_mono (show 149 ≤ 150 by decide)))
  rcases Nat.eq_zero_or_pos x.natAbs with h0 | h0
  · rw [h0]
    refine Nat.le_trans ?_ (Nat.le_max_right _ 1)
    rcases Nat.eq_zero_or_pos (i + j) with h1 | h1
    · rw [h1]; exact Nat.le_refl 1
    · rw [Nat.zero_pow h1]; exact Nat.zero_le _
  · exact Nat.le_trans (Nat.pow_le_pow_right h0 hij) (Nat.le_max_left _ _)
theorem pow_half {x : Int} {n i : Nat} (hi : 1 ≤ i) : x ^ (n / 2 ^ i) * x ^ (n / 2 ^ i) = x ^ (2 * (n / 2 ^ i)) ∧ 2 * (n / 2 ^ i) + n / 2 ^ (i - 1) % 2 = n / 2 ^ (i - 1) ∧ n / 2 ^ (i - 1) ≤ n := by
  refine ⟨by rw [← Int.pow_add]; congr 1; omega, ?_, Nat.div_le_self _ _⟩
  obtain ⟨k, rfl⟩ : ∃ k, i = k + 1 := ⟨i - 1, by omega⟩
  rw [Nat.pow_succ, ← Nat.div_div_eq_div_mul, Nat.add_sub_cancel]
  omega
set_option maxHeartbeats 4000000 in
set_option maxRecDepth 100000 in
theorem mK_raised (l : Launch) (E : zE) (B : Nat) (v0 : Nat → zV) (o : Nat → va_E) (an0 sp0 : Nat) (hA0 : (an0 = 27 ∧ sp0 = 29) ∨ (an0 = 29 ∧ sp0 = 27)) (a : Nat) (hla : lp a = true) (x : Int) (hVx : zN (v0 a) x) (ha : a ≠ 27 ∧ a ≠ 29) (n : Nat) (hn : n < 2147483648) (hsp : smp x n) :
    Met l yK_raised (zws yK_raised cK_raised 4 (some (.object "WholeDesk$Whole"))) { frames := 3, cells := 0, slots := 0, locals := 92 } (zPc E (zD E B v0 (zo E B o an0 sp0)) [.ref (B + 22), .ref (B + a), .int (iZ (↑n))]) (va_Qr (fun u : (Nat → zV) × Nat × Nat × Nat => (∀ j, j ≠ 27 → j ≠ 29 → u.1 j = v0 j) ∧ ((u.2.1 = 27 ∧ u.2.2.1 = 29) ∨ (u.2.1 = 29 ∧ u.2.2.1 = 27)) ∧ u.2.2.2 = u.2.1 ∧ zN (u.1 u.2.1) (x ^ n)) (fun (u : (Nat → zV) × Nat × Nat × Nat) a t => (a = B + u.2.2.2 ∧ zD E B u.1 (zo E B o u.2.1 u.2.2.1) t.heap) ∧ zK E t) (zA B 80)) 0 0 (zA B 80) := by
  refine zof_r (P' := fun (u : (Nat → zV) × Nat × Nat × Nat) a H => a = B + u.2.2.2 ∧ zD E B u.1 (zo E B o u.2.1 u.2.2.1) H) (by decide) (Nat.le_of_ble_eq_true rfl) fun p e R s m args below meth c Q ls hR hx hb hml ht hown hK hZ hl hend => ?_
  have hS : va_S (zA B 80) s.heap s.heap [] := va_S.rf
  have hown : s.vm.findClass "WholeDesk$Reckoner" = some m.cls := hown
  have hl : lv_has ls 4 [(0, .ref (B + 22)), (1, .ref (B + a)), (2, .int (iZ (↑n)))] := hl
  have hlan : lp an0 = true := by rw [lp_iff]; omega
  have hlsp : lp sp0 = true := by rw [lp_iff]; omega
  have ne_0_1 : an0 ≠ sp0 := by omega
  have ne_0_2 : an0 ≠ a := by omega
  have ne_1_0 : sp0 ≠ an0 := by omega
  have ne_1_2 : sp0 ≠ a := by omega
  have ne_2_0 : a ≠ an0 := by omega
  have ne_2_1 : a ≠ sp0 := by omega
  have fn_0 : ∀ j, j ≠ 27 → j ≠ 29 → j ≠ an0 := by omega
  have fn_1 : ∀ j, j ≠ 27 → j ≠ 29 → j ≠ sp0 := by omega
  have fr : ∀ j, j ≠ 27 → j ≠ 29 → v0 j = v0 j := fun j _ _ => rfl
  refine lv_aload_n hx hb dK_raised_0 rfl (lv_at hl 0 rfl) ?_
  refine zk_answer hx hb ht hown hK hZ tw_63 dK_raised_1 ?_
  refine lv_lconst (v := lZ (1)) hx hb dK_raised_4 (by decide) ?_
  refine zcV_v 1 (As := [.long (lZ (1))]) (rest := []) rfl ⟨hx, hb, hml, hown, ht⟩ (mW_become l E B v0 (zo E B o an0 sp0) an0 hlan (v0 an0).1 (v0 an0).2.1 (v0 an0).2.2 rfl (1) (by omega)) tw_290 tw_458 tw_288 tw_289 tw_2 qW_become (by rw [hR]; decide) (zW_recv hK hZ hlan) hZ hK hl.1 rfl rfl (Nat.le_of_ble_eq_true rfl) dK_raised_5 ⟨Nat.zero_le _, Nat.zero_le _⟩ hS (fun v H locs hp hZ _ hS => ?_)
  obtain ⟨ho, hN9⟩ := hp
  have hVx : zN (v a) (x) := by rw [ho _ ne_2_0]; exact hVx
  have fr : ∀ j, j ≠ 27 → j ≠ 29 → v j = v0 j := fun j h0 h1 => (ho j (fn_0 j h0 h1)).trans (fr j h0 h1)
  have hNan : zN (v an0) (1) := hN9
  refine lv_bipush (v := iZ (30)) hx hb dK_raised_8 (by decide) ?_
  refine lv_istore_n (lv' := [(3, .int (iZ (30))), (0, .ref (B + 22)), (1, .ref (B + a)), (2, .int (iZ (↑n)))]) hx hb dK_raised_10 rfl hl (by decide) rfl (fun ls hl => ?_)
  have L11 : ∀ (fu : Nat) (i : Nat) (an sp : Nat) (v : Nat → zV) (H : Heap) (locs : List Loc) (ls : Array Slot), i < fu → ((an = 27 ∧ sp = 29) ∨ (an = 29 ∧ sp = 27)) → (i ≤ 31) → zN (v an) (x ^ (n / 2 ^ i)) → zN (v a) (x) → (∀ j, j ≠ 27 → j ≠ 29 → v j = v0 j) → zD E B v (zo E B o an sp) H → va_S (zA B 80) s.heap H locs → lv_has ls 4 [(0, .ref (B + 22)), (1, .ref (B + a)), (2, .int (iZ (↑n))), (3, .int (iZ (↑i - 1)))] → W p l e R s m args below meth c H locs 0 0 Q (F0 m 11 ls []) := by
    intro fu
    induction fu with
    | zero => intro i an sp v H locs ls hm; exact absurd hm (Nat.not_lt_zero _)
    | succ fu ihL11 =>
      intro i an sp v H locs ls hm hA9 hi hNan hVx fr hZ hS hl
      have hlan : lp an = true := by rw [lp_iff]; omega
      have hlsp : lp sp = true := by rw [lp_iff]; omega
      have nx_a_an : a ≠ an := by omega
      have nx_a_sp : a ≠ sp := by omega
      have nx_an_sp : an ≠ sp := by omega
      refine lv_iload_n hx hb dK_raised_11 rfl (lv_at hl 3 rfl) ?_
      refine zr_if_lt (tgt := 42) hx hb (by omega) dK_raised_12 (by decide) (fun c_1 => ?_) (fun c_1 => ?_)
      · have hi0 : i = 0 := by omega
        rw [hi0, Nat.pow_zero, Nat.div_one] at hNan
        refine lv_aload_n hx hb dK_raised_42 rfl (lv_at hl 0 rfl) ?_
        refine zk_answer hx hb ht hown hK hZ tw_63 dK_raised_43 ?_
        exact hend 46 (v, an, sp, an) _ _ _ _ dK_raised_46 (⟨fr, hA9, rfl, hNan⟩) ⟨rfl, hZ⟩ hS
      · have hph := pow_half (x := x) (n := n) (i := i) (by omega)
        refine lv_aload_n hx hb dK_raised_15 rfl (lv_at hl 0 rfl) ?_
        refine lv_aload_n hx hb dK_raised_16 rfl (lv_at hl 0 rfl) ?_
        refine zk_answer hx hb ht hown hK hZ tw_63 dK_raised_17 ?_
        refine zcV_v 1 (As := [.ref (B + an)]) (rest := []) rfl ⟨hx, hb, hml, hown, ht⟩ (mK_times l E B v o an sp hA9 (x ^ (n / 2 ^ i)) hNan an hlan (x ^ (n / 2 ^ i)) hNan nx_an_sp (smp_mul hsp (by omega))) tw_462 tw_459 tw_461 tp_6 tw_3 qK_times (by rw [hR]; decide) (zK_recv hK hZ) hZ hK hl.1 rfl rfl (Nat.le_of_ble_eq_true rfl) dK_raised_20 ⟨Nat.zero_le _, Nat.zero_le _⟩ hS (fun u H locs hp hZ _ hS => ?_)
        obtain ⟨v, a9, s9, o9⟩ := u
        obtain ⟨ho, ⟨e8, e9⟩, hN9⟩ := hp
        dsimp only at ho e8 e9 hN9 hZ
        rw [e8, e9] at hZ
        have hVx : zN (v a) (x) := by rw [ho _ (by omega) (by omega)]; exact hVx
        have fr : ∀ j, j ≠ 27 → j ≠ 29 → v j = v0 j := fun j h0 h1 => (ho j h0 h1).trans (fr j h0 h1)
        have hNan : zN (v sp) ((x ^ (n / 2 ^ i)) * (x ^ (n / 2 ^ i))) := hN9
        have hA9 : (sp = 27 ∧ an = 29) ∨ (sp = 29 ∧ an = 27) := by omega
        refine lv_iload_n hx hb dK_raised_23 rfl (lv_at hl 2 rfl) ?_
        refine lv_iload_n hx hb dK_raised_24 rfl (lv_at hl 3 rfl) ?_
        refine zc_i (y := iZ ↑(i - 1)) (congrArg iZ (by omega)) ?_
        refine zr_ishr hx hb hn (by omega) dK_raised_25 ?_
        refine lv_iconst (v := iZ (1)) hx hb dK_raised_26 (by decide) ?_
        have hle9 := hph.2.2
        refine zr_iand hx hb 1 (by omega) rfl dK_raised_27 ?_
        refine zr_if_eq (tgt := 36) hx hb (by omega) dK_raised_28 (by decide) (fun c_2 => ?_) (fun c_2 => ?_)
        · refine lv_iinc (v := iZ (↑i - 1 - 1)) (lv' := [(3, .int (iZ (↑i - 1 - 1))), (0, .ref (B + 22)), (1, .ref (B + a)), (2, .int (iZ (↑n)))]) hx hb dK_raised_36 hl (k := 3) rfl (iZ_dec _ _) (by decide) rfl (fun ls hl => ?_)
          refine lv_goto (tgt := 11) hx hb dK_raised_39 (by decide) ?_
          rw [show (↑i - 1 - 1 : Int) = ↑(i - 1) - 1 from by omega] at hl
          exact ihL11 (i - 1) sp an v _ _ _ (by omega) hA9 (by omega) (by have e9 : n / 2 ^ (i - 1) = 2 * (n / 2 ^ i) := (by omega); rw [e9, ← hph.1]; exact hNan) hVx fr hZ hS (lv_sub hl [1, 2, 3, 0] rfl)
        · refine lv_aload_n hx hb dK_raised_31 rfl (lv_at hl 0 rfl) ?_
          refine lv_aload_n hx hb dK_raised_32 rfl (lv_at hl 1 rfl) ?_
          refine zcV_v 1 (As := [.ref (B + a)]) (rest := []) rfl ⟨hx, hb, hml, hown, ht⟩ (mK_times l E B v o sp an hA9 ((x ^ (n / 2 ^ i)) * (x ^ (n / 2 ^ i))) hNan a hla (x) hVx nx_a_an (by have h9 := smp_mul (i := 2 * (n / 2 ^ i)) (j := 1) hsp (by omega); rw [Int.pow_one, ← hph.1] at h9; exact h9)) tw_462 tw_459 tw_461 tp_6 tw_3 qK_times (by rw [hR]; decide) (zK_recv hK hZ) hZ hK hl.1 rfl rfl (Nat.le_of_ble_eq_true rfl) dK_raised_33 ⟨Nat.zero_le _, Nat.zero_le _⟩ hS (fun u H locs hp hZ _ hS => ?_)
          obtain ⟨v, a9, s9, o9⟩ := u
          obtain ⟨ho, ⟨e8, e9⟩, hN9⟩ := hp
          dsimp only at ho e8 e9 hN9 hZ
          rw [e8, e9] at hZ
          have hVx : zN (v a) (x) := by rw [ho _ (by omega) (by omega)]; exact hVx
          have fr : ∀ j, j ≠ 27 → j ≠ 29 → v j = v0 j := fun j h0 h1 => (ho j h0 h1).trans (fr j h0 h1)
          have hNan : zN (v an) (((x ^ (n / 2 ^ i)) * (x ^ (n / 2 ^ i))) * (x)) := hN9
          have hA9 : (an = 27 ∧ sp = 29) ∨ (an = 29 ∧ sp = 27) := by omega
          refine lv_iinc (v := iZ (↑i - 1 - 1)) (lv' := [(3, .int (iZ (↑i - 1 - 1))), (0, .ref (B + 22)), (1, .ref (B + a)), (2, .int (iZ (↑n)))]) hx hb dK_raised_36 hl (k := 3) rfl (iZ_dec _ _) (by decide) rfl (fun ls hl => ?_)
          refine lv_goto (tgt := 11) hx hb dK_raised_39 (by decide) ?_
          rw [show (↑i - 1 - 1 : Int) = ↑(i - 1) - 1 from by omega] at hl
          exact ihL11 (i - 1) an sp v _ _ _ (by omega) hA9 (by omega) (by have e9 : n / 2 ^ (i - 1) = 2 * (n / 2 ^ i) + 1 := (by omega); rw [e9, Int.pow_succ, ← hph.1]; exact hNan) hVx fr hZ hS (lv_sub hl [1, 2, 3, 0] rfl)
  exact L11 _ 31 an0 sp0 v _ _ _ (Nat.lt_succ_self _) hA0 (by omega) (by rw [Nat.div_eq_of_lt hn, Int.pow_zero]; exact hNan) hVx fr hZ hS (lv_sub hl [1, 2, 3, 0] rfl)
end
