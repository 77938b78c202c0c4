theorem zox_l {l : Launch} {y : MethodName} {cc : ByteArray} {maxL fr lo mc ms : Nat} {E : zE} {P : Heap → Prop} {S SX : Type} {post : Int64 → S → Prop} {P' : S → Heap → Prop} {px : SX → Prop} {BX : String → SX → Heap → Prop} {A : Nat → Prop} {av : List Value} (hl0 : l.stackTraces = false) (hmono : ∀ (C : String) (u : SX) (H H1 : Heap), H.size ≤ H1.size → (∀ q : Nat, q < H.size → H1[q]? = H[q]?) → BX C u H → BX C u H1) (hy : plainName y.cls = true) (hlen : (lg_sl av).length ≤ maxL)
    (body : ∀ (p : Program) (e : Env) (R : Room) (s : State) (m : MethodId) (args : Array Value) (below : List Frame) (meth : Method) (c : Code) (Q : State → Prop) (ls : Array Slot), R = { frames := fr, cells := mc, slots := ms, locals := lo } → p.tables.exec = Jvm.exec → c.code = cc → c.maxLocals = maxL → (∀ w ∈ zt, w.before args s = true) → s.vm.findClass y.cls = some m.cls → zK E s → P s.heap → zH A s s.heap → lv_has ls maxL (lv_args 0 av) →
      (∀ (pc : Nat) (r : Int64) (u : S) (H : Heap) (locs : List Loc) (cells slots : Nat) (ls : Array Slot), cells ≤ mc ∧ slots ≤ ms → decode cc pc = .ok (.lreturn, 1) → post r u → P' u H → va_S A s.heap H locs → W p l e R s m args below meth c H locs cells slots Q (F0 m pc ls [.long r])) →
      zThr px BX A mc ms maxL cc p l e R s m args below meth c Q → zPas px BX A mc ms p l e R s m args below meth c Q → W p l e R s m args below meth c s.heap [] 0 0 Q (F0 m 0 ls [])) :
    vx_Met l y (zws y cc maxL (some .long)) { frames := fr, cells := mc, slots := ms, locals := lo } (zPx E A P av) (va_Ql post (fun u t => P' u t.heap ∧ zK E t) A) (vx_X px (fun C u t => BX C u t.heap ∧ zK E t) A) mc ms A := by
  refine vx_ofW (cc := cc) (maxL := maxL) (ret := (some .long)) hy rfl ?_
  intro p e s m args below meth c s₁ BB hml hnot hv
  obtain ⟨rfl, ⟨hZ, hK⟩, hH⟩ := hv
  have hlocks := BB.notSynchronized
  have hl := lv_entry av (n := maxL) hlen
  have ht : ∀ w ∈ zt, w.before av.toArray s = true := fun w h => atoms_spec (ws := zws y cc maxL (some .long)) BB.pre w (List.mem_cons_of_mem _ h)
  rw [lg_entry_eq]
  refine body p e _ s m _ below meth c _ _ rfl BB.exec BB.bytes hml ht (findClass_of_methodNamed BB.named) hK hZ hH hl ?_ ?_ ?_
  · intro pc r u H locs cells slots ls hcs hd hp hP hS
    exact vx_ret (W.widen hcs.1 hcs.2 (W.lret (v := r) BB.exec BB.bytes BB.returns (fun t ht9 hW9 => ⟨⟨r, u, rfl, hp, by rw [ht9]; exact hP, va_K.moved hW9.alike hK⟩, hS.F ht9⟩) hS.2.2 hd hlocks))
  · intro own cls text ik is ic pc u H locs cells slots ls rest hsi hown d0 d3 d4 d6 d9 hsz hR hcs hpx hbx hS
    obtain ⟨h1, h2, h3, h4, h5⟩ := hsi
    obtain ⟨sa, hsa⟩ := hH.1 _ h1
    exact vx_throwS (names := zNm) (sa := sa) (A := A) BB.exec BB.bytes hl0 hown h5 zNm_fit (ht _ h2) (ht _ h3) hsa (zat_in h4 ht hH) (fun w hw => by
      rcases List.mem_cons.mp hw with rfl | hw
      · unfold vx_ot; rw [(List.mem_filter.mp h2).2, Bool.or_true]
      · rcases List.mem_cons.mp hw with rfl | hw
        · unfold vx_ot; rw [(List.mem_filter.mp h3).2, Bool.or_true]
        · exact zat_ot h4 w hw) hH.2.2.2.1 hH.2.2.2.2 hS (hsz.trans hml.symm) d0 d3 d4 d6 d9 (fun x hx => (hnot x hx).elim) hR.1 hR.2 hcs.1 hcs.2 hlocks
      (fun t ht1 hz hq => ⟨u, hpx, ⟨hmono _ _ _ _ hz hq hbx, va_K.moved ht1 hK⟩, ⟨Nat.le_trans hS.1 hz, fun q h1 h2 => by rw [hq q (Nat.lt_of_lt_of_le h1 hS.1)]; exact hS.2.1 q h1 h2⟩⟩) hS.2.2 hcs.1 hcs.2
  · intro C ce q9 pc u H locs cells slots ls rest hcs hpx hbx hS hce hcv hcl
    exact vx_out (fun x hx => (hnot x hx).elim) hlocks hce hcv hcl (fun t ht1 hvm => ⟨u, hpx, ⟨by rw [ht1]; exact hbx, va_K.moved hvm hK⟩, hS.F ht1⟩) hS.2.2 hcs.1 hcs.2
theorem zxV_l {p : Program} {l : Launch} {e : Env} {R : Room} {s : State} {m : MethodId} {args : Array Value} {below : List Frame} {meth : Method} {c : Code} {H : Heap} {locs : List Loc} {cells slots : Nat} {Q : State → Prop} {cc : ByteArray} {pc : Nat} {ls : Array Slot} {rest st : List Value} {E : zE} {own : String} {index maxL nL fr lo mc ms : Nat} {y : MethodName} {bytes : ByteArray} {ret : Option FieldType} {S SX : Type} {post : Int64 → S → Prop} {P : Heap → Prop} {P' : S → Heap → Prop} {px : SX → Prop} {BX : String → SX → Heap → Prop} {A : Nat → Prop} (n : Nat) {C : String} {a : Nat} {As av : List Value} (hav : av = .ref a :: As) (F : CallFix p m c cc nL s args zt own) (hM : vx_Met l y (zws y bytes maxL ret) { frames := fr, cells := mc, slots := ms, locals := lo } (zPx E A P av) (va_Ql post (fun u t => P' u t.heap ∧ zK E t) A) (vx_X px (fun C u t => BX C u t.heap ∧ zK E t) A) mc ms A) (hcode : Cond.code y bytes maxL ret ∈ zt) (hlink : Cond.methodLink own index y ∈ zt) (hinst : Cond.instanceMethod y ∈ zt) (hsel : Cond.selects C y y ∈ zt) (hini : Cond.initialized y.cls ∈ zt) (hd : y.cls ≠ "java/lang/invoke/MethodHandle" ∧ y.cls ≠ "java/lang/invoke/VarHandle" ∧ (parseMethodDescriptor y.desc).map (fun d => d.parameters.length) = some n) (hR : fr + 1 ≤ R.frames ∧ 8 + (maxL + 11) + lo ≤ R.locals)
    (hrecv : ∃ cellB : Cell, H[a]? = some cellB ∧ cellB.vm.isStatics = false ∧ s.vm.findClass C = some cellB.cls) (hP : P H) (hK : zK E s) (hH : zH A s s.heap) (hsize : ls.size = nL) (hst : st = As.reverse ++ .ref a :: rest) (hn : As.length = n) (hroom : (rest.map fun v => v.category).sum ≤ 8) (hdg : decode cc pc = .ok (.invokevirtual index, 3)) (hf : cells + mc ≤ R.cells ∧ slots + ms ≤ R.slots) (hS : va_S A s.heap H locs)
    (kx : ∀ (C : String) (ce : Cell) (q9 : Nat) (u : SX) (H1 : Heap) (locs1 : List Loc), px u → BX C u H1 → va_S A s.heap H1 locs1 → H1[q9]? = some ce → ce.vm = .none → s.vm.findClass C = some ce.cls → vx_W p l e R s m args below meth c H1 locs1 (cells + mc) (slots + ms) Q (F0 m pc ls rest) q9)
    (kk : ∀ (r : Int64) (u : S) (H1 : Heap) (locs1 : List Loc), post r u → P' u H1 → H1.size ≥ H.size → va_S A s.heap H1 locs1 → W p l e R s m args below meth c H1 locs1 (cells + mc) (slots + ms) Q (F0 m (pc + 3) ls (.long r :: rest))) : W p l e R s m args below meth c H locs cells slots Q (F0 m pc ls st) := by
  subst hav
  have ht := F.2.2.2.2
  have cb : CallB R s args own index y bytes maxL ret (zws y bytes maxL ret) { frames := fr, cells := mc, slots := ms, locals := lo } mc ms n := callB_of n ht (good_zws hcode) rfl rfl rfl (ht _ hini) (ht _ hlink) hd hR
  exact vx_calll (vx_runV (As := As) (rest := rest) (b := a) F hM ⟨cb, ht _ hinst, ht _ hsel⟩ ⟨zPx_blind E A P _, hrecv, zPx_pre hP hK (hH.kept hS.2.1)⟩ rfl hn hsize hst (lv_room hroom) hdg hf) hS (fun _ _ h => h) (fun _ h => h) (fun _ _ h => h) (fun C ce q9 u t H1 locs1 ht1 hvm hpx hB hz1 hk1 hS1 hce hcv hcl => kx C ce q9 u H1 locs1 hpx (by rw [← ht1]; exact hB.1) hS1 hce hcv hcl) (fun r u t H1 locs1 ht1 hvm hw hB hz1 hk1 hS1 => kk r u H1 locs1 hw (by rw [← ht1]; exact hB.1) hz1 hS1)
/-- the desk's state: registers, the draft's count and bytes, where the text begins and its row -/
abbrev zS : Type := (Nat → Int) × Nat × (Nat → Nat) × Nat × (Nat → Nat)
def zcl (k : Nat) : String := if k = 1 then "java/lang/IllegalArgumentException" else if k = 2 then "java/lang/IllegalStateException" else "java/lang/ArithmeticException"
def okS (σ : zS) : Prop := (∀ i, i < 10 → zX (σ.1 i)) ∧ σ.2.1 ≤ 2100 ∧ (∀ i, σ.2.2.1 i < 256) ∧ σ.2.2.2.1 ≤ 2049 ∧ (∀ i, σ.2.2.2.2 i < 128)
def zR10 (v : Nat → zV) (rg : Nat → Int) : Prop := ∀ i, i < 10 → zN (v (2 + 2 * i)) (rg i)
/-- the desk lies at B in the state σ -/
def zQ (E : zE) (B : Nat) (σ : zS) (H : Heap) : Prop := okS σ ∧ ∃ (v : Nat → zV) (an sp : Nat), zD E B v (zF E B an sp σ.2.1 σ.2.2.1 σ.2.2.2.1 σ.2.2.2.2) H ∧ swp 27 29 an sp ∧ zR10 v σ.1
theorem zQ_grow {E : zE} {B : Nat} {σ : zS} {H H1 : Heap} (hq : ∀ q : Nat, q < H.size → H1[q]? = H[q]?) (h : zQ E B σ H) : zQ E B σ H1 := by
  obtain ⟨h1, v, an, sp, h2, h3, h4⟩ := h
  exact ⟨h1, v, an, sp, zD_grow hq h2, h3, h4⟩
theorem zR_same {v v0 : Nat → zV} {rg : Nat → Int} (fr : ∀ j, j < 22 → v j = v0 j) (h : zR10 v0 rg) : zR10 v rg := fun i hi => by rw [fr _ (by omega)]; exact h i hi
theorem zR_up {v1 v v0 : Nat → zV} {rg : Nat → Int} {to : Nat} {z : Int} (fr : ∀ j, j < 22 → v j = v0 j) (h : zR10 v0 rg) (ho : ∀ j, j ≠ 2 + 2 * to → v1 j = v j) (hN : zN (v1 (2 + 2 * to)) z) : zR10 v1 (va_up rg to z) := fun i hi => by
  by_cases h9 : i = to
  · subst h9; rw [va_up_self]; exact hN
  · rw [va_up_ne _ _ h9, ho _ (by omega), fr _ (by omega)]; exact h i hi
theorem okS_up {σ : zS} {to : Nat} {z : Int} (h : okS σ) (hz : zX z) : okS (va_up σ.1 to z, σ.2) := by
  refine ⟨fun i hi => ?_, h.2⟩
  show zX (va_up σ.1 to z i)
  by_cases h9 : i = to
  · subst h9; rw [va_up_self]; exact hz
  · rw [va_up_ne _ _ h9]; exact h.1 i hi
def rok (z : Int) : Prop := 0 ≤ z ∧ z < 10
/-- what a call does: 1 it refuses its arguments, 2 the state, 3 the number; 0 it goes through -/
def SP (good f2 f3 : Prop) (res : zS → Prop) (σ : zS) (k : Nat) (σ1 : zS) : Prop := (k = 1 ∧ ¬ good ∧ σ1 = σ) ∨ (k = 2 ∧ good ∧ f2 ∧ σ1 = σ) ∨ (k = 3 ∧ good ∧ f3 ∧ σ1 = σ) ∨ (k = 0 ∧ good ∧ res σ1)
theorem lp_reg {i : Nat} (h : i < 10) : lp (2 + 2 * i) = true := by rw [lp_iff]; omega
