/-! the classes: fields in the order of the slots, types, their words -/
def TW : u_T := fun k => match k with
  | 0 => ("WholeDesk$Whole", "limbs", "[J", true)
  | 1 => ("WholeDesk$Whole", "count", "I", false)
  | _ => ("WholeDesk$Whole", "below", "Z", false)
def tyW : Nat → FieldType := fun k => match k with
  | 0 => .array .long
  | 1 => .int
  | _ => .boolean
theorem nmW : ∀ a, a < 3 → ∀ b, b < 3 → a ≠ b → (TW a).2.1 ≠ (TW b).2.1 := by decide +kernel
theorem tyW_ok : ∀ k, k < 3 → parseFieldDescriptor (TW k).2.2.1 = some (tyW k) := by decide +kernel
theorem inW : ∀ w ∈ u_ws "WholeDesk$Whole" TW 3, w ∈ zt := by
  show ∀ w ∈ [Cond.laysFinal "WholeDesk$Whole" "WholeDesk$Whole" "limbs" "[J", Cond.lays "WholeDesk$Whole" "WholeDesk$Whole" "count" "I", Cond.lays "WholeDesk$Whole" "WholeDesk$Whole" "below" "Z"], w ∈ zt
  exact List.forall_mem_cons.mpr ⟨tw_43, List.forall_mem_cons.mpr ⟨tw_45, List.forall_mem_cons.mpr ⟨tw_47, fun _ h => absurd h List.not_mem_nil⟩⟩⟩
def TK : u_T := fun k => match k with
  | 0 => ("WholeDesk$Reckoner", "quotient", "LWholeDesk$Whole;", true)
  | 1 => ("WholeDesk$Reckoner", "rest", "LWholeDesk$Whole;", true)
  | 2 => ("WholeDesk$Reckoner", "answer", "LWholeDesk$Whole;", false)
  | 3 => ("WholeDesk$Reckoner", "spare", "LWholeDesk$Whole;", false)
  | 4 => ("WholeDesk$Reckoner", "first", "LWholeDesk$Whole;", true)
  | 5 => ("WholeDesk$Reckoner", "second", "LWholeDesk$Whole;", true)
  | 6 => ("WholeDesk$Reckoner", "third", "LWholeDesk$Whole;", true)
  | 7 => ("WholeDesk$Reckoner", "fourth", "LWholeDesk$Whole;", true)
  | _ => ("WholeDesk$Reckoner", "powers", "[LWholeDesk$Whole;", true)
def tyK : Nat → FieldType := fun k => match k with
  | 0 => .object "WholeDesk$Whole"
  | 1 => .object "WholeDesk$Whole"
  | 2 => .object "WholeDesk$Whole"
  | 3 => .object "WholeDesk$Whole"
  | 4 => .object "WholeDesk$Whole"
  | 5 => .object "WholeDesk$Whole"
  | 6 => .object "WholeDesk$Whole"
  | 7 => .object "WholeDesk$Whole"
  | _ => .array (.object "WholeDesk$Whole")
theorem nmK : ∀ a, a < 9 → ∀ b, b < 9 → a ≠ b → (TK a).2.1 ≠ (TK b).2.1 := by decide +kernel
theorem tyK_ok : ∀ k, k < 9 → parseFieldDescriptor (TK k).2.2.1 = some (tyK k) := by decide +kernel
theorem inK : ∀ w ∈ u_ws "WholeDesk$Reckoner" TK 9, w ∈ zt := by
  show ∀ w ∈ [Cond.laysFinal "WholeDesk$Reckoner" "WholeDesk$Reckoner" "quotient" "LWholeDesk$Whole;", Cond.laysFinal "WholeDesk$Reckoner" "WholeDesk$Reckoner" "rest" "LWholeDesk$Whole;", Cond.lays "WholeDesk$Reckoner" "WholeDesk$Reckoner" "answer" "LWholeDesk$Whole;", Cond.lays "WholeDesk$Reckoner" "WholeDesk$Reckoner" "spare" "LWholeDesk$Whole;", Cond.laysFinal "WholeDesk$Reckoner" "WholeDesk$Reckoner" "first" "LWholeDesk$Whole;", Cond.laysFinal "WholeDesk$Reckoner" "WholeDesk$Reckoner" "second" "LWholeDesk$Whole;", Cond.laysFinal "WholeDesk$Reckoner" "WholeDesk$Reckoner" "third" "LWholeDesk$Whole;", Cond.laysFinal "WholeDesk$Reckoner" "WholeDesk$Reckoner" "fourth" "LWholeDesk$Whole;", Cond.laysFinal "WholeDesk$Reckoner" "WholeDesk$Reckoner" "powers" "[LWholeDesk$Whole;"], w ∈ zt
  exact List.forall_mem_cons.mpr ⟨tw_70, List.forall_mem_cons.mpr ⟨tw_72, List.forall_mem_cons.mpr ⟨tw_74, List.forall_mem_cons.mpr ⟨tw_76, List.forall_mem_cons.mpr ⟨tw_78, List.forall_mem_cons.mpr ⟨tw_80, List.forall_mem_cons.mpr ⟨tw_82, List.forall_mem_cons.mpr ⟨tw_84, List.forall_mem_cons.mpr ⟨tw_86, fun _ h => absurd h List.not_mem_nil⟩⟩⟩⟩⟩⟩⟩⟩⟩
def TD : u_T := fun k => match k with
  | 0 => ("WholeDesk$Draft", "count", "I", false)
  | 1 => ("WholeDesk$Draft", "characters", "[B", true)
  | _ => ("WholeDesk$Draft", "value", "LWholeDesk$Whole;", true)
def tyD : Nat → FieldType := fun k => match k with
  | 0 => .int
  | 1 => .array .byte
  | _ => .object "WholeDesk$Whole"
theorem nmD : ∀ a, a < 3 → ∀ b, b < 3 → a ≠ b → (TD a).2.1 ≠ (TD b).2.1 := by decide +kernel
theorem tyD_ok : ∀ k, k < 3 → parseFieldDescriptor (TD k).2.2.1 = some (tyD k) := by decide +kernel
theorem inD : ∀ w ∈ u_ws "WholeDesk$Draft" TD 3, w ∈ zt := by
  show ∀ w ∈ [Cond.lays "WholeDesk$Draft" "WholeDesk$Draft" "count" "I", Cond.laysFinal "WholeDesk$Draft" "WholeDesk$Draft" "characters" "[B", Cond.laysFinal "WholeDesk$Draft" "WholeDesk$Draft" "value" "LWholeDesk$Whole;"], w ∈ zt
  exact List.forall_mem_cons.mpr ⟨tw_101, List.forall_mem_cons.mpr ⟨tw_103, List.forall_mem_cons.mpr ⟨tw_105, fun _ h => absurd h List.not_mem_nil⟩⟩⟩
def TG : u_T := fun k => match k with
  | 0 => ("WholeDesk$Writing", "row", "[B", true)
  | 1 => ("WholeDesk$Writing", "start", "I", false)
  | _ => ("WholeDesk$Writing", "left", "LWholeDesk$Whole;", true)
def tyG : Nat → FieldType := fun k => match k with
  | 0 => .array .byte
  | 1 => .int
  | _ => .object "WholeDesk$Whole"
theorem nmG : ∀ a, a < 3 → ∀ b, b < 3 → a ≠ b → (TG a).2.1 ≠ (TG b).2.1 := by decide +kernel
theorem tyG_ok : ∀ k, k < 3 → parseFieldDescriptor (TG k).2.2.1 = some (tyG k) := by decide +kernel
theorem inG : ∀ w ∈ u_ws "WholeDesk$Writing" TG 3, w ∈ zt := by
  show ∀ w ∈ [Cond.laysFinal "WholeDesk$Writing" "WholeDesk$Writing" "row" "[B", Cond.lays "WholeDesk$Writing" "WholeDesk$Writing" "start" "I", Cond.laysFinal "WholeDesk$Writing" "WholeDesk$Writing" "left" "LWholeDesk$Whole;"], w ∈ zt
  exact List.forall_mem_cons.mpr ⟨tw_120, List.forall_mem_cons.mpr ⟨tw_122, List.forall_mem_cons.mpr ⟨tw_124, fun _ h => absurd h List.not_mem_nil⟩⟩⟩
def TS : u_T := fun k => match k with
  | 0 => ("WholeDesk", "registers", "[LWholeDesk$Whole;", true)
  | 1 => ("WholeDesk", "reckoner", "LWholeDesk$Reckoner;", true)
  | 2 => ("WholeDesk", "draft", "LWholeDesk$Draft;", true)
  | _ => ("WholeDesk", "writing", "LWholeDesk$Writing;", true)
def tyS : Nat → FieldType := fun k => match k with
  | 0 => .array (.object "WholeDesk$Whole")
  | 1 => .object "WholeDesk$Reckoner"
  | 2 => .object "WholeDesk$Draft"
  | _ => .object "WholeDesk$Writing"
theorem nmS : ∀ a, a < 4 → ∀ b, b < 4 → a ≠ b → (TS a).2.1 ≠ (TS b).2.1 := by decide +kernel
theorem tyS_ok : ∀ k, k < 4 → parseFieldDescriptor (TS k).2.2.1 = some (tyS k) := by decide +kernel
theorem inS : ∀ w ∈ u_ws "WholeDesk" TS 4, w ∈ zt := by
  show ∀ w ∈ [Cond.laysFinal "WholeDesk" "WholeDesk" "registers" "[LWholeDesk$Whole;", Cond.laysFinal "WholeDesk" "WholeDesk" "reckoner" "LWholeDesk$Reckoner;", Cond.laysFinal "WholeDesk" "WholeDesk" "draft" "LWholeDesk$Draft;", Cond.laysFinal "WholeDesk" "WholeDesk" "writing" "LWholeDesk$Writing;"], w ∈ zt
  exact List.forall_mem_cons.mpr ⟨tw_131, List.forall_mem_cons.mpr ⟨tw_133, List.forall_mem_cons.mpr ⟨tw_135, List.forall_mem_cons.mpr ⟨tw_137, fun _ h => absurd h List.not_mem_nil⟩⟩⟩⟩
def TM : u_T := fun k => match k with
  | 0 => ("WholeDeskModel", "thrown", "I", false)
  | 1 => ("WholeDeskModel", "fault", "I", false)
  | 2 => ("WholeDeskModel", "draft", "[I", true)
  | 3 => ("WholeDeskModel", "length", "I", false)
  | 4 => ("WholeDeskModel", "kept", "[I", true)
  | 5 => ("WholeDeskModel", "minus", "[Z", true)
  | 6 => ("WholeDeskModel", "row", "[I", true)
  | 7 => ("WholeDeskModel", "below", "Z", false)
  | 8 => ("WholeDeskModel", "other", "[I", true)
  | 9 => ("WholeDeskModel", "product", "[I", true)
  | 10 => ("WholeDeskModel", "rest", "[I", true)
  | 11 => ("WholeDeskModel", "quotient", "[I", true)
  | 12 => ("WholeDeskModel", "one", "[I", true)
  | 13 => ("WholeDeskModel", "two", "[I", true)
  | 14 => ("WholeDeskModel", "first", "[I", true)
  | 15 => ("WholeDeskModel", "second", "[I", true)
  | 16 => ("WholeDeskModel", "firstBelow", "Z", false)
  | 17 => ("WholeDeskModel", "secondBelow", "Z", false)
  | 18 => ("WholeDeskModel", "modulus", "[I", true)
  | 19 => ("WholeDeskModel", "paper", "[I", true)
  | _ => ("WholeDeskModel", "printed", "I", false)
def tyM : Nat → FieldType := fun k => match k with
  | 0 => .int
  | 1 => .int
  | 2 => .array .int
  | 3 => .int
  | 4 => .array .int
  | 5 => .array .boolean
  | 6 => .array .int
  | 7 => .boolean
  | 8 => .array .int
  | 9 => .array .int
  | 10 => .array .int
  | 11 => .array .int
  | 12 => .array .int
  | 13 => .array .int
  | 14 => .array .int
  | 15 => .array .int
  | 16 => .boolean
  | 17 => .boolean
  | 18 => .array .int
  | 19 => .array .int
  | _ => .int
theorem nmM : ∀ a, a < 21 → ∀ b, b < 21 → a ≠ b → (TM a).2.1 ≠ (TM b).2.1 := by decide +kernel
theorem tyM_ok : ∀ k, k < 21 → parseFieldDescriptor (TM k).2.2.1 = some (tyM k) := by decide +kernel
theorem inM : ∀ w ∈ u_ws "WholeDeskModel" TM 21, w ∈ zt := by
  show ∀ w ∈ [Cond.lays "WholeDeskModel" "WholeDeskModel" "thrown" "I", Cond.lays "WholeDeskModel" "WholeDeskModel" "fault" "I", Cond.laysFinal "WholeDeskModel" "WholeDeskModel" "draft" "[I", Cond.lays "WholeDeskModel" "WholeDeskModel" "length" "I", Cond.laysFinal "WholeDeskModel" "WholeDeskModel" "kept" "[I", Cond.laysFinal "WholeDeskModel" "WholeDeskModel" "minus" "[Z", Cond.laysFinal "WholeDeskModel" "WholeDeskModel" "row" "[I", Cond.lays "WholeDeskModel" "WholeDeskModel" "below" "Z", Cond.laysFinal "WholeDeskModel" "WholeDeskModel" "other" "[I", Cond.laysFinal "WholeDeskModel" "WholeDeskModel" "product" "[I", Cond.laysFinal "WholeDeskModel" "WholeDeskModel" "rest" "[I", Cond.laysFinal "WholeDeskModel" "WholeDeskModel" "quotient" "[I", Cond.laysFinal "WholeDeskModel" "WholeDeskModel" "one" "[I", Cond.laysFinal "WholeDeskModel" "WholeDeskModel" "two" "[I", Cond.laysFinal "WholeDeskModel" "WholeDeskModel" "first" "[I", Cond.laysFinal "WholeDeskModel" "WholeDeskModel" "second" "[I", Cond.lays "WholeDeskModel" "WholeDeskModel" "firstBelow" "Z", Cond.lays "WholeDeskModel" "WholeDeskModel" "secondBelow" "Z", Cond.laysFinal "WholeDeskModel" "WholeDeskModel" "modulus" "[I", Cond.laysFinal "WholeDeskModel" "WholeDeskModel" "paper" "[I", Cond.lays "WholeDeskModel" "WholeDeskModel" "printed" "I"], w ∈ zt
  exact List.forall_mem_cons.mpr ⟨tw_698, List.forall_mem_cons.mpr ⟨tw_700, List.forall_mem_cons.mpr ⟨tw_702, List.forall_mem_cons.mpr ⟨tw_704, List.forall_mem_cons.mpr ⟨tw_706, List.forall_mem_cons.mpr ⟨tw_708, List.forall_mem_cons.mpr ⟨tw_710, List.forall_mem_cons.mpr ⟨tw_712, List.forall_mem_cons.mpr ⟨tw_714, List.forall_mem_cons.mpr ⟨tw_716, List.forall_mem_cons.mpr ⟨tw_718, List.forall_mem_cons.mpr ⟨tw_720, List.forall_mem_cons.mpr ⟨tw_722, List.forall_mem_cons.mpr ⟨tw_724, List.forall_mem_cons.mpr ⟨tw_726, List.forall_mem_cons.mpr ⟨tw_728, List.forall_mem_cons.mpr ⟨tw_730, List.forall_mem_cons.mpr ⟨tw_732, List.forall_mem_cons.mpr ⟨tw_734, List.forall_mem_cons.mpr ⟨tw_736, List.forall_mem_cons.mpr ⟨tw_738, fun _ h => absurd h List.not_mem_nil⟩⟩⟩⟩⟩⟩⟩⟩⟩⟩⟩⟩⟩⟩⟩⟩⟩⟩⟩⟩⟩
abbrev zCl : List vw_C := [("WholeDesk$Whole", TW, 3), ("WholeDesk$Reckoner", TK, 9), ("WholeDesk$Draft", TD, 3), ("WholeDesk$Writing", TG, 3), ("WholeDesk", TS, 4), ("WholeDeskModel", TM, 21)]
/-- what the tables say of the classes: their numbers and slots, and the array classes of long, byte, Whole, int, boolean -/
abbrev zE : Type := va_G × ClassId × ClassId × ClassId × ClassId × ClassId
abbrev zTy (E : zE) : List (ClassId × FieldType) := [(E.2.1, .long), (E.2.2.1, .byte), (E.2.2.2.1, .object "WholeDesk$Whole"), (E.2.2.2.2.1, .int), (E.2.2.2.2.2, .boolean)]
abbrev zK (E : zE) (U : State) : Prop := va_K E.1 zCl (zTy E) U
def bZ (b : Bool) : Int := if b then 1 else 0
theorem bZ_01 (b : Bool) : 0 ≤ bZ b ∧ bZ b ≤ 1 := by cases b <;> decide
theorem bZ_t {b : Bool} : bZ b = 1 ↔ b = true := by cases b <;> decide
theorem bZ_f {b : Bool} : bZ b = 0 ↔ b = false := by cases b <;> decide
theorem bZ_nf {b : Bool} : ¬ bZ b = 0 ↔ b = true := by cases b <;> decide
theorem bZ_eq {a b : Bool} : bZ a = bZ b ↔ a = b := by cases a <;> cases b <;> decide
/-- a Whole: its limbs, how many are in use, whether it is below 0 -/
abbrev zV : Type := (Nat → Nat) × Nat × Bool
/-- the places of Wholes in the desk's block of 80 cells; the limbs of the one at k lie at k + 1 -/
def lp (k : Nat) : Bool := decide ((2 ≤ k ∧ k < 22 ∧ k % 2 = 0) ∨ (23 ≤ k ∧ k < 39 ∧ k % 2 = 1) ∨ (40 ≤ k ∧ k < 72 ∧ k % 2 = 0) ∨ k = 74 ∨ k = 78)
theorem lp_iff {k : Nat} : lp k = true ↔ ((2 ≤ k ∧ k < 22 ∧ k % 2 = 0) ∨ (23 ≤ k ∧ k < 39 ∧ k % 2 = 1) ∨ (40 ≤ k ∧ k < 72 ∧ k % 2 = 0) ∨ k = 74 ∨ k = 78) := decide_eq_true_iff
theorem lp_lt {k : Nat} (h : lp k = true) : k + 1 < 80 := by rw [lp_iff] at h; omega
theorem lp_s {k : Nat} (h : lp k = true) : ¬ lp (k + 1) = true := by rw [lp_iff] at h ⊢; omega
theorem lp_ne {j k : Nat} (hj : lp j = true) (hk : lp k = true) : j ≠ k + 1 := fun e => lp_s hk (e ▸ hj)
def zO (E : zE) (B : Nat) (v : Nat → zV) (o : Nat → va_E) : Nat → va_E := fun k =>
  if lp k = true then .inr (0, [.ref (B + (k + 1)), .int (iZ (v k).2.1), .int (iZ (bZ (v k).2.2))])
  else if 1 ≤ k ∧ lp (k - 1) = true then .inl (E.2.1, 152, .inr (.inl (fun i => lZ ((v (k - 1)).1 i))))
  else o k
theorem zO_W {E : zE} {B k : Nat} {v : Nat → zV} {o : Nat → va_E} (h : lp k = true) : zO E B v o k = .inr (0, [.ref (B + (k + 1)), .int (iZ (v k).2.1), .int (iZ (bZ (v k).2.2))]) := if_pos h
theorem zO_A {E : zE} {B k : Nat} {v : Nat → zV} {o : Nat → va_E} (h : lp k = true) : zO E B v o (k + 1) = .inl (E.2.1, 152, .inr (.inl (fun i => lZ ((v k).1 i)))) := by
  unfold zO
  rw [if_neg (lp_s h), if_pos ⟨by omega, h⟩]
  rfl
theorem zO_o {E : zE} {B k : Nat} {v : Nat → zV} {o : Nat → va_E} (h : ¬ lp k = true) (h2 : ¬ (1 ≤ k ∧ lp (k - 1) = true)) : zO E B v o k = o k := by
  unfold zO
  rw [if_neg h, if_neg h2]
theorem zO_upW {E : zE} {B k : Nat} {v : Nat → zV} {o : Nat → va_E} {w : zV} (h : lp k = true) (hd : w.1 = (v k).1) : va_up (zO E B v o) k (.inr (0, [.ref (B + (k + 1)), .int (iZ w.2.1), .int (iZ (bZ w.2.2))])) = zO E B (va_up v k w) o := by
  funext j
  by_cases e : j = k
  · subst e
    rw [va_up_self, zO_W h, va_up_self]
  · rw [va_up_ne _ _ e]
    unfold zO
    rw [va_up_ne v w e]
    by_cases h2 : 1 ≤ j ∧ lp (j - 1) = true
    · by_cases e2 : j - 1 = k
      · rw [e2, va_up_self, hd]
      · rw [va_up_ne v w e2]
    · rw [if_neg h2, if_neg h2]
theorem zO_upA {E : zE} {B k : Nat} {v : Nat → zV} {o : Nat → va_E} {d : Nat → Nat} (h : lp k = true) : va_up (zO E B v o) (k + 1) (.inl (E.2.1, 152, .inr (.inl (fun i => lZ (d i))))) = zO E B (va_up v k (d, (v k).2)) o := by
  funext j
  by_cases e : j = k + 1
  · subst e
    rw [va_up_self, zO_A h, va_up_self]
  · rw [va_up_ne _ _ e]
    unfold zO
    by_cases h1 : lp j = true
    · rw [if_pos h1, if_pos h1]
      by_cases e2 : j = k
      · rw [e2, va_up_self]
      · rw [va_up_ne v _ e2]
    · rw [if_neg h1, if_neg h1]
      by_cases h2 : 1 ≤ j ∧ lp (j - 1) = true
      · rw [va_up_ne v _ (show j - 1 ≠ k by omega)]
      · rw [if_neg h2, if_neg h2]
theorem zO_upo {E : zE} {B k : Nat} {v : Nat → zV} {o : Nat → va_E} {x : va_E} (h : ¬ lp k = true) (h2 : ¬ (1 ≤ k ∧ lp (k - 1) = true)) : va_up (zO E B v o) k x = zO E B v (va_up o k x) := by
  funext j
  by_cases e : j = k
  · subst e
    rw [va_up_self, zO_o h h2, va_up_self]
  · rw [va_up_ne _ _ e]
    unfold zO
    rw [va_up_ne o x e]
/-- limbs are below 2 to the 28, at most 152 are in use -/
def zok (v : Nat → zV) : Prop := ∀ k, lp k = true → (∀ i, (v k).1 i < 268435456) ∧ (v k).2.1 ≤ 152
theorem zok.up {v : Nat → zV} (h : zok v) {k : Nat} {w : zV} (h1 : ∀ i, w.1 i < 268435456) (h2 : w.2.1 ≤ 152) : zok (va_up v k w) := fun j hj => by
  by_cases e : j = k
  · rw [e, va_up_self]; exact ⟨h1, h2⟩
  · rw [va_up_ne v w e]; exact h j hj
/-- the desk's world: Wholes v, the other cells o -/
def zD (E : zE) (B : Nat) (v : Nat → zV) (o : Nat → va_E) (H : Heap) : Prop := va_P E.1 zCl (zB B 80 (zO E B v o)) H ∧ zok v
theorem updL_lZ (d : Nat → Nat) (j x : Nat) : vp_updL (fun i => lZ (d i)) j (lZ x) = fun i => lZ ((va_up d j x i : Nat) : Int) := by
  funext i
  unfold vp_updL va_up
  split <;> rfl
section ZW
variable {p : Program} {l : Launch} {e : Env} {R : Room} {s : State} {m : MethodId} {args : Array Value} {below : List Frame} {meth : Method} {c : Code} {H : Heap} {locs : List Loc} {cells slots : Nat} {Q : State → Prop}
variable {cc : ByteArray} {pc : Nat} {ls : Array Slot} {rest : List Value} {E : zE} {B : Nat} {v : Nat → zV} {o : Nat → va_E} {H0 : Heap} {own : String} {index k : Nat} {d : Nat → Nat} {n : Nat} {b : Bool}
theorem zw_limbs (hx : p.tables.exec = Jvm.exec) (hb : c.code = cc) (ht : ∀ w ∈ zt, w.before args s = true) (hown : s.vm.findClass own = some m.cls) (hK : zK E s) (hZ : zD E B v o H) (hk : lp k = true) (ev : v k = (d, n, b)) (hl : Cond.fieldLink own index "WholeDesk$Whole" "limbs" "[J" ∈ zt) (hd : decode cc pc = .ok (.getfield index, 3))
    (kk : W p l e R s m args below meth c H locs cells slots Q (F0 m (pc + 3) ls (.ref (B + (k + 1)) :: rest))) : W p l e R s m args below meth c H locs cells slots Q (F0 m pc ls (.ref (B + k) :: rest)) :=
  va_get (D := E.1) (cl := zCl) (ci := 0) (C := "WholeDesk$Whole") (T := TW) (N := 3) hx hb ht inW hown hK hZ.1 k (by rw [zB_at (by have := lp_lt hk; omega), zO_W hk, ev]) rfl 0 (by decide) (ht _ hl) (fun _ h9 => h9) rfl hd kk
theorem zw_count (hx : p.tables.exec = Jvm.exec) (hb : c.code = cc) (ht : ∀ w ∈ zt, w.before args s = true) (hown : s.vm.findClass own = some m.cls) (hK : zK E s) (hZ : zD E B v o H) (hk : lp k = true) (ev : v k = (d, n, b)) (hl : Cond.fieldLink own index "WholeDesk$Whole" "count" "I" ∈ zt) (hd : decode cc pc = .ok (.getfield index, 3))
    (kk : W p l e R s m args below meth c H locs cells slots Q (F0 m (pc + 3) ls (.int (iZ n) :: rest))) : W p l e R s m args below meth c H locs cells slots Q (F0 m pc ls (.ref (B + k) :: rest)) :=
  va_get (D := E.1) (cl := zCl) (ci := 0) (C := "WholeDesk$Whole") (T := TW) (N := 3) hx hb ht inW hown hK hZ.1 k (by rw [zB_at (by have := lp_lt hk; omega), zO_W hk, ev]) rfl 1 (by decide) (ht _ hl) (fun _ h9 => h9) rfl hd kk
theorem zw_below (hx : p.tables.exec = Jvm.exec) (hb : c.code = cc) (ht : ∀ w ∈ zt, w.before args s = true) (hown : s.vm.findClass own = some m.cls) (hK : zK E s) (hZ : zD E B v o H) (hk : lp k = true) (ev : v k = (d, n, b)) (hl : Cond.fieldLink own index "WholeDesk$Whole" "below" "Z" ∈ zt) (hd : decode cc pc = .ok (.getfield index, 3))
    (kk : W p l e R s m args below meth c H locs cells slots Q (F0 m (pc + 3) ls (.int (iZ (bZ b)) :: rest))) : W p l e R s m args below meth c H locs cells slots Q (F0 m pc ls (.ref (B + k) :: rest)) :=
  va_get (D := E.1) (cl := zCl) (ci := 0) (C := "WholeDesk$Whole") (T := TW) (N := 3) hx hb ht inW hown hK hZ.1 k (by rw [zB_at (by have := lp_lt hk; omega), zO_W hk, ev]) rfl 2 (by decide) (ht _ hl) (fun _ h9 => h9) rfl hd kk
theorem bZ_nar (b : Bool) : narrow .boolean (.int (iZ (bZ b))) = .int (iZ (bZ b)) := by cases b <;> decide +kernel
theorem bZ_fit (b : Bool) : fits .boolean (.int (iZ (bZ b))) = true := by cases b <;> decide +kernel
theorem zw_put_count (hx : p.tables.exec = Jvm.exec) (hb : c.code = cc) (ht : ∀ w ∈ zt, w.before args s = true) (hown : s.vm.findClass own = some m.cls) (hK : zK E s) (hZ : zD E B v o H) (hk : lp k = true) (ev : v k = (d, n, b)) (hS : va_S (zA B 80) H0 H locs) {n1 : Nat} (h1 : n1 ≤ 152) (hl : Cond.fieldLink own index "WholeDesk$Whole" "count" "I" ∈ zt) (hd : decode cc pc = .ok (.putfield index, 3))
    (kk : ∀ (v1 : Nat → zV) (H1 : Heap) (locs1 : List Loc), v1 k = (d, n1, b) → (∀ j, j ≠ k → v1 j = v j) → zD E B v1 o H1 → va_S (zA B 80) H0 H1 locs1 → W p l e R s m args below meth c H1 locs1 cells slots Q (F0 m (pc + 3) ls rest)) : W p l e R s m args below meth c H locs cells slots Q (F0 m pc ls (.int (iZ n1) :: .ref (B + k) :: rest)) := by
  have hk80 : k < 80 := by have := lp_lt hk; omega
  have hok := hZ.2 k hk
  rw [ev] at hok
  refine va_put (D := E.1) (cl := zCl) (ci := 0) (C := "WholeDesk$Whole") (T := TW) (N := 3) (ty := .int) (fs := [.ref (B + (k + 1)), .int (iZ n), .int (iZ (bZ b))]) hx hb ht inW tyW tyW_ok nmW hown hK hZ.1 (zB_DA B 80 _) hS k (by rw [zB_at hk80, zO_W hk, ev]) rfl 1 (by decide) (ht _ hl) (fun _ h9 => h9) rfl (by decide +kernel) rfl rfl (Nat.le_of_ble_eq_true rfl) hd fun H1 locs1 hP hD hS1 => ?_
  refine kk (va_up v k (d, n1, b)) H1 locs1 (va_up_self _ _ _) (fun j hj => va_up_ne _ _ hj) ⟨?_, hZ.2.up hok.1 h1⟩ hS1
  rw [zB_set hk80] at hP
  rw [← zO_upW (w := (d, n1, b)) hk (by rw [ev])]
  exact hP
theorem zw_put_below (hx : p.tables.exec = Jvm.exec) (hb : c.code = cc) (ht : ∀ w ∈ zt, w.before args s = true) (hown : s.vm.findClass own = some m.cls) (hK : zK E s) (hZ : zD E B v o H) (hk : lp k = true) (ev : v k = (d, n, b)) (hS : va_S (zA B 80) H0 H locs) {b1 : Bool}  (hl : Cond.fieldLink own index "WholeDesk$Whole" "below" "Z" ∈ zt) (hd : decode cc pc = .ok (.putfield index, 3))
    (kk : ∀ (v1 : Nat → zV) (H1 : Heap) (locs1 : List Loc), v1 k = (d, n, b1) → (∀ j, j ≠ k → v1 j = v j) → zD E B v1 o H1 → va_S (zA B 80) H0 H1 locs1 → W p l e R s m args below meth c H1 locs1 cells slots Q (F0 m (pc + 3) ls rest)) : W p l e R s m args below meth c H locs cells slots Q (F0 m pc ls (.int (iZ (bZ b1)) :: .ref (B + k) :: rest)) := by
  have hk80 : k < 80 := by have := lp_lt hk; omega
  have hok := hZ.2 k hk
  rw [ev] at hok
  refine va_put (D := E.1) (cl := zCl) (ci := 0) (C := "WholeDesk$Whole") (T := TW) (N := 3) (ty := .boolean) (fs := [.ref (B + (k + 1)), .int (iZ n), .int (iZ (bZ b))]) hx hb ht inW tyW tyW_ok nmW hown hK hZ.1 (zB_DA B 80 _) hS k (by rw [zB_at hk80, zO_W hk, ev]) rfl 2 (by decide) (ht _ hl) (fun _ h9 => h9) rfl (by decide +kernel) (bZ_nar b1) (bZ_fit b1) (Nat.le_of_ble_eq_true rfl) hd fun H1 locs1 hP hD hS1 => ?_
  refine kk (va_up v k (d, n, b1)) H1 locs1 (va_up_self _ _ _) (fun j hj => va_up_ne _ _ hj) ⟨?_, hZ.2.up hok.1 hok.2⟩ hS1
  rw [zB_set hk80] at hP
  rw [← zO_upW (w := (d, n, b1)) hk (by rw [ev])]
  exact hP
theorem zw_ld (hx : p.tables.exec = Jvm.exec) (hb : c.code = cc) (hK : zK E s) (hZ : zD E B v o H) (hk : lp k = true) (ev : v k = (d, n, b)) {z : Int} (h0 : 0 ≤ z) (h1 : z < 152) (hd : decode cc pc = .ok (.laload, 1))
    (kk : W p l e R s m args below meth c H locs cells slots Q (F0 m (pc + 1) ls (.long (lZ (d z.toNat)) :: rest))) : W p l e R s m args below meth c H locs cells slots Q (F0 m pc ls (.int (iZ z) :: .ref (B + (k + 1)) :: rest)) := by
  have hzi : zi z := ⟨by omega, by omega⟩
  refine va_lald (D := E.1) (cl := zCl) (cA := E.2.1) (n := 152) (f := fun i => lZ (d i)) hx hb hK hZ.1 (k + 1) 0 (by rw [zB_at (lp_lt hk), zO_A hk, ev]) rfl (iZ_in hzi h0 h1) hd ?_
  rw [iZ_clamp hzi]
  exact kk
theorem zw_st (hx : p.tables.exec = Jvm.exec) (hb : c.code = cc) (hK : zK E s) (hZ : zD E B v o H) (hk : lp k = true) (ev : v k = (d, n, b)) (hS : va_S (zA B 80) H0 H locs) {z : Int} {x : Nat} (h0 : 0 ≤ z) (h1 : z < 152) (h2 : x < 268435456) (hd : decode cc pc = .ok (.lastore, 1))
    (kk : ∀ (v1 : Nat → zV) (H1 : Heap) (locs1 : List Loc), v1 k = (va_up d z.toNat x, n, b) → (∀ j, j ≠ k → v1 j = v j) → zD E B v1 o H1 → va_S (zA B 80) H0 H1 locs1 → W p l e R s m args below meth c H1 locs1 cells slots Q (F0 m (pc + 1) ls rest)) : W p l e R s m args below meth c H locs cells slots Q (F0 m pc ls (.long (lZ x) :: .int (iZ z) :: .ref (B + (k + 1)) :: rest)) := by
  have hzi : zi z := ⟨by omega, by omega⟩
  have hok := hZ.2 k hk
  rw [ev] at hok
  refine va_last (D := E.1) (cl := zCl) (cA := E.2.1) (n := 152) (f := fun i => lZ (d i)) hx hb hK hZ.1 (zB_DA B 80 _) hS (k + 1) 0 (by rw [zB_at (lp_lt hk), zO_A hk, ev]) rfl (iZ_in hzi h0 h1) hd fun H1 locs1 hP hD hS1 => ?_
  refine kk (va_up v k (va_up d z.toNat x, n, b)) H1 locs1 (va_up_self _ _ _) (fun j hj => va_up_ne _ _ hj) ⟨?_, hZ.2.up (up_lt hok.1 h2) hok.2⟩ hS1
  rw [zB_set (lp_lt hk), iZ_clamp hzi, updL_lZ, zO_upA hk, ev] at hP
  exact hP
end ZW
/-- a method's words: its code, and the tables' -/
abbrev zws (y : MethodName) (bytes : ByteArray) (maxL : Nat) (ret : Option FieldType) : List Cond := Cond.code y bytes maxL ret :: zt
theorem good_zws {y : MethodName} {bytes : ByteArray} {maxL : Nat} {ret : Option FieldType} (hc : Cond.code y bytes maxL ret ∈ zt) : GoodIn zt (zws y bytes maxL ret) := fun w hw => by
  rcases List.mem_cons.mp hw with h | h
  · subst h; exact ⟨hc, good_of_word (zt_good _ hc)⟩
  · exact ⟨h, good_of_word (zt_good _ h)⟩
abbrev zPc (E : zE) (P : Heap → Prop) (av : List Value) : Array Value → State → Prop := va_Pc av (fun U => P U.heap ∧ zK E U)
theorem zPc_blind (E : zE) (P : Heap → Prop) (av : List Value) : FrameBlind (zPc E P av) := fun a U g mk q => ⟨q.1, q.2.1, va_K.moved (u := U) (U := U.calling g mk a) (Vm.Alike.refl U.vm) q.2.2⟩
theorem zPc_pre {E : zE} {P : Heap → Prop} {av : List Value} {s : State} {H : Heap} (hP : P H) (hK : zK E s) : ∀ U : State, U.heap = H → s.WarmedH U.vm → zPc E P av av.toArray U := fun U hU hW => ⟨rfl, by rw [hU]; exact hP, va_K.moved hW.alike hK⟩

theorem zcV_i {p : Program} {l : Launch} {e : Env} {R : Room} {s : State} {m : MethodId} {args : Array Value} {below : List Frame} {meth : Method} {c : Code} {H : Heap} {locs : List Loc} {cells slots : Nat} {Q : State → Prop} {cc : ByteArray} {pc : Nat} {ls : Array Slot} {rest st : List Value} {E : zE} {H0 : Heap} {own : String} {index maxL nL fr lo : Nat} {y : MethodName} {bytes : ByteArray} {ret : Option FieldType} {S : Type} {post : Int32 → S → Prop} {P : Heap → Prop} {P' : S → Heap → Prop} {A : Nat → Prop} (n : Nat) {C : String} {a : Nat} {As av : List Value} (hav : av = .ref a :: As) (F : CallFix p m c cc nL s args zt own) (hM : Met l y (zws y bytes maxL ret) { frames := fr, cells := 0, slots := 0, locals := lo } (zPc E P av) (va_Qi post (fun u t => P' u t.heap ∧ zK E t) A) 0 0 A) (hcode : Cond.code y bytes maxL ret ∈ zt) (hlink : Cond.methodLink own index y ∈ zt) (hinst : Cond.instanceMethod y ∈ zt) (hsel : Cond.selects C y y ∈ zt) (hini : Cond.initialized y.cls ∈ zt) (hd : y.cls ≠ "java/lang/invoke/MethodHandle" ∧ y.cls ≠ "java/lang/invoke/VarHandle" ∧ (parseMethodDescriptor y.desc).map (fun d => d.parameters.length) = some n) (hR : fr + 1 ≤ R.frames ∧ 8 + (maxL + 11) + lo ≤ R.locals)
    (hrecv : ∃ cellB : Cell, H[a]? = some cellB ∧ cellB.vm.isStatics = false ∧ s.vm.findClass C = some cellB.cls) (hP : P H) (hK : zK E s) (hsize : ls.size = nL) (hst : st = As.reverse ++ .ref a :: rest) (hn : As.length = n) (hroom : (rest.map fun v => v.category).sum ≤ 8) (hdg : decode cc pc = .ok (.invokevirtual index, 3)) (hf : cells ≤ R.cells ∧ slots ≤ R.slots) (hS : va_S A H0 H locs)
    (kk : ∀ (r : Int32) (u : S) (H1 : Heap) (locs1 : List Loc), post r u → P' u H1 → H1.size ≥ H.size → va_S A H0 H1 locs1 → W p l e R s m args below meth c H1 locs1 cells slots Q (F0 m (pc + 3) ls (.int r :: rest))) : W p l e R s m args below meth c H locs cells slots Q (F0 m pc ls st) := by
  subst hav
  have ht := F.2.2.2.2
  have cb : CallB R s args own index y bytes maxL ret (zws y bytes maxL ret) { frames := fr, cells := 0, slots := 0, locals := lo } 0 0 n := callB_of n ht (good_zws hcode) rfl rfl rfl (ht _ hini) (ht _ hlink) hd hR
  exact va_calli (va_runV (As := As) (rest := rest) (b := a) F hM ⟨cb, ht _ hinst, ht _ hsel⟩ ⟨zPc_blind E P _, hrecv, zPc_pre hP hK⟩ rfl hn hsize hst (lv_room hroom) hdg hf) hS (fun _ _ h => h) (fun _ h => h) (fun r u t H1 locs1 ht1 hvm hw hB hz1 hk1 hS1 => kk r u H1 locs1 hw (by rw [← ht1]; exact hB.1) hz1 hS1)
theorem zcS_i {p : Program} {l : Launch} {e : Env} {R : Room} {s : State} {m : MethodId} {args : Array Value} {below : List Frame} {meth : Method} {c : Code} {H : Heap} {locs : List Loc} {cells slots : Nat} {Q : State → Prop} {cc : ByteArray} {pc : Nat} {ls : Array Slot} {rest st : List Value} {E : zE} {H0 : Heap} {own : String} {index maxL nL fr lo : Nat} {y : MethodName} {bytes : ByteArray} {ret : Option FieldType} {S : Type} {post : Int32 → S → Prop} {P : Heap → Prop} {P' : S → Heap → Prop} {A : Nat → Prop} (n : Nat) {As : List Value} (F : CallFix p m c cc nL s args zt own) (hM : Met l y (zws y bytes maxL ret) { frames := fr, cells := 0, slots := 0, locals := lo } (zPc E P As) (va_Qi post (fun u t => P' u t.heap ∧ zK E t) A) 0 0 A) (hcode : Cond.code y bytes maxL ret ∈ zt) (hlink : Cond.methodLink own index y ∈ zt) (hstat : Cond.static y ∈ zt) (hini : Cond.initialized y.cls ∈ zt) (hd : y.cls ≠ "java/lang/invoke/MethodHandle" ∧ y.cls ≠ "java/lang/invoke/VarHandle" ∧ (parseMethodDescriptor y.desc).map (fun d => d.parameters.length) = some n) (hR : fr + 1 ≤ R.frames ∧ 8 + (maxL + 11) + lo ≤ R.locals)
    (hP : P H) (hK : zK E s) (hsize : ls.size = nL) (hst : st = As.reverse ++ rest) (hn : As.length = n) (hroom : (rest.map fun v => v.category).sum ≤ 8) (hdg : decode cc pc = .ok (.invokestatic index, 3)) (hf : cells ≤ R.cells ∧ slots ≤ R.slots) (hS : va_S A H0 H locs)
    (kk : ∀ (r : Int32) (u : S) (H1 : Heap) (locs1 : List Loc), post r u → P' u H1 → H1.size ≥ H.size → va_S A H0 H1 locs1 → W p l e R s m args below meth c H1 locs1 cells slots Q (F0 m (pc + 3) ls (.int r :: rest))) : W p l e R s m args below meth c H locs cells slots Q (F0 m pc ls st) := by
  have ht := F.2.2.2.2
  have cb : CallB R s args own index y bytes maxL ret (zws y bytes maxL ret) { frames := fr, cells := 0, slots := 0, locals := lo } 0 0 n := callB_of n ht (good_zws hcode) rfl rfl rfl (ht _ hini) (ht _ hlink) hd hR
  exact va_calli (va_runS (As := As) (rest := rest) F hM ⟨cb, ht _ hstat⟩ ⟨zPc_blind E P _, zPc_pre hP hK⟩ rfl hn hsize hst (lv_room hroom) hdg hf) hS (fun _ _ h => h) (fun _ h => h) (fun r u t H1 locs1 ht1 hvm hw hB hz1 hk1 hS1 => kk r u H1 locs1 hw (by rw [← ht1]; exact hB.1) hz1 hS1)
theorem zcV_l {p : Program} {l : Launch} {e : Env} {R : Room} {s : State} {m : MethodId} {args : Array Value} {below : List Frame} {meth : Method} {c : Code} {H : Heap} {locs : List Loc} {cells slots : Nat} {Q : State → Prop} {cc : ByteArray} {pc : Nat} {ls : Array Slot} {rest st : List Value} {E : zE} {H0 : Heap} {own : String} {index maxL nL fr lo : Nat} {y : MethodName} {bytes : ByteArray} {ret : Option FieldType} {S : Type} {post : Int64 → S → Prop} {P : Heap → Prop} {P' : S → Heap → Prop} {A : Nat → Prop} (n : Nat) {C : String} {a : Nat} {As av : List Value} (hav : av = .ref a :: As) (F : CallFix p m c cc nL s args zt own) (hM : Met l y (zws y bytes maxL ret) { frames := fr, cells := 0, slots := 0, locals := lo } (zPc E P av) (va_Ql post (fun u t => P' u t.heap ∧ zK E t) A) 0 0 A) (hcode : Cond.code y bytes maxL ret ∈ zt) (hlink : Cond.methodLink own index y ∈ zt) (hinst : Cond.instanceMethod y ∈ zt) (hsel : Cond.selects C y y ∈ zt) (hini : Cond.initialized y.cls ∈ zt) (hd : y.cls ≠ "java/lang/invoke/MethodHandle" ∧ y.cls ≠ "java/lang/invoke/VarHandle" ∧ (parseMethodDescriptor y.desc).map (fun d => d.parameters.length) = some n) (hR : fr + 1 ≤ R.frames ∧ 8 + (maxL + 11) + lo ≤ R.locals)
    (hrecv : ∃ cellB : Cell, H[a]? = some cellB ∧ cellB.vm.isStatics = false ∧ s.vm.findClass C = some cellB.cls) (hP : P H) (hK : zK E s) (hsize : ls.size = nL) (hst : st = As.reverse ++ .ref a :: rest) (hn : As.length = n) (hroom : (rest.map fun v => v.category).sum ≤ 8) (hdg : decode cc pc = .ok (.invokevirtual index, 3)) (hf : cells ≤ R.cells ∧ slots ≤ R.slots) (hS : va_S A H0 H locs)
    (kk : ∀ (r : Int64) (u : S) (H1 : Heap) (locs1 : List Loc), post r u → P' u H1 → H1.size ≥ H.size → va_S A H0 H1 locs1 → W p l e R s m args below meth c H1 locs1 cells slots Q (F0 m (pc + 3) ls (.long r :: rest))) : W p l e R s m args below meth c H locs cells slots Q (F0 m pc ls st) := by
  subst hav
  have ht := F.2.2.2.2
  have cb : CallB R s args own index y bytes maxL ret (zws y bytes maxL ret) { frames := fr, cells := 0, slots := 0, locals := lo } 0 0 n := callB_of n ht (good_zws hcode) rfl rfl rfl (ht _ hini) (ht _ hlink) hd hR
  exact va_calll (va_runV (As := As) (rest := rest) (b := a) F hM ⟨cb, ht _ hinst, ht _ hsel⟩ ⟨zPc_blind E P _, hrecv, zPc_pre hP hK⟩ rfl hn hsize hst (lv_room hroom) hdg hf) hS (fun _ _ h => h) (fun _ h => h) (fun r u t H1 locs1 ht1 hvm hw hB hz1 hk1 hS1 => kk r u H1 locs1 hw (by rw [← ht1]; exact hB.1) hz1 hS1)
theorem zcS_l {p : Program} {l : Launch} {e : Env} {R : Room} {s : State} {m : MethodId} {args : Array Value} {below : List Frame} {meth : Method} {c : Code} {H : Heap} {locs : List Loc} {cells slots : Nat} {Q : State → Prop} {cc : ByteArray} {pc : Nat} {ls : Array Slot} {rest st : List Value} {E : zE} {H0 : Heap} {own : String} {index maxL nL fr lo : Nat} {y : MethodName} {bytes : ByteArray} {ret : Option FieldType} {S : Type} {post : Int64 → S → Prop} {P : Heap → Prop} {P' : S → Heap → Prop} {A : Nat → Prop} (n : Nat) {As : List Value} (F : CallFix p m c cc nL s args zt own) (hM : Met l y (zws y bytes maxL ret) { frames := fr, cells := 0, slots := 0, locals := lo } (zPc E P As) (va_Ql post (fun u t => P' u t.heap ∧ zK E t) A) 0 0 A) (hcode : Cond.code y bytes maxL ret ∈ zt) (hlink : Cond.methodLink own index y ∈ zt) (hstat : Cond.static y ∈ zt) (hini : Cond.initialized y.cls ∈ zt) (hd : y.cls ≠ "java/lang/invoke/MethodHandle" ∧ y.cls ≠ "java/lang/invoke/VarHandle" ∧ (parseMethodDescriptor y.desc).map (fun d => d.parameters.length) = some n) (hR : fr + 1 ≤ R.frames ∧ 8 + (maxL + 11) + lo ≤ R.locals)
    (hP : P H) (hK : zK E s) (hsize : ls.size = nL) (hst : st = As.reverse ++ rest) (hn : As.length = n) (hroom : (rest.map fun v => v.category).sum ≤ 8) (hdg : decode cc pc = .ok (.invokestatic index, 3)) (hf : cells ≤ R.cells ∧ slots ≤ R.slots) (hS : va_S A H0 H locs)
    (kk : ∀ (r : Int64) (u : S) (H1 : Heap) (locs1 : List Loc), post r u → P' u H1 → H1.size ≥ H.size → va_S A H0 H1 locs1 → W p l e R s m args below meth c H1 locs1 cells slots Q (F0 m (pc + 3) ls (.long r :: rest))) : W p l e R s m args below meth c H locs cells slots Q (F0 m pc ls st) := by
  have ht := F.2.2.2.2
  have cb : CallB R s args own index y bytes maxL ret (zws y bytes maxL ret) { frames := fr, cells := 0, slots := 0, locals := lo } 0 0 n := callB_of n ht (good_zws hcode) rfl rfl rfl (ht _ hini) (ht _ hlink) hd hR
  exact va_calll (va_runS (As := As) (rest := rest) F hM ⟨cb, ht _ hstat⟩ ⟨zPc_blind E P _, zPc_pre hP hK⟩ rfl hn hsize hst (lv_room hroom) hdg hf) hS (fun _ _ h => h) (fun _ h => h) (fun r u t H1 locs1 ht1 hvm hw hB hz1 hk1 hS1 => kk r u H1 locs1 hw (by rw [← ht1]; exact hB.1) hz1 hS1)
theorem zcV_v {p : Program} {l : Launch} {e : Env} {R : Room} {s : State} {m : MethodId} {args : Array Value} {below : List Frame} {meth : Method} {c : Code} {H : Heap} {locs : List Loc} {cells slots : Nat} {Q : State → Prop} {cc : ByteArray} {pc : Nat} {ls : Array Slot} {rest st : List Value} {E : zE} {H0 : Heap} {own : String} {index maxL nL fr lo : Nat} {y : MethodName} {bytes : ByteArray} {ret : Option FieldType} {S : Type} {post : S → Prop} {P : Heap → Prop} {P' : S → Heap → Prop} {A : Nat → Prop} (n : Nat) {C : String} {a : Nat} {As av : List Value} (hav : av = .ref a :: As) (F : CallFix p m c cc nL s args zt own) (hM : Met l y (zws y bytes maxL ret) { frames := fr, cells := 0, slots := 0, locals := lo } (zPc E P av) (va_Qv post (fun u t => P' u t.heap ∧ zK E t) A) 0 0 A) (hcode : Cond.code y bytes maxL ret ∈ zt) (hlink : Cond.methodLink own index y ∈ zt) (hinst : Cond.instanceMethod y ∈ zt) (hsel : Cond.selects C y y ∈ zt) (hini : Cond.initialized y.cls ∈ zt) (hd : y.cls ≠ "java/lang/invoke/MethodHandle" ∧ y.cls ≠ "java/lang/invoke/VarHandle" ∧ (parseMethodDescriptor y.desc).map (fun d => d.parameters.length) = some n) (hR : fr + 1 ≤ R.frames ∧ 8 + (maxL + 11) + lo ≤ R.locals)
    (hrecv : ∃ cellB : Cell, H[a]? = some cellB ∧ cellB.vm.isStatics = false ∧ s.vm.findClass C = some cellB.cls) (hP : P H) (hK : zK E s) (hsize : ls.size = nL) (hst : st = As.reverse ++ .ref a :: rest) (hn : As.length = n) (hroom : (rest.map fun v => v.category).sum ≤ 8) (hdg : decode cc pc = .ok (.invokevirtual index, 3)) (hf : cells ≤ R.cells ∧ slots ≤ R.slots) (hS : va_S A H0 H locs)
    (kk : ∀ (u : S) (H1 : Heap) (locs1 : List Loc), post u → P' u H1 → H1.size ≥ H.size → va_S A H0 H1 locs1 → W p l e R s m args below meth c H1 locs1 cells slots Q (F0 m (pc + 3) ls (rest))) : W p l e R s m args below meth c H locs cells slots Q (F0 m pc ls st) := by
  subst hav
  have ht := F.2.2.2.2
  have cb : CallB R s args own index y bytes maxL ret (zws y bytes maxL ret) { frames := fr, cells := 0, slots := 0, locals := lo } 0 0 n := callB_of n ht (good_zws hcode) rfl rfl rfl (ht _ hini) (ht _ hlink) hd hR
  exact va_callv (va_runV (As := As) (rest := rest) (b := a) F hM ⟨cb, ht _ hinst, ht _ hsel⟩ ⟨zPc_blind E P _, hrecv, zPc_pre hP hK⟩ rfl hn hsize hst (lv_room hroom) hdg hf) hS (fun _ _ h => h) (fun _ h => h) (fun u t H1 locs1 ht1 hvm hw hB hz1 hk1 hS1 => kk u H1 locs1 hw (by rw [← ht1]; exact hB.1) hz1 hS1)
theorem zcS_v {p : Program} {l : Launch} {e : Env} {R : Room} {s : State} {m : MethodId} {args : Array Value} {below : List Frame} {meth : Method} {c : Code} {H : Heap} {locs : List Loc} {cells slots : Nat} {Q : State → Prop} {cc : ByteArray} {pc : Nat} {ls : Array Slot} {rest st : List Value} {E : zE} {H0 : Heap} {own : String} {index maxL nL fr lo : Nat} {y : MethodName} {bytes : ByteArray} {ret : Option FieldType} {S : Type} {post : S → Prop} {P : Heap → Prop} {P' : S → Heap → Prop} {A : Nat → Prop} (n : Nat) {As : List Value} (F : CallFix p m c cc nL s args zt own) (hM : Met l y (zws y bytes maxL ret) { frames := fr, cells := 0, slots := 0, locals := lo } (zPc E P As) (va_Qv post (fun u t => P' u t.heap ∧ zK E t) A) 0 0 A) (hcode : Cond.code y bytes maxL ret ∈ zt) (hlink : Cond.methodLink own index y ∈ zt) (hstat : Cond.static y ∈ zt) (hini : Cond.initialized y.cls ∈ zt) (hd : y.cls ≠ "java/lang/invoke/MethodHandle" ∧ y.cls ≠ "java/lang/invoke/VarHandle" ∧ (parseMethodDescriptor y.desc).map (fun d => d.parameters.length) = some n) (hR : fr + 1 ≤ R.frames ∧ 8 + (maxL + 11) + lo ≤ R.locals)
    (hP : P H) (hK : zK E s) (hsize : ls.size = nL) (hst : st = As.reverse ++ rest) (hn : As.length = n) (hroom : (rest.map fun v => v.category).sum ≤ 8) (hdg : decode cc pc = .ok (.invokestatic index, 3)) (hf : cells ≤ R.cells ∧ slots ≤ R.slots) (hS : va_S A H0 H locs)
    (kk : ∀ (u : S) (H1 : Heap) (locs1 : List Loc), post u → P' u H1 → H1.size ≥ H.size → va_S A H0 H1 locs1 → W p l e R s m args below meth c H1 locs1 cells slots Q (F0 m (pc + 3) ls (rest))) : W p l e R s m args below meth c H locs cells slots Q (F0 m pc ls st) := by
  have ht := F.2.2.2.2
  have cb : CallB R s args own index y bytes maxL ret (zws y bytes maxL ret) { frames := fr, cells := 0, slots := 0, locals := lo } 0 0 n := callB_of n ht (good_zws hcode) rfl rfl rfl (ht _ hini) (ht _ hlink) hd hR
  exact va_callv (va_runS (As := As) (rest := rest) F hM ⟨cb, ht _ hstat⟩ ⟨zPc_blind E P _, zPc_pre hP hK⟩ rfl hn hsize hst (lv_room hroom) hdg hf) hS (fun _ _ h => h) (fun _ h => h) (fun u t H1 locs1 ht1 hvm hw hB hz1 hk1 hS1 => kk u H1 locs1 hw (by rw [← ht1]; exact hB.1) hz1 hS1)
/-- the class of a Whole -/
theorem zW_recv {E : zE} {B k : Nat} {v : Nat → zV} {o : Nat → va_E} {H : Heap} {s : State} (hK : zK E s) (hZ : zD E B v o H) (hk : lp k = true) : ∃ cellB : Cell, H[B + k]? = some cellB ∧ cellB.vm.isStatics = false ∧ s.vm.findClass "WholeDesk$Whole" = some cellB.cls :=
  va_recv (q := ("WholeDesk$Whole", TW, 3)) hK hZ.1 (ci := 0) (q0 := k) rfl (by rw [zB_at (by have := lp_lt hk; omega), zO_W hk])
