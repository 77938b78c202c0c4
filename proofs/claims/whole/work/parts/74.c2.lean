theorem lZ_00 : lZ ((0 : Nat) : Int) = 0 := rfl
theorem iZ_00 : iZ ((0 : Nat) : Int) = 0 := rfl
theorem cell_l {cA : ClassId} {n : Nat} : vp_cell cA (n, .inr (.inl (fun _ => lZ ((0 : Nat) : Int)))) = arrV cA n (fun _ => defaultValue .long) := rfl
theorem cell_b {cA : ClassId} {n : Nat} : vp_cell cA (n, .inl (fun _ => iZ (sb 0))) = arrV cA n (fun _ => defaultValue .byte) := rfl
theorem cell_i {cA : ClassId} {n : Nat} : vp_cell cA (n, .inl (fun _ => iZ ((0 : Nat) : Int))) = arrV cA n (fun _ => defaultValue .int) := rfl
theorem cell_z {cA : ClassId} {n : Nat} : vp_cell cA (n, .inl (fun _ => iZ ((0 : Nat) : Int))) = arrV cA n (fun _ => defaultValue .boolean) := rfl
/-- the desk as it is made -/
def zT0 (E : zE) (B : Nat) : Nat → va_E := zO E B (fun _ => (fun _ => 0, 0, false)) (zF E B 27 29 0 (fun _ => 0) 2049 (fun _ => 0))
theorem zT_W {E : zE} {B n : Nat} (h : lp n = true) : zT0 E B n = .inr (0, [.ref (B + (n + 1)), .int (iZ ((0 : Nat) : Int)), .int (iZ (bZ false))]) := zO_W h
theorem zT_A {E : zE} {B n : Nat} (h : lp n = true) : zT0 E B (n + 1) = .inl (E.2.1, 152, .inr (.inl (fun _ => lZ ((0 : Nat) : Int)))) := zO_A h
theorem zT_0 {E : zE} {B : Nat} : zT0 E B 0 = .inr (4, [.ref (B + 1), .ref (B + 22), .ref (B + 72), .ref (B + 76)]) := by unfold zT0; rw [zO_o (by decide) (by decide)]; rfl
theorem zT_1 {E : zE} {B : Nat} : zT0 E B 1 = .inl (E.2.2.2.1, 10, .inr (.inr (.inr (.inr (fun i => some (B + (2 + 2 * i))))))) := by unfold zT0; rw [zO_o (by decide) (by decide)]; rfl
theorem zT_22 {E : zE} {B : Nat} : zT0 E B 22 = .inr (1, [.ref (B + 23), .ref (B + 25), .ref (B + 27), .ref (B + 29), .ref (B + 31), .ref (B + 33), .ref (B + 35), .ref (B + 37), .ref (B + 39)]) := by unfold zT0; rw [zO_o (by decide) (by decide)]; rfl
theorem zT_39 {E : zE} {B : Nat} : zT0 E B 39 = .inl (E.2.2.2.1, 16, .inr (.inr (.inr (.inr (fun i => some (B + (40 + 2 * i))))))) := by unfold zT0; rw [zO_o (by decide) (by decide)]; rfl
theorem zT_72 {E : zE} {B : Nat} : zT0 E B 72 = .inr (2, [.int (iZ ((0 : Nat) : Int)), .ref (B + 73), .ref (B + 74)]) := by unfold zT0; rw [zO_o (by decide) (by decide)]; rfl
theorem zT_73 {E : zE} {B : Nat} : zT0 E B 73 = .inl (E.2.2.1, 2100, .inl (fun _ => iZ (sb 0))) := by unfold zT0; rw [zO_o (by decide) (by decide)]; rfl
theorem zT_76 {E : zE} {B : Nat} : zT0 E B 76 = .inr (3, [.ref (B + 77), .int (iZ ((2049 : Nat) : Int)), .ref (B + 78)]) := by unfold zT0; rw [zO_o (by decide) (by decide)]; rfl
theorem zT_77 {E : zE} {B : Nat} : zT0 E B 77 = .inl (E.2.2.1, 2049, .inl (fun _ => iZ (sb 0))) := by unfold zT0; rw [zO_o (by decide) (by decide)]; rfl
theorem up_eq {O O2 : Nat → va_E} {n : Nat} {x : va_E} (h1 : ∀ k, k < n → O k = O2 k) (h2 : O2 n = x) : ∀ k, k < n + 1 → va_up O n x k = O2 k := fun k hk => by
  by_cases h : k = n
  · rw [h, va_up_self, h2]
  · rw [va_up_ne _ _ h]; exact h1 k (by omega)
set_option maxHeartbeats 4000000 in
set_option maxRecDepth 100000 in
theorem mW_init (l : Launch) (E : zE) (B : Nat) (n : Nat) (O O2 : Nat → va_E) (hO : O n = .inr (0, [.null, .int 0, .int 0])) (h1 : ∀ k, k < n → O k = O2 k) (h2 : O2 n = .inr (0, [.ref (B + (n + 1)), .int (iZ ((0 : Nat) : Int)), .int (iZ (bZ false))])) (h3 : O2 (n + 1) = .inl (E.2.1, 152, .inr (.inl (fun _ => lZ ((0 : Nat) : Int))))) :
    Met l yW_init (zws yW_init cW_init 1 none) { frames := 1, cells := 1, slots := 152, locals := 20 } (zPn E (zG E B (n + 1) O) [.ref (B + n)]) (va_Qv (fun _ : Unit => True) (fun _ t => zG E B (n + 2) O2 t.heap ∧ zK E t) (zGA B)) 1 152 (zGA B) := by
  refine zof_n (P' := fun HH => zG E B (n + 2) O2 HH) (by decide) rfl (Nat.le_of_ble_eq_true rfl) fun p e R s m args below meth c Q ls hR hx hb hml ht hown hin hO9 hK hZ hl hend => ?_
  have hS : va_S (zGA B) s.heap s.heap [] := va_S.rf
  have hown : s.vm.findClass "WholeDesk$Whole" = some m.cls := hown
  have hl : lv_has ls 1 [(0, .ref (B + n))] := hl
  refine lv_aload_n hx hb dW_init_0 rfl (lv_at hl 0 rfl) ?_
  refine W.objInit hx hb hown (ht _ tw_30) (ht _ tw_22) (ht _ tw_23) rfl (by rw [hml]; exact hl.1) rfl dW_init_1 (by rw [hR]; decide) (by rw [hR]; exact Nat.le_of_ble_eq_true rfl) ?_
  refine W.eq (g2 := F0 m 4 ls []) rfl ?_
  refine lv_aload_n hx hb dW_init_4 rfl (lv_at hl 0 rfl) ?_
  refine lv_sipush (v := iZ (152)) hx hb dW_init_5 (by decide) ?_
  refine zg_newa (ty := .long) (a0 := (152, .inr (.inl (fun _ => lZ ((0 : Nat) : Int))))) (n := 152) hx hb rfl ht tw_50 hK 0 rfl (fun h => h) cell_l (by decide) (by decide) (by decide) hZ hS (by rw [hR]; decide) (by rw [hR]; decide) dW_init_8 (fun H hZ hS => ?_)
  refine zg_putF (ci := 0) (C := "WholeDesk$Whole") (T := TW) (n := 3) (ty := .array .long) (v := .ref (B + (n + 1))) hx hb ht inW tyW tyW_ok nmW hown hK hZ hS n (by omega) (by rw [va_up_ne _ _ (by omega), hO]) rfl 0 (by decide) tw_31 (fun _ h9 => h9) rfl hin rfl (by decide +kernel) rfl rfl (Nat.le_of_ble_eq_true rfl) dW_init_10 (fun H locs hZ hS => ?_)
  have hZ : zG E B (n + 2) O2 H := hZ.to (fun k hk => by by_cases h8 : k = n; rw [h8, va_up_self, h2]; rfl; rw [va_up_ne _ _ h8]; by_cases h9 : k = n + 1; rw [h9, va_up_self, h3]; rw [va_up_ne _ _ h9]; exact h1 k (by omega))
  exact hend 13 _ _ _ dW_init_13 (hZ) hS
theorem zg_whole {p : Program} {l : Launch} {e : Env} {R : Room} {s : State} {m : MethodId} {args : Array Value} {below : List Frame} {meth : Method} {c : Code} {H : Heap} {locs : List Loc} {cells slots : Nat} {Q : State → Prop} {cc : ByteArray} {pc : Nat} {ls : Array Slot} {rest : List Value} {E : zE} {B : Nat} {O : Nat → va_E} {H0 : Heap} {own : String} {i1 i2 nL N : Nat} {O2 : Nat → va_E} (F : CallFix p m c cc nL s args zt own) (hown : s.vm.findClass own = some m.cls) (hcl : Cond.classLink own i1 "WholeDesk$Whole" ∈ zt) (hlk : Cond.methodLink own i2 ⟨"WholeDesk$Whole", "<init>", "()V"⟩ ∈ zt) (hK : zK E s) (hO9 : va_AO "WholeDesk$Whole" s) (h1 : ∀ k, k < N → O k = O2 k) (h2 : O2 N = .inr (0, [.ref (B + (N + 1)), .int (iZ ((0 : Nat) : Int)), .int (iZ (bZ false))])) (h3 : O2 (N + 1) = .inl (E.2.1, 152, .inr (.inl (fun _ => lZ ((0 : Nat) : Int))))) (hZ : zG E B N O H) (hS : va_S (zGA B) H0 H locs) (hcells : cells + 2 ≤ R.cells) (hslots : slots + 155 ≤ R.slots) (hR : 1 + 1 ≤ R.frames ∧ 8 + (1 + 11) + 20 ≤ R.locals) (hsize : ls.size = nL) (hroom : ((Value.ref (B + N) :: rest).map fun v => v.category).sum ≤ 8) (hd0 : decode cc pc = .ok (.new i1, 3)) (hd1 : decode cc (pc + 3) = .ok (.dup, 1)) (hd2 : decode cc (pc + 3 + 1) = .ok (.invokespecial i2, 3))
    (kk : ∀ (H1 : Heap) (locs1 : List Loc), zG E B (N + 2) O2 H1 → va_S (zGA B) H0 H1 locs1 → W p l e R s m args below meth c H1 locs1 (cells + 2) (slots + 155) Q (F0 m (pc + 3 + 1 + 3) ls (.ref (B + N) :: rest))) : W p l e R s m args below meth c H locs cells slots Q (F0 m pc ls rest) := by
  have hx := F.1
  have hb := F.2.1
  have ht := F.2.2.2.2
  refine zg_new (ci := 0) (fs := [.null, .int 0, .int 0]) (T := TW) (n := 3) hx hb ht inW tyW tyW_ok hown hcl tw_26 tw_2 hK rfl (fun j hj => by rcases (show j = 0 ∨ j = 1 ∨ j = 2 by omega) with rfl | rfl | rfl <;> rfl) hZ hS (by omega) (by omega) hd0 (fun H hZ hS => ?_)
  refine lv_dup hx hb hd1 rfl ?_
  refine zcI (P' := fun H => zG E B (N + 2) O2 H) F (mW_init l E B N _ O2 (va_up_self _ _ _) (fun k hk => by rw [va_up_ne _ _ (by omega)]; exact h1 k hk) h2 h3) tw_29 hlk tw_28 tw_2 rfl qW_init hR hZ hK hO9 hsize hroom hd2 ⟨by omega, by omega⟩ (fun _ h => h) hS (fun H locs hZ hS _ => ?_)
  exact kk H locs hZ hS
set_option maxHeartbeats 4000000 in
set_option maxRecDepth 100000 in
theorem mD_init (l : Launch) (E : zE) (B : Nat) (O : Nat → va_E) (hO : ∀ k, 72 ≤ k → k < 76 → O k = zT0 E B k) :
    Met l yD_init (zws yD_init cD_init 1 none) { frames := 2, cells := 3, slots := 2255, locals := 40 } (zPn E (zG E B 73 (va_up O 72 (.inr (2, [.int 0, .null, .null])))) [.ref (B + 72)]) (va_Qv (fun _ : Unit => True) (fun _ t => zG E B 76 O t.heap ∧ zK E t) (zGA B)) 3 2255 (zGA B) := by
  refine zof_n (P' := fun HH => zG E B 76 O HH) (by decide) rfl (Nat.le_of_ble_eq_true rfl) fun p e R s m args below meth c Q ls hR hx hb hml ht hown hin hO9 hK hZ hl hend => ?_
  have hS : va_S (zGA B) s.heap s.heap [] := va_S.rf
  have hown : s.vm.findClass "WholeDesk$Draft" = some m.cls := hown
  have hl : lv_has ls 1 [(0, .ref (B + 72))] := hl
  refine lv_aload_n hx hb dD_init_0 rfl (lv_at hl 0 rfl) ?_
  refine W.objInit hx hb hown (ht _ tw_94) (ht _ tw_22) (ht _ tw_23) rfl (by rw [hml]; exact hl.1) rfl dD_init_1 (by rw [hR]; decide) (by rw [hR]; exact Nat.le_of_ble_eq_true rfl) ?_
  refine W.eq (g2 := F0 m 4 ls []) rfl ?_
  refine lv_aload_n hx hb dD_init_4 rfl (lv_at hl 0 rfl) ?_
  refine lv_sipush (v := iZ (2100)) hx hb dD_init_5 (by decide) ?_
  refine zg_newa (ty := .byte) (a0 := (2100, .inl (fun _ => iZ (sb 0)))) (n := 2100) hx hb rfl ht tw_108 hK 1 rfl (fun h => h) cell_b (by decide) (by decide) (by decide) hZ hS (by rw [hR]; decide) (by rw [hR]; decide) dD_init_8 (fun H hZ hS => ?_)
  refine zg_putF (ci := 2) (C := "WholeDesk$Draft") (T := TD) (n := 3) (ty := .array .byte) (v := .ref (B + 73)) hx hb ht inD tyD tyD_ok nmD hown hK hZ hS 72 (by omega) (by rw [va_up_ne _ _ (by decide), va_up_self]) rfl 1 (by decide) tw_99 (fun _ h9 => h9) rfl hin rfl (by decide +kernel) rfl rfl (Nat.le_of_ble_eq_true rfl) dD_init_10 (fun H locs hZ hS => ?_)
  have hZ : zG E B 74 (va_up O 72 (.inr (2, [.int 0, .ref (B + 73), .null]))) H := hZ.to (fun k hk => by by_cases h8 : k = 72; rw [h8, va_up_self, va_up_self]; rfl; rw [va_up_ne _ _ h8, va_up_ne _ _ h8]; by_cases h9 : k = 73; rw [h9, va_up_self, hO 73 (by decide) (by decide), zT_73]; rw [va_up_ne _ _ h9, va_up_ne _ _ h8])
  refine lv_aload_n hx hb dD_init_13 rfl (lv_at hl 0 rfl) ?_
  refine zg_whole (N := 74) (O2 := (va_up O 72 (.inr (2, [.int 0, .ref (B + 73), .null])))) ⟨hx, hb, hml, hown, ht⟩ hown tw_95 tw_96 hK hO9 (fun _ _ => rfl) (by rw [va_up_ne _ _ (by decide), hO 74 (by decide) (by decide)]; exact zT_W (by decide)) (by rw [va_up_ne _ _ (by decide), hO 75 (by decide) (by decide)]; exact zT_A (n := 74) (by decide)) hZ hS (by rw [hR]; decide) (by rw [hR]; decide) (by rw [hR]; decide) hl.1 (Nat.le_of_ble_eq_true rfl) dD_init_14 dD_init_17 dD_init_18 (fun H locs hZ hS => ?_)
  refine zg_putF (ci := 2) (C := "WholeDesk$Draft") (T := TD) (n := 3) (ty := .object "WholeDesk$Whole") (v := .ref (B + 74)) hx hb ht inD tyD tyD_ok nmD hown hK hZ hS 72 (by omega) (by rw [va_up_self]) rfl 2 (by decide) tw_100 (fun _ h9 => h9) rfl hin rfl (by decide +kernel) rfl rfl (Nat.le_of_ble_eq_true rfl) dD_init_21 (fun H locs hZ hS => ?_)
  have hZ : zG E B 76 O H := hZ.to (fun k hk => by by_cases h8 : k = 72; rw [h8, va_up_self, hO 72 (by decide) (by decide), zT_72]; rfl; rw [va_up_ne _ _ h8, va_up_ne _ _ h8])
  exact hend 24 _ _ _ dD_init_24 (hZ) hS
set_option maxHeartbeats 4000000 in
set_option maxRecDepth 100000 in
theorem mG_init (l : Launch) (E : zE) (B : Nat) (O : Nat → va_E) (hO : ∀ k, 76 ≤ k → k < 80 → O k = zT0 E B k) :
    Met l yG_init (zws yG_init cG_init 1 none) { frames := 2, cells := 3, slots := 2204, locals := 40 } (zPn E (zG E B 77 (va_up O 76 (.inr (3, [.null, .int 0, .null])))) [.ref (B + 76)]) (va_Qv (fun _ : Unit => True) (fun _ t => zG E B 80 O t.heap ∧ zK E t) (zGA B)) 3 2204 (zGA B) := by
  refine zof_n (P' := fun HH => zG E B 80 O HH) (by decide) rfl (Nat.le_of_ble_eq_true rfl) fun p e R s m args below meth c Q ls hR hx hb hml ht hown hin hO9 hK hZ hl hend => ?_
  have hS : va_S (zGA B) s.heap s.heap [] := va_S.rf
  have hown : s.vm.findClass "WholeDesk$Writing" = some m.cls := hown
  have hl : lv_has ls 1 [(0, .ref (B + 76))] := hl
  refine lv_aload_n hx hb dG_init_0 rfl (lv_at hl 0 rfl) ?_
  refine W.objInit hx hb hown (ht _ tw_114) (ht _ tw_22) (ht _ tw_23) rfl (by rw [hml]; exact hl.1) rfl dG_init_1 (by rw [hR]; decide) (by rw [hR]; exact Nat.le_of_ble_eq_true rfl) ?_
  refine W.eq (g2 := F0 m 4 ls []) rfl ?_
  refine lv_aload_n hx hb dG_init_4 rfl (lv_at hl 0 rfl) ?_
  refine lv_sipush (v := iZ (2049)) hx hb dG_init_5 (by decide) ?_
  refine zg_newa (ty := .byte) (a0 := (2049, .inl (fun _ => iZ (sb 0)))) (n := 2049) hx hb rfl ht tw_108 hK 1 rfl (fun h => h) cell_b (by decide) (by decide) (by decide) hZ hS (by rw [hR]; decide) (by rw [hR]; decide) dG_init_8 (fun H hZ hS => ?_)
  refine zg_putF (ci := 3) (C := "WholeDesk$Writing") (T := TG) (n := 3) (ty := .array .byte) (v := .ref (B + 77)) hx hb ht inG tyG tyG_ok nmG hown hK hZ hS 76 (by omega) (by rw [va_up_ne _ _ (by decide), va_up_self]) rfl 0 (by decide) tw_117 (fun _ h9 => h9) rfl hin rfl (by decide +kernel) rfl rfl (Nat.le_of_ble_eq_true rfl) dG_init_10 (fun H locs hZ hS => ?_)
  have hZ : zG E B 78 (va_up O 76 (.inr (3, [.ref (B + 77), .int 0, .null]))) H := hZ.to (fun k hk => by by_cases h8 : k = 76; rw [h8, va_up_self, va_up_self]; rfl; rw [va_up_ne _ _ h8, va_up_ne _ _ h8]; by_cases h9 : k = 77; rw [h9, va_up_self, hO 77 (by decide) (by decide), zT_77]; rw [va_up_ne _ _ h9, va_up_ne _ _ h8])
  refine lv_aload_n hx hb dG_init_13 rfl (lv_at hl 0 rfl) ?_
  refine lv_sipush (v := iZ (2049)) hx hb dG_init_14 (by decide) ?_
  refine zg_put (ci := 3) (C := "WholeDesk$Writing") (T := TG) (n := 3) (ty := .int) (v := .int (iZ 2049)) hx hb ht inG tyG tyG_ok nmG hown hK hZ hS 76 (by omega) (by rw [va_up_self]) rfl 1 (by decide) tw_118 (fun _ h9 => h9) rfl (by decide +kernel) rfl rfl (Nat.le_of_ble_eq_true rfl) dG_init_17 (fun H locs hZ hS => ?_)
  have hZ : zG E B 78 (va_up O 76 (.inr (3, [.ref (B + 77), .int (iZ 2049), .null]))) H := hZ.to (fun k hk => by by_cases h8 : k = 76; rw [h8, va_up_self, va_up_self]; rfl; rw [va_up_ne _ _ h8, va_up_ne _ _ h8, va_up_ne _ _ h8])
  refine lv_aload_n hx hb dG_init_20 rfl (lv_at hl 0 rfl) ?_
  refine zg_whole (N := 78) (O2 := (va_up O 76 (.inr (3, [.ref (B + 77), .int (iZ 2049), .null])))) ⟨hx, hb, hml, hown, ht⟩ hown tw_115 tw_116 hK hO9 (fun _ _ => rfl) (by rw [va_up_ne _ _ (by decide), hO 78 (by decide) (by decide)]; exact zT_W (by decide)) (by rw [va_up_ne _ _ (by decide), hO 79 (by decide) (by decide)]; exact zT_A (n := 78) (by decide)) hZ hS (by rw [hR]; decide) (by rw [hR]; decide) (by rw [hR]; decide) hl.1 (Nat.le_of_ble_eq_true rfl) dG_init_21 dG_init_24 dG_init_25 (fun H locs hZ hS => ?_)
  refine zg_putF (ci := 3) (C := "WholeDesk$Writing") (T := TG) (n := 3) (ty := .object "WholeDesk$Whole") (v := .ref (B + 78)) hx hb ht inG tyG tyG_ok nmG hown hK hZ hS 76 (by omega) (by rw [va_up_self]) rfl 2 (by decide) tw_119 (fun _ h9 => h9) rfl hin rfl (by decide +kernel) rfl rfl (Nat.le_of_ble_eq_true rfl) dG_init_28 (fun H locs hZ hS => ?_)
  have hZ : zG E B 80 O H := hZ.to (fun k hk => by by_cases h8 : k = 76; rw [h8, va_up_self, hO 76 (by decide) (by decide), zT_76]; rfl; rw [va_up_ne _ _ h8, va_up_ne _ _ h8])
  exact hend 31 _ _ _ dG_init_31 (hZ) hS