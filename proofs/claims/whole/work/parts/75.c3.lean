/-- the Wholes that stand in an array, i of n made -/
def wfn (B o n i : Nat) : Nat → Option Nat := fun j => if j < i ∨ n ≤ j then some (B + (o + 2 * j)) else none
theorem wfn_0 {B o n : Nat} : ∀ j, j < n → wfn B o n 0 j = none := fun j hj => by unfold wfn; rw [if_neg (by omega)]
theorem wfn_s {B o n i : Nat} : va_up (wfn B o n i) i (some (B + (o + 2 * i))) = wfn B o n (i + 1) := by
  funext j
  by_cases h : j = i
  · subst h; rw [va_up_self]; unfold wfn; rw [if_pos (by omega)]
  · rw [va_up_ne _ _ h]
    unfold wfn
    by_cases h2 : j < i ∨ n ≤ j
    · rw [if_pos h2, if_pos (by omega)]
    · rw [if_neg h2, if_neg (by omega)]
theorem wfn_n {B o n : Nat} : wfn B o n n = fun j => some (B + (o + 2 * j)) := by
  funext j
  unfold wfn
  rw [if_pos (by omega)]
theorem lpR {i : Nat} (h : i < 10) : lp (2 + 2 * i) = true := by rw [lp_iff]; omega
theorem lpP {i : Nat} (h : i < 16) : lp (40 + 2 * i) = true := by rw [lp_iff]; omega
theorem va_up_up {α : Type} {O : Nat → α} {n : Nat} {x y : α} : va_up (va_up O n x) n y = va_up O n y := by
  funext k
  by_cases h : k = n
  · rw [h, va_up_self, va_up_self]
  · rw [va_up_ne _ _ h, va_up_ne _ _ h, va_up_ne _ _ h]
set_option maxHeartbeats 4000000 in
set_option maxRecDepth 100000 in
theorem mK_init (l : Launch) (E : zE) (B : Nat) (O : Nat → va_E) (hO : ∀ k, 22 ≤ k → k < 72 → O k = zT0 E B k) :
    Met l yK_init (zws yK_init cK_init 2 none) { frames := 2, cells := 49, slots := 3736, locals := 45 } (zPn E (zG E B 23 (va_up O 22 (.inr (1, [.null, .null, .null, .null, .null, .null, .null, .null, .null])))) [.ref (B + 22)]) (va_Qv (fun _ : Unit => True) (fun _ t => zG E B 72 O t.heap ∧ zK E t) (zGA B)) 49 3736 (zGA B) := by
  refine zof_n (P' := fun HH => zG E B 72 O HH) (by decide) rfl (Nat.le_of_ble_eq_true rfl) fun p e R s m args below meth c Q ls hR hx hb hml ht hown hin hO9 hK hZ hl hend => ?_
  have hS : va_S (zGA B) s.heap s.heap [] := va_S.rf
  have hown : s.vm.findClass "WholeDesk$Reckoner" = some m.cls := hown
  have hl : lv_has ls 2 [(0, .ref (B + 22))] := hl
  refine lv_aload_n hx hb dK_init_0 rfl (lv_at hl 0 rfl) ?_
  refine W.objInit hx hb hown (ht _ tw_56) (ht _ tw_22) (ht _ tw_23) rfl (by rw [hml]; exact hl.1) rfl dK_init_1 (by rw [hR]; decide) (by rw [hR]; exact Nat.le_of_ble_eq_true rfl) ?_
  refine W.eq (g2 := F0 m 4 ls []) rfl ?_
  refine lv_aload_n hx hb dK_init_4 rfl (lv_at hl 0 rfl) ?_
  refine zg_whole (N := 23) (O2 := (va_up O 22 (.inr (1, [.null, .null, .null, .null, .null, .null, .null, .null, .null])))) ⟨hx, hb, hml, hown, ht⟩ hown tw_57 tw_58 hK hO9 (fun _ _ => rfl) (by rw [va_up_ne _ _ (by decide), hO 23 (by decide) (by decide)]; exact zT_W (by decide)) (by rw [va_up_ne _ _ (by decide), hO 24 (by decide) (by decide)]; exact zT_A (n := 23) (by decide)) hZ hS (by rw [hR]; decide) (by rw [hR]; decide) (by rw [hR]; decide) hl.1 (Nat.le_of_ble_eq_true rfl) dK_init_5 dK_init_8 dK_init_9 (fun H locs hZ hS => ?_)
  refine zg_putF (ci := 1) (C := "WholeDesk$Reckoner") (T := TK) (n := 9) (ty := .object "WholeDesk$Whole") (v := .ref (B + 23)) hx hb ht inK tyK tyK_ok nmK hown hK hZ hS 22 (by omega) (by rw [va_up_self]) rfl 0 (by decide) tw_59 (fun _ h9 => h9) rfl hin rfl (by decide +kernel) rfl rfl (Nat.le_of_ble_eq_true rfl) dK_init_12 (fun H locs hZ hS => ?_)
  have hZ : zG E B 25 (va_up O 22 (.inr (1, [.ref (B + 23), .null, .null, .null, .null, .null, .null, .null, .null]))) H := hZ.to (fun k hk => by by_cases h8 : k = 22; rw [h8, va_up_self, va_up_self]; rfl; rw [va_up_ne _ _ h8, va_up_ne _ _ h8, va_up_ne _ _ h8])
  refine lv_aload_n hx hb dK_init_15 rfl (lv_at hl 0 rfl) ?_
  refine zg_whole (N := 25) (O2 := (va_up O 22 (.inr (1, [.ref (B + 23), .null, .null, .null, .null, .null, .null, .null, .null])))) ⟨hx, hb, hml, hown, ht⟩ hown tw_57 tw_58 hK hO9 (fun _ _ => rfl) (by rw [va_up_ne _ _ (by decide), hO 25 (by decide) (by decide)]; exact zT_W (by decide)) (by rw [va_up_ne _ _ (by decide), hO 26 (by decide) (by decide)]; exact zT_A (n := 25) (by decide)) hZ hS (by rw [hR]; decide) (by rw [hR]; decide) (by rw [hR]; decide) hl.1 (Nat.le_of_ble_eq_true rfl) dK_init_16 dK_init_19 dK_init_20 (fun H locs hZ hS => ?_)
  refine zg_putF (ci := 1) (C := "WholeDesk$Reckoner") (T := TK) (n := 9) (ty := .object "WholeDesk$Whole") (v := .ref (B + 25)) hx hb ht inK tyK tyK_ok nmK hown hK hZ hS 22 (by omega) (by rw [va_up_self]) rfl 1 (by decide) tw_61 (fun _ h9 => h9) rfl hin rfl (by decide +kernel) rfl rfl (Nat.le_of_ble_eq_true rfl) dK_init_23 (fun H locs hZ hS => ?_)
  have hZ : zG E B 27 (va_up O 22 (.inr (1, [.ref (B + 23), .ref (B + 25), .null, .null, .null, .null, .null, .null, .null]))) H := hZ.to (fun k hk => by by_cases h8 : k = 22; rw [h8, va_up_self, va_up_self]; rfl; rw [va_up_ne _ _ h8, va_up_ne _ _ h8, va_up_ne _ _ h8])
  refine lv_aload_n hx hb dK_init_26 rfl (lv_at hl 0 rfl) ?_
  refine zg_whole (N := 27) (O2 := (va_up O 22 (.inr (1, [.ref (B + 23), .ref (B + 25), .null, .null, .null, .null, .null, .null, .null])))) ⟨hx, hb, hml, hown, ht⟩ hown tw_57 tw_58 hK hO9 (fun _ _ => rfl) (by rw [va_up_ne _ _ (by decide), hO 27 (by decide) (by decide)]; exact zT_W (by decide)) (by rw [va_up_ne _ _ (by decide), hO 28 (by decide) (by decide)]; exact zT_A (n := 27) (by decide)) hZ hS (by rw [hR]; decide) (by rw [hR]; decide) (by rw [hR]; decide) hl.1 (Nat.le_of_ble_eq_true rfl) dK_init_27 dK_init_30 dK_init_31 (fun H locs hZ hS => ?_)
  refine zg_put (ci := 1) (C := "WholeDesk$Reckoner") (T := TK) (n := 9) (ty := .object "WholeDesk$Whole") (v := .ref (B + 27)) hx hb ht inK tyK tyK_ok nmK hown hK hZ hS 22 (by omega) (by rw [va_up_self]) rfl 2 (by decide) tw_63 (fun _ h9 => h9) rfl (by decide +kernel) rfl rfl (Nat.le_of_ble_eq_true rfl) dK_init_34 (fun H locs hZ hS => ?_)
  have hZ : zG E B 29 (va_up O 22 (.inr (1, [.ref (B + 23), .ref (B + 25), .ref (B + 27), .null, .null, .null, .null, .null, .null]))) H := hZ.to (fun k hk => by by_cases h8 : k = 22; rw [h8, va_up_self, va_up_self]; rfl; rw [va_up_ne _ _ h8, va_up_ne _ _ h8, va_up_ne _ _ h8])
  refine lv_aload_n hx hb dK_init_37 rfl (lv_at hl 0 rfl) ?_
  refine zg_whole (N := 29) (O2 := (va_up O 22 (.inr (1, [.ref (B + 23), .ref (B + 25), .ref (B + 27), .null, .null, .null, .null, .null, .null])))) ⟨hx, hb, hml, hown, ht⟩ hown tw_57 tw_58 hK hO9 (fun _ _ => rfl) (by rw [va_up_ne _ _ (by decide), hO 29 (by decide) (by decide)]; exact zT_W (by decide)) (by rw [va_up_ne _ _ (by decide), hO 30 (by decide) (by decide)]; exact zT_A (n := 29) (by decide)) hZ hS (by rw [hR]; decide) (by rw [hR]; decide) (by rw [hR]; decide) hl.1 (Nat.le_of_ble_eq_true rfl) dK_init_38 dK_init_41 dK_init_42 (fun H locs hZ hS => ?_)
  refine zg_put (ci := 1) (C := "WholeDesk$Reckoner") (T := TK) (n := 9) (ty := .object "WholeDesk$Whole") (v := .ref (B + 29)) hx hb ht inK tyK tyK_ok nmK hown hK hZ hS 22 (by omega) (by rw [va_up_self]) rfl 3 (by decide) tw_64 (fun _ h9 => h9) rfl (by decide +kernel) rfl rfl (Nat.le_of_ble_eq_true rfl) dK_init_45 (fun H locs hZ hS => ?_)
  have hZ : zG E B 31 (va_up O 22 (.inr (1, [.ref (B + 23), .ref (B + 25), .ref (B + 27), .ref (B + 29), .null, .null, .null, .null, .null]))) H := hZ.to (fun k hk => by by_cases h8 : k = 22; rw [h8, va_up_self, va_up_self]; rfl; rw [va_up_ne _ _ h8, va_up_ne _ _ h8, va_up_ne _ _ h8])
  refine lv_aload_n hx hb dK_init_48 rfl (lv_at hl 0 rfl) ?_
  refine zg_whole (N := 31) (O2 := (va_up O 22 (.inr (1, [.ref (B + 23), .ref (B + 25), .ref (B + 27), .ref (B + 29), .null, .null, .null, .null, .null])))) ⟨hx, hb, hml, hown, ht⟩ hown tw_57 tw_58 hK hO9 (fun _ _ => rfl) (by rw [va_up_ne _ _ (by decide), hO 31 (by decide) (by decide)]; exact zT_W (by decide)) (by rw [va_up_ne _ _ (by decide), hO 32 (by decide) (by decide)]; exact zT_A (n := 31) (by decide)) hZ hS (by rw [hR]; decide) (by rw [hR]; decide) (by rw [hR]; decide) hl.1 (Nat.le_of_ble_eq_true rfl) dK_init_49 dK_init_52 dK_init_53 (fun H locs hZ hS => ?_)
  refine zg_putF (ci := 1) (C := "WholeDesk$Reckoner") (T := TK) (n := 9) (ty := .object "WholeDesk$Whole") (v := .ref (B + 31)) hx hb ht inK tyK tyK_ok nmK hown hK hZ hS 22 (by omega) (by rw [va_up_self]) rfl 4 (by decide) tw_65 (fun _ h9 => h9) rfl hin rfl (by decide +kernel) rfl rfl (Nat.le_of_ble_eq_true rfl) dK_init_56 (fun H locs hZ hS => ?_)
  have hZ : zG E B 33 (va_up O 22 (.inr (1, [.ref (B + 23), .ref (B + 25), .ref (B + 27), .ref (B + 29), .ref (B + 31), .null, .null, .null, .null]))) H := hZ.to (fun k hk => by by_cases h8 : k = 22; rw [h8, va_up_self, va_up_self]; rfl; rw [va_up_ne _ _ h8, va_up_ne _ _ h8, va_up_ne _ _ h8])
  refine lv_aload_n hx hb dK_init_59 rfl (lv_at hl 0 rfl) ?_
  refine zg_whole (N := 33) (O2 := (va_up O 22 (.inr (1, [.ref (B + 23), .ref (B + 25), .ref (B + 27), .ref (B + 29), .ref (B + 31), .null, .null, .null, .null])))) ⟨hx, hb, hml, hown, ht⟩ hown tw_57 tw_58 hK hO9 (fun _ _ => rfl) (by rw [va_up_ne _ _ (by decide), hO 33 (by decide) (by decide)]; exact zT_W (by decide)) (by rw [va_up_ne _ _ (by decide), hO 34 (by decide) (by decide)]; exact zT_A (n := 33) (by decide)) hZ hS (by rw [hR]; decide) (by rw [hR]; decide) (by rw [hR]; decide) hl.1 (Nat.le_of_ble_eq_true rfl) dK_init_60 dK_init_63 dK_init_64 (fun H locs hZ hS => ?_)
  refine zg_putF (ci := 1) (C := "WholeDesk$Reckoner") (T := TK) (n := 9) (ty := .object "WholeDesk$Whole") (v := .ref (B + 33)) hx hb ht inK tyK tyK_ok nmK hown hK hZ hS 22 (by omega) (by rw [va_up_self]) rfl 5 (by decide) tw_66 (fun _ h9 => h9) rfl hin rfl (by decide +kernel) rfl rfl (Nat.le_of_ble_eq_true rfl) dK_init_67 (fun H locs hZ hS => ?_)
  have hZ : zG E B 35 (va_up O 22 (.inr (1, [.ref (B + 23), .ref (B + 25), .ref (B + 27), .ref (B + 29), .ref (B + 31), .ref (B + 33), .null, .null, .null]))) H := hZ.to (fun k hk => by by_cases h8 : k = 22; rw [h8, va_up_self, va_up_self]; rfl; rw [va_up_ne _ _ h8, va_up_ne _ _ h8, va_up_ne _ _ h8])
  refine lv_aload_n hx hb dK_init_70 rfl (lv_at hl 0 rfl) ?_
  refine zg_whole (N := 35) (O2 := (va_up O 22 (.inr (1, [.ref (B + 23), .ref (B + 25), .ref (B + 27), .ref (B + 29), .ref (B + 31), .ref (B + 33), .null, .null, .null])))) ⟨hx, hb, hml, hown, ht⟩ hown tw_57 tw_58 hK hO9 (fun _ _ => rfl) (by rw [va_up_ne _ _ (by decide), hO 35 (by decide) (by decide)]; exact zT_W (by decide)) (by rw [va_up_ne _ _ (by decide), hO 36 (by decide) (by decide)]; exact zT_A (n := 35) (by decide)) hZ hS (by rw [hR]; decide) (by rw [hR]; decide) (by rw [hR]; decide) hl.1 (Nat.le_of_ble_eq_true rfl) dK_init_71 dK_init_74 dK_init_75 (fun H locs hZ hS => ?_)
  refine zg_putF (ci := 1) (C := "WholeDesk$Reckoner") (T := TK) (n := 9) (ty := .object "WholeDesk$Whole") (v := .ref (B + 35)) hx hb ht inK tyK tyK_ok nmK hown hK hZ hS 22 (by omega) (by rw [va_up_self]) rfl 6 (by decide) tw_67 (fun _ h9 => h9) rfl hin rfl (by decide +kernel) rfl rfl (Nat.le_of_ble_eq_true rfl) dK_init_78 (fun H locs hZ hS => ?_)
  have hZ : zG E B 37 (va_up O 22 (.inr (1, [.ref (B + 23), .ref (B + 25), .ref (B + 27), .ref (B + 29), .ref (B + 31), .ref (B + 33), .ref (B + 35), .null, .null]))) H := hZ.to (fun k hk => by by_cases h8 : k = 22; rw [h8, va_up_self, va_up_self]; rfl; rw [va_up_ne _ _ h8, va_up_ne _ _ h8, va_up_ne _ _ h8])
  refine lv_aload_n hx hb dK_init_81 rfl (lv_at hl 0 rfl) ?_
  refine zg_whole (N := 37) (O2 := (va_up O 22 (.inr (1, [.ref (B + 23), .ref (B + 25), .ref (B + 27), .ref (B + 29), .ref (B + 31), .ref (B + 33), .ref (B + 35), .null, .null])))) ⟨hx, hb, hml, hown, ht⟩ hown tw_57 tw_58 hK hO9 (fun _ _ => rfl) (by rw [va_up_ne _ _ (by decide), hO 37 (by decide) (by decide)]; exact zT_W (by decide)) (by rw [va_up_ne _ _ (by decide), hO 38 (by decide) (by decide)]; exact zT_A (n := 37) (by decide)) hZ hS (by rw [hR]; decide) (by rw [hR]; decide) (by rw [hR]; decide) hl.1 (Nat.le_of_ble_eq_true rfl) dK_init_82 dK_init_85 dK_init_86 (fun H locs hZ hS => ?_)
  refine zg_putF (ci := 1) (C := "WholeDesk$Reckoner") (T := TK) (n := 9) (ty := .object "WholeDesk$Whole") (v := .ref (B + 37)) hx hb ht inK tyK tyK_ok nmK hown hK hZ hS 22 (by omega) (by rw [va_up_self]) rfl 7 (by decide) tw_68 (fun _ h9 => h9) rfl hin rfl (by decide +kernel) rfl rfl (Nat.le_of_ble_eq_true rfl) dK_init_89 (fun H locs hZ hS => ?_)
  have hZ : zG E B 39 (va_up O 22 (.inr (1, [.ref (B + 23), .ref (B + 25), .ref (B + 27), .ref (B + 29), .ref (B + 31), .ref (B + 33), .ref (B + 35), .ref (B + 37), .null]))) H := hZ.to (fun k hk => by by_cases h8 : k = 22; rw [h8, va_up_self, va_up_self]; rfl; rw [va_up_ne _ _ h8, va_up_ne _ _ h8, va_up_ne _ _ h8])
  refine lv_aload_n hx hb dK_init_92 rfl (lv_at hl 0 rfl) ?_
  refine lv_bipush (v := iZ (16)) hx hb dK_init_93 (by decide) ?_
  refine zg_anew (n := 16) (f := wfn B 40 16 0) hx hb ht hown tw_57 hO9 hK wfn_0 (by decide) (by decide) (by decide) hZ hS (by rw [hR]; decide) (by rw [hR]; decide) dK_init_95 (fun H hZ hS => ?_)
  refine zg_putF (ci := 1) (C := "WholeDesk$Reckoner") (T := TK) (n := 9) (ty := .array (.object "WholeDesk$Whole")) (v := .ref (B + 39)) hx hb ht inK tyK tyK_ok nmK hown hK hZ hS 22 (by omega) (by rw [va_up_ne _ _ (by decide), va_up_self]) rfl 8 (by decide) tw_69 (fun _ h9 => h9) rfl hin rfl (by decide +kernel) rfl rfl (Nat.le_of_ble_eq_true rfl) dK_init_98 (fun H locs hZ hS => ?_)
  have hZ : zG E B (40 + 2 * 0) (va_up O 39 (.inl (E.2.2.2.1, 16, .inr (.inr (.inr (.inr (wfn B 40 16 0))))))) H := hZ.to (fun k hk => by by_cases h8 : k = 22; rw [h8, va_up_self, va_up_ne _ _ (by decide), hO 22 (by decide) (by decide), zT_22]; rfl; rw [va_up_ne _ _ h8]; by_cases h9 : k = 39; rw [h9, va_up_self, va_up_self]; rw [va_up_ne _ _ h9, va_up_ne _ _ h9, va_up_ne _ _ h8])
  refine lv_iconst (v := iZ ((0 : Nat) : Int)) hx hb dK_init_101 (by decide) ?_
  refine lv_istore_n (lv' := [(1, .int (iZ ((0 : Nat) : Int))), (0, .ref (B + 22))]) hx hb dK_init_102 rfl hl (by decide) rfl (fun ls hl => ?_)
  have L103 : ∀ (fu i : Nat) (H : Heap) (locs : List Loc) (ls : Array Slot), 16 - i < fu → i ≤ 16 → zG E B (40 + 2 * i) (va_up O 39 (.inl (E.2.2.2.1, 16, .inr (.inr (.inr (.inr (wfn B 40 16 i))))))) H → va_S (zGA B) s.heap H locs → lv_has ls 2 [(0, .ref (B + 22)), (1, .int (iZ (↑i)))] → W p l e R s m args below meth c H locs (17 + 2 * i) (1256 + 155 * i) Q (F0 m 103 ls []) := by
    intro fu
    induction fu with
    | zero => intro i H locs ls hm; exact absurd hm (Nat.not_lt_zero _)
    | succ fu ih =>
      intro i H locs ls hm hi hZ hS hl
      refine lv_iload_n hx hb dK_init_103 rfl (lv_at hl 1 rfl) ?_
      refine lv_bipush (v := iZ (16)) hx hb dK_init_104 (by decide) ?_
      refine zr_icmp_ge (tgt := 128) hx hb (by unfold zi; omega) (by unfold zi; omega) dK_init_106 (by decide) (fun c_1 => ?_) (fun c_1 => ?_)
      · have hin9 : i = 16 := by omega
        rw [hin9] at hZ ⊢
        have hZ : zG E B 72 O H := hZ.to (fun k hk => by by_cases h9 : k = 39; rw [h9, va_up_self, hO 39 (by decide) (by decide), zT_39, wfn_n]; rw [va_up_ne _ _ h9])
        exact hend 128 _ _ _ dK_init_128 (hZ) hS
      · have hi9 : i < 16 := by omega
        refine lv_aload_n hx hb dK_init_109 rfl (lv_at hl 0 rfl) ?_
        refine va_get (D := E.1) (cl := zCl) (ci := 1) (C := "WholeDesk$Reckoner") (T := TK) (N := 9) hx hb ht inK hown hK hZ.1 22 (by rw [zB_at (by omega), va_up_ne _ _ (by decide), hO 22 (by decide) (by decide), zT_22]) rfl 8 (by decide) (ht _ tw_69) (fun _ h9 => h9) rfl dK_init_110 ?_
        refine lv_iload_n hx hb dK_init_113 rfl (lv_at hl 1 rfl) ?_
        refine zg_whole (N := 40 + 2 * i) (O2 := (va_up O 39 (.inl (E.2.2.2.1, 16, .inr (.inr (.inr (.inr (wfn B 40 16 i)))))))) ⟨hx, hb, hml, hown, ht⟩ hown tw_57 tw_58 hK hO9 (fun _ _ => rfl) (by rw [va_up_ne _ _ (by omega), hO _ (by omega) (by omega)]; exact zT_W (lpP hi9)) (by rw [va_up_ne _ _ (by omega), hO _ (by omega) (by omega)]; exact zT_A (lpP hi9)) hZ hS (by rw [hR]; show 17 + 2 * i + 2 ≤ 49; omega) (by rw [hR]; show 1256 + 155 * i + 155 ≤ 3736; omega) (by rw [hR]; decide) hl.1 (Nat.le_of_ble_eq_true rfl) dK_init_114 dK_init_117 dK_init_118 (fun H locs hZ hS => ?_)
        refine zg_aast (i := i) (n := 16) (f := wfn B 40 16 i) hx hb hK hZ hS 39 (40 + 2 * i) (by omega) (by omega) (by rw [va_up_self]) (by rw [va_up_ne _ _ (by omega), hO _ (by omega) (by omega)]; exact zT_W (lpP hi9)) hi9 (by decide) dK_init_121 (fun H locs hZ hS => ?_)
        have hZ : zG E B (40 + 2 * (i + 1)) (va_up O 39 (.inl (E.2.2.2.1, 16, .inr (.inr (.inr (.inr (wfn B 40 16 (i + 1)))))))) H := hZ.to (fun k hk => by rw [wfn_s, va_up_up])
        refine lv_iinc (v := iZ (↑(i + 1))) (lv' := [(1, .int (iZ (↑(i + 1)))), (0, .ref (B + 22))]) hx hb dK_init_122 hl (k := 1) rfl (iZ_add _ _) (by decide) rfl (fun ls hl => ?_)
        refine lv_goto (tgt := 103) hx hb dK_init_125 (by decide) ?_
        exact ih (i + 1) _ _ _ (by omega) (by omega) hZ hS (lv_sub hl [1, 0] rfl)
  exact L103 _ 0 _ _ _ (Nat.lt_succ_self _) (Nat.zero_le _) hZ hS (lv_sub hl [1, 0] rfl)
set_option maxHeartbeats 4000000 in
set_option maxRecDepth 100000 in
theorem mS_init (l : Launch) (E : zE) (B : Nat)  :
    Met l yS_init (zws yS_init cS_init 2 none) { frames := 3, cells := 79, slots := 9770, locals := 80 } (zPn E (zG E B 1 (va_up (zT0 E B) 0 (.inr (4, [.null, .null, .null, .null])))) [.ref (B)]) (va_Qv (fun _ : Unit => True) (fun _ t => zG E B 80 (zT0 E B) t.heap ∧ zK E t) (zGA B)) 79 9770 (zGA B) := by
  refine zof_n (P' := fun HH => zG E B 80 (zT0 E B) HH) (by decide) rfl (Nat.le_of_ble_eq_true rfl) fun p e R s m args below meth c Q ls hR hx hb hml ht hown hin hO9 hK hZ hl hend => ?_
  have hS : va_S (zGA B) s.heap s.heap [] := va_S.rf
  have hown : s.vm.findClass "WholeDesk" = some m.cls := hown
  have hl : lv_has ls 2 [(0, .ref (B))] := hl
  refine lv_aload_n hx hb dS_init_0 rfl (lv_at hl 0 rfl) ?_
  refine W.objInit hx hb hown (ht _ tw_21) (ht _ tw_22) (ht _ tw_23) rfl (by rw [hml]; exact hl.1) rfl dS_init_1 (by rw [hR]; decide) (by rw [hR]; exact Nat.le_of_ble_eq_true rfl) ?_
  refine W.eq (g2 := F0 m 4 ls []) rfl ?_
  refine lv_aload_n hx hb dS_init_4 rfl (lv_at hl 0 rfl) ?_
  refine lv_bipush (v := iZ (10)) hx hb dS_init_5 (by decide) ?_
  refine zg_anew (n := 10) (f := wfn B 2 10 0) hx hb ht hown tw_24 hO9 hK wfn_0 (by decide) (by decide) (by decide) hZ hS (by rw [hR]; decide) (by rw [hR]; decide) dS_init_7 (fun H hZ hS => ?_)
  refine zg_putF (ci := 4) (C := "WholeDesk") (T := TS) (n := 4) (ty := .array (.object "WholeDesk$Whole")) (v := .ref (B + 1)) hx hb ht inS tyS tyS_ok nmS hown hK hZ hS 0 (by decide) (by rw [va_up_ne _ _ (by decide), va_up_self]) rfl 0 (by decide) tw_127 (fun _ h9 => h9) rfl hin rfl (by decide +kernel) rfl rfl (Nat.le_of_ble_eq_true rfl) dS_init_10 (fun H locs hZ hS => ?_)
  have hZ : zG E B (2 + 2 * 0) (va_up (va_up (zT0 E B) 0 (.inr (4, [.ref (B + 1), .null, .null, .null]))) 1 (.inl (E.2.2.2.1, 10, .inr (.inr (.inr (.inr (wfn B 2 10 0))))))) H := hZ.to (fun k hk => by by_cases h8 : k = 0; rw [h8, va_up_self, va_up_ne _ _ (by decide), va_up_self]; rfl; rw [va_up_ne _ _ h8]; by_cases h9 : k = 1; rw [h9, va_up_self, va_up_self]; omega)
  refine lv_iconst (v := iZ ((0 : Nat) : Int)) hx hb dS_init_13 (by decide) ?_
  refine lv_istore_n (lv' := [(1, .int (iZ ((0 : Nat) : Int))), (0, .ref B)]) hx hb dS_init_14 rfl hl (by decide) rfl (fun ls hl => ?_)
  have L15 : ∀ (fu i : Nat) (H : Heap) (locs : List Loc) (ls : Array Slot), 10 - i < fu → i ≤ 10 → zG E B (2 + 2 * i) (va_up (va_up (zT0 E B) 0 (.inr (4, [.ref (B + 1), .null, .null, .null]))) 1 (.inl (E.2.2.2.1, 10, .inr (.inr (.inr (.inr (wfn B 2 10 i))))))) H → va_S (zGA B) s.heap H locs → lv_has ls 2 [(0, .ref (B)), (1, .int (iZ (↑i)))] → W p l e R s m args below meth c H locs (1 + 2 * i) (10 + 155 * i) Q (F0 m 15 ls []) := by
    intro fu
    induction fu with
    | zero => intro i H locs ls hm; exact absurd hm (Nat.not_lt_zero _)
    | succ fu ih =>
      intro i H locs ls hm hi hZ hS hl
      refine lv_iload_n hx hb dS_init_15 rfl (lv_at hl 1 rfl) ?_
      refine lv_bipush (v := iZ (10)) hx hb dS_init_16 (by decide) ?_
      refine zr_icmp_ge (tgt := 40) hx hb (by unfold zi; omega) (by unfold zi; omega) dS_init_18 (by decide) (fun c_1 => ?_) (fun c_1 => ?_)
      · have hin9 : i = 10 := by omega
        rw [hin9] at hZ ⊢
        have hZ : zG E B 22 (va_up (zT0 E B) 0 (.inr (4, [.ref (B + 1), .null, .null, .null]))) H := hZ.to (fun k hk => by by_cases h9 : k = 1; rw [h9, va_up_self, va_up_ne _ _ (by decide), zT_1, wfn_n]; rw [va_up_ne _ _ h9])
        refine lv_aload_n hx hb dS_init_40 rfl (lv_at hl 0 rfl) ?_
        refine zg_new (ci := 1) (fs := [.null, .null, .null, .null, .null, .null, .null, .null, .null]) (T := TK) (n := 9) hx hb ht inK tyK tyK_ok hown tw_51 tw_52 tw_3 hK rfl (fun j hj => by rcases (show j = 0 ∨ j = 1 ∨ j = 2 ∨ j = 3 ∨ j = 4 ∨ j = 5 ∨ j = 6 ∨ j = 7 ∨ j = 8 by omega) with rfl | rfl | rfl | rfl | rfl | rfl | rfl | rfl | rfl <;> rfl) hZ hS (by rw [hR]; decide) (by rw [hR]; decide) dS_init_41 (fun H hZ hS => ?_)
        refine lv_dup hx hb dS_init_44 rfl ?_
        refine zcI (P' := fun H => zG E B 72 (va_up (zT0 E B) 0 (.inr (4, [.ref (B + 1), .null, .null, .null]))) H) ⟨hx, hb, hml, hown, ht⟩ (mK_init l E B (va_up (zT0 E B) 0 (.inr (4, [.ref (B + 1), .null, .null, .null]))) (fun k h8 h9 => by rw [va_up_ne _ _ (by omega)])) tw_55 tw_53 tw_54 tw_3 rfl qK_init (by rw [hR]; decide) hZ hK hO9 hl.1 (Nat.le_of_ble_eq_true rfl) dS_init_45 ⟨(by rw [hR]; decide), (by rw [hR]; decide)⟩ (fun _ h => h) hS (fun H locs hZ hS _ => ?_)
        refine zg_putF (ci := 4) (C := "WholeDesk") (T := TS) (n := 4) (ty := .object "WholeDesk$Reckoner") (v := .ref (B + 22)) hx hb ht inS tyS tyS_ok nmS hown hK hZ hS 0 (by decide) (by rw [va_up_self]) rfl 1 (by decide) tw_128 (fun _ h9 => h9) rfl hin rfl (by decide +kernel) rfl rfl (Nat.le_of_ble_eq_true rfl) dS_init_48 (fun H locs hZ hS => ?_)
        have hZ : zG E B 72 (va_up (zT0 E B) 0 (.inr (4, [.ref (B + 1), .ref (B + 22), .null, .null]))) H := hZ.to (fun k hk => by rw [va_up_up]; rfl)
        refine lv_aload_n hx hb dS_init_51 rfl (lv_at hl 0 rfl) ?_
        refine zg_new (ci := 2) (fs := [.int 0, .null, .null]) (T := TD) (n := 3) hx hb ht inD tyD tyD_ok hown tw_89 tw_90 tw_4 hK rfl (fun j hj => by rcases (show j = 0 ∨ j = 1 ∨ j = 2 by omega) with rfl | rfl | rfl <;> rfl) hZ hS (by rw [hR]; decide) (by rw [hR]; decide) dS_init_52 (fun H hZ hS => ?_)
        refine lv_dup hx hb dS_init_55 rfl ?_
        refine zcI (P' := fun H => zG E B 76 (va_up (zT0 E B) 0 (.inr (4, [.ref (B + 1), .ref (B + 22), .null, .null]))) H) ⟨hx, hb, hml, hown, ht⟩ (mD_init l E B (va_up (zT0 E B) 0 (.inr (4, [.ref (B + 1), .ref (B + 22), .null, .null]))) (fun k h8 h9 => by rw [va_up_ne _ _ (by omega)])) tw_93 tw_91 tw_92 tw_4 rfl qD_init (by rw [hR]; decide) hZ hK hO9 hl.1 (Nat.le_of_ble_eq_true rfl) dS_init_56 ⟨(by rw [hR]; decide), (by rw [hR]; decide)⟩ (fun _ h => h) hS (fun H locs hZ hS _ => ?_)
        refine zg_putF (ci := 4) (C := "WholeDesk") (T := TS) (n := 4) (ty := .object "WholeDesk$Draft") (v := .ref (B + 72)) hx hb ht inS tyS tyS_ok nmS hown hK hZ hS 0 (by decide) (by rw [va_up_self]) rfl 2 (by decide) tw_129 (fun _ h9 => h9) rfl hin rfl (by decide +kernel) rfl rfl (Nat.le_of_ble_eq_true rfl) dS_init_59 (fun H locs hZ hS => ?_)
        have hZ : zG E B 76 (va_up (zT0 E B) 0 (.inr (4, [.ref (B + 1), .ref (B + 22), .ref (B + 72), .null]))) H := hZ.to (fun k hk => by rw [va_up_up]; rfl)
        refine lv_aload_n hx hb dS_init_62 rfl (lv_at hl 0 rfl) ?_
        refine zg_new (ci := 3) (fs := [.null, .int 0, .null]) (T := TG) (n := 3) hx hb ht inG tyG tyG_ok hown tw_109 tw_110 tw_5 hK rfl (fun j hj => by rcases (show j = 0 ∨ j = 1 ∨ j = 2 by omega) with rfl | rfl | rfl <;> rfl) hZ hS (by rw [hR]; decide) (by rw [hR]; decide) dS_init_63 (fun H hZ hS => ?_)
        refine lv_dup hx hb dS_init_66 rfl ?_
        refine zcI (P' := fun H => zG E B 80 (va_up (zT0 E B) 0 (.inr (4, [.ref (B + 1), .ref (B + 22), .ref (B + 72), .null]))) H) ⟨hx, hb, hml, hown, ht⟩ (mG_init l E B (va_up (zT0 E B) 0 (.inr (4, [.ref (B + 1), .ref (B + 22), .ref (B + 72), .null]))) (fun k h8 h9 => by rw [va_up_ne _ _ (by omega)])) tw_113 tw_111 tw_112 tw_5 rfl qG_init (by rw [hR]; decide) hZ hK hO9 hl.1 (Nat.le_of_ble_eq_true rfl) dS_init_67 ⟨(by rw [hR]; decide), (by rw [hR]; decide)⟩ (fun _ h => h) hS (fun H locs hZ hS _ => ?_)
        refine zg_putF (ci := 4) (C := "WholeDesk") (T := TS) (n := 4) (ty := .object "WholeDesk$Writing") (v := .ref (B + 76)) hx hb ht inS tyS tyS_ok nmS hown hK hZ hS 0 (by decide) (by rw [va_up_self]) rfl 3 (by decide) tw_130 (fun _ h9 => h9) rfl hin rfl (by decide +kernel) rfl rfl (Nat.le_of_ble_eq_true rfl) dS_init_70 (fun H locs hZ hS => ?_)
        have hZ : zG E B 80 (zT0 E B) H := hZ.to (fun k hk => by rw [va_up_up]; by_cases h8 : k = 0; rw [h8, va_up_self, zT_0]; rfl; rw [va_up_ne _ _ h8])
        exact hend 73 _ _ _ dS_init_73 (hZ) hS
      · have hi9 : i < 10 := by omega
        refine lv_aload_n hx hb dS_init_21 rfl (lv_at hl 0 rfl) ?_
        refine va_get (D := E.1) (cl := zCl) (ci := 4) (C := "WholeDesk") (T := TS) (N := 4) hx hb ht inS hown hK hZ.1 0 (by rw [zB_at (by omega), va_up_ne _ _ (by decide), va_up_self]; rfl) rfl 0 (by decide) (ht _ tw_127) (fun _ h9 => h9) rfl dS_init_22 ?_
        refine lv_iload_n hx hb dS_init_25 rfl (lv_at hl 1 rfl) ?_
        refine zg_whole (N := 2 + 2 * i) (O2 := (va_up (va_up (zT0 E B) 0 (.inr (4, [.ref (B + 1), .null, .null, .null]))) 1 (.inl (E.2.2.2.1, 10, .inr (.inr (.inr (.inr (wfn B 2 10 i)))))))) ⟨hx, hb, hml, hown, ht⟩ hown tw_24 tw_27 hK hO9 (fun _ _ => rfl) (by rw [va_up_ne _ _ (by omega), va_up_ne _ _ (by omega)]; exact zT_W (lpR hi9)) (by rw [va_up_ne _ _ (by omega), va_up_ne _ _ (by omega)]; exact zT_A (lpR hi9)) hZ hS (by rw [hR]; show 1 + 2 * i + 2 ≤ 79; omega) (by rw [hR]; show 10 + 155 * i + 155 ≤ 9770; omega) (by rw [hR]; decide) hl.1 (Nat.le_of_ble_eq_true rfl) dS_init_26 dS_init_29 dS_init_30 (fun H locs hZ hS => ?_)
        refine zg_aast (i := i) (n := 10) (f := wfn B 2 10 i) hx hb hK hZ hS 1 (2 + 2 * i) (by omega) (by omega) (by rw [va_up_self]) (by rw [va_up_ne _ _ (by omega), va_up_ne _ _ (by omega)]; exact zT_W (lpR hi9)) hi9 (by decide) dS_init_33 (fun H locs hZ hS => ?_)
        have hZ : zG E B (2 + 2 * (i + 1)) (va_up (va_up (zT0 E B) 0 (.inr (4, [.ref (B + 1), .null, .null, .null]))) 1 (.inl (E.2.2.2.1, 10, .inr (.inr (.inr (.inr (wfn B 2 10 (i + 1)))))))) H := hZ.to (fun k hk => by rw [wfn_s, va_up_up])
        refine lv_iinc (v := iZ (↑(i + 1))) (lv' := [(1, .int (iZ (↑(i + 1)))), (0, .ref (B))]) hx hb dS_init_34 hl (k := 1) rfl (iZ_add _ _) (by decide) rfl (fun ls hl => ?_)
        refine lv_goto (tgt := 15) hx hb dS_init_37 (by decide) ?_
        exact ih (i + 1) _ _ _ (by omega) (by omega) hZ hS (lv_sub hl [1, 0] rfl)
  exact L15 _ 0 _ _ _ (Nat.lt_succ_self _) (Nat.zero_le _) hZ hS (lv_sub hl [1, 0] rfl)