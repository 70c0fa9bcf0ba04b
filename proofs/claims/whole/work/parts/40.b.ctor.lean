/-! the states of new objects -/
def s0i : St := (fun _ => 0, fun _ _ => 0)
def s5i : St := (fun k => if k = 0 then 1 else 0, fun _ _ => 0)
def s3i : St := (fun k => if k = 1 then (-1) else 0, fun _ _ => 0)
def s2i : St := (fun k => if k = 1 then 1 else if k = 3 then (-1) else 0, fun _ _ => 0)
theorem hdX6_init : yX6_init.cls ≠ "java/lang/invoke/MethodHandle" ∧ yX6_init.cls ≠ "java/lang/invoke/VarHandle" ∧ (parseMethodDescriptor yX6_init.desc).map (fun d => d.parameters.length) = some 0 := by decide +kernel
set_option maxHeartbeats 4000000 in
set_option maxRecDepth 100000 in
theorem c_X6_init (l : Launch) (D : va_G) (cy : Nat → ClassId) (h0 : Nat) (sz : Nat) : Met l yX6_init (WS yX6_init cX6_init 1 none) ({ frames := 1, cells := 1, slots := 1500, locals := 12 } : Room) (va_Pc [.ref h0] (gPM D cy sz [(h0, .inr (6, [.null, .int 0]))])) (gQx D cy (va_A [(h0, .inr (6, [.null, .int 0]))] sz) (fun x : Nat → Nat => (w6 cy h0 x s0i))) 1 1500 (va_A [(h0, .inr (6, [.null, .int 0]))] sz) := by
  refine g_metM (cc := cX6_init) (maxL := 1) (fun A : Nat → Prop => gQx D cy A (fun x : Nat → Nat => (w6 cy h0 x s0i))) (by decide +kernel) rfl (Nat.le_of_ble_eq_true rfl) ?_
  intro p e s m below meth c A C hin hA hM hK hP hD ls hl
  obtain ⟨hx, hb, hr, hml, hown, hts, hlk⟩ := id C
  have hown : s.vm.findClass RX6 = some m.cls := hown
  have hin : meth.name = "<init>" := hin
  have hS : va_S A s.heap s.heap [] := va_S.rf
  have hl : lv_has ls 1 [(0, .ref h0)] := hl
  refine lv_aload_n hx hb dX6_init_0 rfl (lv_at hl 0 rfl) ?_
  refine W.objInit hx hb hown (hts _ (List.mem_cons_of_mem _ oi_RX6)) (hts _ (List.mem_cons_of_mem _ im_oi)) (hts _ (List.mem_cons_of_mem _ cd_oi)) rfl (by rw [hml]; exact hl.1) rfl dX6_init_1 (Nat.le_of_ble_eq_true rfl) (Nat.le_of_ble_eq_true rfl) ?_
  refine W.eq (g2 := F0 m 4 ls []) rfl ?_
  refine lv_aload_n hx hb dX6_init_4 rfl (lv_at hl 0 rfl) ?_
  refine lv_sipush (v := 1500) hx hb dX6_init_5 (by decide) ?_
  refine g_newB (N := 1500) hx hb (hts _ (List.mem_cons_of_mem _ ac_byte)) hK hP hD hS hA (by decide) (by decide) (by decide) (Nat.le_of_ble_eq_true rfl) (Nat.le_of_ble_eq_true rfl) dX6_init_8 (fun q8 H hP hD hS => ?_)
  have hP : va_P D vwCl ([(h0, .inr (6, [.null, .int 0])), (q8, .inl (cy 1, 1500, .inl (fun _ => 0)))] : va_W) H := hP
  have hD : va_D A ([(h0, .inr (6, [.null, .int 0])), (q8, .inl (cy 1, 1500, .inl (fun _ => 0)))] : va_W) := hD
  refine va_putF (ci := 6) (v := .ref q8) (ty := tyX6 0) (C := RX6) (T := TX6) (N := 2) hx hb hts (fun w h => List.mem_cons_of_mem _ (inX6 w h)) tyX6 tyX6_ok nmX6 hown hK hP hD hS 0 rfl rfl 0 (by decide) (hts _ (List.mem_cons_of_mem _ fl_RX6_9)) (fun _ h9 => h9) rfl hin rfl (tyX6_ok 0 (by decide)) rfl rfl (Nat.le_of_ble_eq_true rfl) dX6_init_10 (fun H locs hP hD hS => ?_)
  have hP : va_P D vwCl ([(h0, .inr (6, [.ref q8, .int 0])), (q8, .inl (cy 1, 1500, .inl (fun _ => 0)))] : va_W) H := hP
  have hD : va_D A ([(h0, .inr (6, [.ref q8, .int 0])), (q8, .inl (cy 1, 1500, .inl (fun _ => 0)))] : va_W) := hD
  have hP : va_P D vwCl ((fun x : Nat → Nat => (w6 cy h0 x s0i)) (fun k => ([q8] : List Nat).getD k 0)) H := hP
  have hD : va_D A ((fun x : Nat → Nat => (w6 cy h0 x s0i)) (fun k => ([q8] : List Nat).getD k 0)) := hD
  exact g_xret (fun k => ([q8] : List Nat).getD k 0) hx hb hr hlk hK hP hD hS (Nat.le_of_ble_eq_true rfl) (Nat.le_of_ble_eq_true rfl) dX6_init_13
theorem hdX5_init : yX5_init.cls ≠ "java/lang/invoke/MethodHandle" ∧ yX5_init.cls ≠ "java/lang/invoke/VarHandle" ∧ (parseMethodDescriptor yX5_init.desc).map (fun d => d.parameters.length) = some 0 := by decide +kernel
set_option maxHeartbeats 4000000 in
set_option maxRecDepth 100000 in
theorem c_X5_init (l : Launch) (D : va_G) (cy : Nat → ClassId) (h0 : Nat) (sz : Nat) : Met l yX5_init (WS yX5_init cX5_init 1 none) ({ frames := 1, cells := 8, slots := 424, locals := 12 } : Room) (va_Pc [.ref h0] (gPM D cy sz [(h0, .inr (5, [.int 0, .int 0, .int 0, .int 0, .int 0, .null, .null, .null, .null, .null, .null, .null, .null]))])) (gQx D cy (va_A [(h0, .inr (5, [.int 0, .int 0, .int 0, .int 0, .int 0, .null, .null, .null, .null, .null, .null, .null, .null]))] sz) (fun x : Nat → Nat => (w5 cy h0 x s5i))) 8 424 (va_A [(h0, .inr (5, [.int 0, .int 0, .int 0, .int 0, .int 0, .null, .null, .null, .null, .null, .null, .null, .null]))] sz) := by
  refine g_metM (cc := cX5_init) (maxL := 1) (fun A : Nat → Prop => gQx D cy A (fun x : Nat → Nat => (w5 cy h0 x s5i))) (by decide +kernel) rfl (Nat.le_of_ble_eq_true rfl) ?_
  intro p e s m below meth c A C hin hA hM hK hP hD ls hl
  obtain ⟨hx, hb, hr, hml, hown, hts, hlk⟩ := id C
  have hown : s.vm.findClass RX5 = some m.cls := hown
  have hin : meth.name = "<init>" := hin
  have hS : va_S A s.heap s.heap [] := va_S.rf
  have hl : lv_has ls 1 [(0, .ref h0)] := hl
  refine lv_aload_n hx hb dX5_init_0 rfl (lv_at hl 0 rfl) ?_
  refine W.objInit hx hb hown (hts _ (List.mem_cons_of_mem _ oi_RX5)) (hts _ (List.mem_cons_of_mem _ im_oi)) (hts _ (List.mem_cons_of_mem _ cd_oi)) rfl (by rw [hml]; exact hl.1) rfl dX5_init_1 (Nat.le_of_ble_eq_true rfl) (Nat.le_of_ble_eq_true rfl) ?_
  refine W.eq (g2 := F0 m 4 ls []) rfl ?_
  refine lv_aload_n hx hb dX5_init_4 rfl (lv_at hl 0 rfl) ?_
  refine lv_iconst (v := 1) hx hb dX5_init_5 (by decide) ?_
  refine va_put (ci := 5) (v := .int 1) (ty := tyX5 0) (C := RX5) (T := TX5) (N := 13) hx hb hts (fun w h => List.mem_cons_of_mem _ (inX5 w h)) tyX5 tyX5_ok nmX5 hown hK hP hD hS 0 rfl rfl 0 (by decide) (hts _ (List.mem_cons_of_mem _ fl_RX5_9)) (fun _ h9 => h9) rfl (tyX5_ok 0 (by decide)) rfl rfl (Nat.le_of_ble_eq_true rfl) dX5_init_6 (fun H locs hP hD hS => ?_)
  have hP : va_P D vwCl ([(h0, .inr (5, [.int 1, .int 0, .int 0, .int 0, .int 0, .null, .null, .null, .null, .null, .null, .null, .null]))] : va_W) H := hP
  have hD : va_D A ([(h0, .inr (5, [.int 1, .int 0, .int 0, .int 0, .int 0, .null, .null, .null, .null, .null, .null, .null, .null]))] : va_W) := hD
  refine lv_aload_n hx hb dX5_init_9 rfl (lv_at hl 0 rfl) ?_
  refine lv_iconst (v := 4) hx hb dX5_init_10 (by decide) ?_
  refine g_newI (N := 4) hx hb (hts _ (List.mem_cons_of_mem _ ac_int)) hK hP hD hS hA (by decide) (by decide) (by decide) (Nat.le_of_ble_eq_true rfl) (Nat.le_of_ble_eq_true rfl) dX5_init_11 (fun q11 H hP hD hS => ?_)
  have hP : va_P D vwCl ([(h0, .inr (5, [.int 1, .int 0, .int 0, .int 0, .int 0, .null, .null, .null, .null, .null, .null, .null, .null])), (q11, .inl (cy 0, 4, .inl (fun _ => 0)))] : va_W) H := hP
  have hD : va_D A ([(h0, .inr (5, [.int 1, .int 0, .int 0, .int 0, .int 0, .null, .null, .null, .null, .null, .null, .null, .null])), (q11, .inl (cy 0, 4, .inl (fun _ => 0)))] : va_W) := hD
  refine va_putF (ci := 5) (v := .ref q11) (ty := tyX5 5) (C := RX5) (T := TX5) (N := 13) hx hb hts (fun w h => List.mem_cons_of_mem _ (inX5 w h)) tyX5 tyX5_ok nmX5 hown hK hP hD hS 0 rfl rfl 5 (by decide) (hts _ (List.mem_cons_of_mem _ fl_RX5_15)) (fun _ h9 => h9) rfl hin rfl (tyX5_ok 5 (by decide)) rfl rfl (Nat.le_of_ble_eq_true rfl) dX5_init_13 (fun H locs hP hD hS => ?_)
  have hP : va_P D vwCl ([(h0, .inr (5, [.int 1, .int 0, .int 0, .int 0, .int 0, .ref q11, .null, .null, .null, .null, .null, .null, .null])), (q11, .inl (cy 0, 4, .inl (fun _ => 0)))] : va_W) H := hP
  have hD : va_D A ([(h0, .inr (5, [.int 1, .int 0, .int 0, .int 0, .int 0, .ref q11, .null, .null, .null, .null, .null, .null, .null])), (q11, .inl (cy 0, 4, .inl (fun _ => 0)))] : va_W) := hD
  refine lv_aload_n hx hb dX5_init_16 rfl (lv_at hl 0 rfl) ?_
  refine lv_iconst (v := 4) hx hb dX5_init_17 (by decide) ?_
  refine g_newI (N := 4) hx hb (hts _ (List.mem_cons_of_mem _ ac_int)) hK hP hD hS hA (by decide) (by decide) (by decide) (Nat.le_of_ble_eq_true rfl) (Nat.le_of_ble_eq_true rfl) dX5_init_18 (fun q18 H hP hD hS => ?_)
  have hP : va_P D vwCl ([(h0, .inr (5, [.int 1, .int 0, .int 0, .int 0, .int 0, .ref q11, .null, .null, .null, .null, .null, .null, .null])), (q11, .inl (cy 0, 4, .inl (fun _ => 0))), (q18, .inl (cy 0, 4, .inl (fun _ => 0)))] : va_W) H := hP
  have hD : va_D A ([(h0, .inr (5, [.int 1, .int 0, .int 0, .int 0, .int 0, .ref q11, .null, .null, .null, .null, .null, .null, .null])), (q11, .inl (cy 0, 4, .inl (fun _ => 0))), (q18, .inl (cy 0, 4, .inl (fun _ => 0)))] : va_W) := hD
  refine va_putF (ci := 5) (v := .ref q18) (ty := tyX5 6) (C := RX5) (T := TX5) (N := 13) hx hb hts (fun w h => List.mem_cons_of_mem _ (inX5 w h)) tyX5 tyX5_ok nmX5 hown hK hP hD hS 0 rfl rfl 6 (by decide) (hts _ (List.mem_cons_of_mem _ fl_RX5_19)) (fun _ h9 => h9) rfl hin rfl (tyX5_ok 6 (by decide)) rfl rfl (Nat.le_of_ble_eq_true rfl) dX5_init_20 (fun H locs hP hD hS => ?_)
  have hP : va_P D vwCl ([(h0, .inr (5, [.int 1, .int 0, .int 0, .int 0, .int 0, .ref q11, .ref q18, .null, .null, .null, .null, .null, .null])), (q11, .inl (cy 0, 4, .inl (fun _ => 0))), (q18, .inl (cy 0, 4, .inl (fun _ => 0)))] : va_W) H := hP
  have hD : va_D A ([(h0, .inr (5, [.int 1, .int 0, .int 0, .int 0, .int 0, .ref q11, .ref q18, .null, .null, .null, .null, .null, .null])), (q11, .inl (cy 0, 4, .inl (fun _ => 0))), (q18, .inl (cy 0, 4, .inl (fun _ => 0)))] : va_W) := hD
  refine lv_aload_n hx hb dX5_init_23 rfl (lv_at hl 0 rfl) ?_
  refine lv_bipush (v := 8) hx hb dX5_init_24 (by decide) ?_
  refine g_newI (N := 8) hx hb (hts _ (List.mem_cons_of_mem _ ac_int)) hK hP hD hS hA (by decide) (by decide) (by decide) (Nat.le_of_ble_eq_true rfl) (Nat.le_of_ble_eq_true rfl) dX5_init_26 (fun q26 H hP hD hS => ?_)
  have hP : va_P D vwCl ([(h0, .inr (5, [.int 1, .int 0, .int 0, .int 0, .int 0, .ref q11, .ref q18, .null, .null, .null, .null, .null, .null])), (q11, .inl (cy 0, 4, .inl (fun _ => 0))), (q18, .inl (cy 0, 4, .inl (fun _ => 0))), (q26, .inl (cy 0, 8, .inl (fun _ => 0)))] : va_W) H := hP
  have hD : va_D A ([(h0, .inr (5, [.int 1, .int 0, .int 0, .int 0, .int 0, .ref q11, .ref q18, .null, .null, .null, .null, .null, .null])), (q11, .inl (cy 0, 4, .inl (fun _ => 0))), (q18, .inl (cy 0, 4, .inl (fun _ => 0))), (q26, .inl (cy 0, 8, .inl (fun _ => 0)))] : va_W) := hD
  refine va_putF (ci := 5) (v := .ref q26) (ty := tyX5 7) (C := RX5) (T := TX5) (N := 13) hx hb hts (fun w h => List.mem_cons_of_mem _ (inX5 w h)) tyX5 tyX5_ok nmX5 hown hK hP hD hS 0 rfl rfl 7 (by decide) (hts _ (List.mem_cons_of_mem _ fl_RX5_22)) (fun _ h9 => h9) rfl hin rfl (tyX5_ok 7 (by decide)) rfl rfl (Nat.le_of_ble_eq_true rfl) dX5_init_28 (fun H locs hP hD hS => ?_)
  have hP : va_P D vwCl ([(h0, .inr (5, [.int 1, .int 0, .int 0, .int 0, .int 0, .ref q11, .ref q18, .ref q26, .null, .null, .null, .null, .null])), (q11, .inl (cy 0, 4, .inl (fun _ => 0))), (q18, .inl (cy 0, 4, .inl (fun _ => 0))), (q26, .inl (cy 0, 8, .inl (fun _ => 0)))] : va_W) H := hP
  have hD : va_D A ([(h0, .inr (5, [.int 1, .int 0, .int 0, .int 0, .int 0, .ref q11, .ref q18, .ref q26, .null, .null, .null, .null, .null])), (q11, .inl (cy 0, 4, .inl (fun _ => 0))), (q18, .inl (cy 0, 4, .inl (fun _ => 0))), (q26, .inl (cy 0, 8, .inl (fun _ => 0)))] : va_W) := hD
  refine lv_aload_n hx hb dX5_init_31 rfl (lv_at hl 0 rfl) ?_
  refine lv_bipush (v := 8) hx hb dX5_init_32 (by decide) ?_
  refine g_newI (N := 8) hx hb (hts _ (List.mem_cons_of_mem _ ac_int)) hK hP hD hS hA (by decide) (by decide) (by decide) (Nat.le_of_ble_eq_true rfl) (Nat.le_of_ble_eq_true rfl) dX5_init_34 (fun q34 H hP hD hS => ?_)
  have hP : va_P D vwCl ([(h0, .inr (5, [.int 1, .int 0, .int 0, .int 0, .int 0, .ref q11, .ref q18, .ref q26, .null, .null, .null, .null, .null])), (q11, .inl (cy 0, 4, .inl (fun _ => 0))), (q18, .inl (cy 0, 4, .inl (fun _ => 0))), (q26, .inl (cy 0, 8, .inl (fun _ => 0))), (q34, .inl (cy 0, 8, .inl (fun _ => 0)))] : va_W) H := hP
  have hD : va_D A ([(h0, .inr (5, [.int 1, .int 0, .int 0, .int 0, .int 0, .ref q11, .ref q18, .ref q26, .null, .null, .null, .null, .null])), (q11, .inl (cy 0, 4, .inl (fun _ => 0))), (q18, .inl (cy 0, 4, .inl (fun _ => 0))), (q26, .inl (cy 0, 8, .inl (fun _ => 0))), (q34, .inl (cy 0, 8, .inl (fun _ => 0)))] : va_W) := hD
  refine va_putF (ci := 5) (v := .ref q34) (ty := tyX5 8) (C := RX5) (T := TX5) (N := 13) hx hb hts (fun w h => List.mem_cons_of_mem _ (inX5 w h)) tyX5 tyX5_ok nmX5 hown hK hP hD hS 0 rfl rfl 8 (by decide) (hts _ (List.mem_cons_of_mem _ fl_RX5_25)) (fun _ h9 => h9) rfl hin rfl (tyX5_ok 8 (by decide)) rfl rfl (Nat.le_of_ble_eq_true rfl) dX5_init_36 (fun H locs hP hD hS => ?_)
  have hP : va_P D vwCl ([(h0, .inr (5, [.int 1, .int 0, .int 0, .int 0, .int 0, .ref q11, .ref q18, .ref q26, .ref q34, .null, .null, .null, .null])), (q11, .inl (cy 0, 4, .inl (fun _ => 0))), (q18, .inl (cy 0, 4, .inl (fun _ => 0))), (q26, .inl (cy 0, 8, .inl (fun _ => 0))), (q34, .inl (cy 0, 8, .inl (fun _ => 0)))] : va_W) H := hP
  have hD : va_D A ([(h0, .inr (5, [.int 1, .int 0, .int 0, .int 0, .int 0, .ref q11, .ref q18, .ref q26, .ref q34, .null, .null, .null, .null])), (q11, .inl (cy 0, 4, .inl (fun _ => 0))), (q18, .inl (cy 0, 4, .inl (fun _ => 0))), (q26, .inl (cy 0, 8, .inl (fun _ => 0))), (q34, .inl (cy 0, 8, .inl (fun _ => 0)))] : va_W) := hD
  refine lv_aload_n hx hb dX5_init_39 rfl (lv_at hl 0 rfl) ?_
  refine lv_bipush (v := 40) hx hb dX5_init_40 (by decide) ?_
  refine g_newI (N := 40) hx hb (hts _ (List.mem_cons_of_mem _ ac_int)) hK hP hD hS hA (by decide) (by decide) (by decide) (Nat.le_of_ble_eq_true rfl) (Nat.le_of_ble_eq_true rfl) dX5_init_42 (fun q42 H hP hD hS => ?_)
  have hP : va_P D vwCl ([(h0, .inr (5, [.int 1, .int 0, .int 0, .int 0, .int 0, .ref q11, .ref q18, .ref q26, .ref q34, .null, .null, .null, .null])), (q11, .inl (cy 0, 4, .inl (fun _ => 0))), (q18, .inl (cy 0, 4, .inl (fun _ => 0))), (q26, .inl (cy 0, 8, .inl (fun _ => 0))), (q34, .inl (cy 0, 8, .inl (fun _ => 0))), (q42, .inl (cy 0, 40, .inl (fun _ => 0)))] : va_W) H := hP
  have hD : va_D A ([(h0, .inr (5, [.int 1, .int 0, .int 0, .int 0, .int 0, .ref q11, .ref q18, .ref q26, .ref q34, .null, .null, .null, .null])), (q11, .inl (cy 0, 4, .inl (fun _ => 0))), (q18, .inl (cy 0, 4, .inl (fun _ => 0))), (q26, .inl (cy 0, 8, .inl (fun _ => 0))), (q34, .inl (cy 0, 8, .inl (fun _ => 0))), (q42, .inl (cy 0, 40, .inl (fun _ => 0)))] : va_W) := hD
  refine va_putF (ci := 5) (v := .ref q42) (ty := tyX5 9) (C := RX5) (T := TX5) (N := 13) hx hb hts (fun w h => List.mem_cons_of_mem _ (inX5 w h)) tyX5 tyX5_ok nmX5 hown hK hP hD hS 0 rfl rfl 9 (by decide) (hts _ (List.mem_cons_of_mem _ fl_RX5_28)) (fun _ h9 => h9) rfl hin rfl (tyX5_ok 9 (by decide)) rfl rfl (Nat.le_of_ble_eq_true rfl) dX5_init_44 (fun H locs hP hD hS => ?_)
  have hP : va_P D vwCl ([(h0, .inr (5, [.int 1, .int 0, .int 0, .int 0, .int 0, .ref q11, .ref q18, .ref q26, .ref q34, .ref q42, .null, .null, .null])), (q11, .inl (cy 0, 4, .inl (fun _ => 0))), (q18, .inl (cy 0, 4, .inl (fun _ => 0))), (q26, .inl (cy 0, 8, .inl (fun _ => 0))), (q34, .inl (cy 0, 8, .inl (fun _ => 0))), (q42, .inl (cy 0, 40, .inl (fun _ => 0)))] : va_W) H := hP
  have hD : va_D A ([(h0, .inr (5, [.int 1, .int 0, .int 0, .int 0, .int 0, .ref q11, .ref q18, .ref q26, .ref q34, .ref q42, .null, .null, .null])), (q11, .inl (cy 0, 4, .inl (fun _ => 0))), (q18, .inl (cy 0, 4, .inl (fun _ => 0))), (q26, .inl (cy 0, 8, .inl (fun _ => 0))), (q34, .inl (cy 0, 8, .inl (fun _ => 0))), (q42, .inl (cy 0, 40, .inl (fun _ => 0)))] : va_W) := hD
  refine lv_aload_n hx hb dX5_init_47 rfl (lv_at hl 0 rfl) ?_
  refine lv_bipush (v := 40) hx hb dX5_init_48 (by decide) ?_
  refine g_newI (N := 40) hx hb (hts _ (List.mem_cons_of_mem _ ac_int)) hK hP hD hS hA (by decide) (by decide) (by decide) (Nat.le_of_ble_eq_true rfl) (Nat.le_of_ble_eq_true rfl) dX5_init_50 (fun q50 H hP hD hS => ?_)
  have hP : va_P D vwCl ([(h0, .inr (5, [.int 1, .int 0, .int 0, .int 0, .int 0, .ref q11, .ref q18, .ref q26, .ref q34, .ref q42, .null, .null, .null])), (q11, .inl (cy 0, 4, .inl (fun _ => 0))), (q18, .inl (cy 0, 4, .inl (fun _ => 0))), (q26, .inl (cy 0, 8, .inl (fun _ => 0))), (q34, .inl (cy 0, 8, .inl (fun _ => 0))), (q42, .inl (cy 0, 40, .inl (fun _ => 0))), (q50, .inl (cy 0, 40, .inl (fun _ => 0)))] : va_W) H := hP
  have hD : va_D A ([(h0, .inr (5, [.int 1, .int 0, .int 0, .int 0, .int 0, .ref q11, .ref q18, .ref q26, .ref q34, .ref q42, .null, .null, .null])), (q11, .inl (cy 0, 4, .inl (fun _ => 0))), (q18, .inl (cy 0, 4, .inl (fun _ => 0))), (q26, .inl (cy 0, 8, .inl (fun _ => 0))), (q34, .inl (cy 0, 8, .inl (fun _ => 0))), (q42, .inl (cy 0, 40, .inl (fun _ => 0))), (q50, .inl (cy 0, 40, .inl (fun _ => 0)))] : va_W) := hD
  refine va_putF (ci := 5) (v := .ref q50) (ty := tyX5 10) (C := RX5) (T := TX5) (N := 13) hx hb hts (fun w h => List.mem_cons_of_mem _ (inX5 w h)) tyX5 tyX5_ok nmX5 hown hK hP hD hS 0 rfl rfl 10 (by decide) (hts _ (List.mem_cons_of_mem _ fl_RX5_31)) (fun _ h9 => h9) rfl hin rfl (tyX5_ok 10 (by decide)) rfl rfl (Nat.le_of_ble_eq_true rfl) dX5_init_52 (fun H locs hP hD hS => ?_)
  have hP : va_P D vwCl ([(h0, .inr (5, [.int 1, .int 0, .int 0, .int 0, .int 0, .ref q11, .ref q18, .ref q26, .ref q34, .ref q42, .ref q50, .null, .null])), (q11, .inl (cy 0, 4, .inl (fun _ => 0))), (q18, .inl (cy 0, 4, .inl (fun _ => 0))), (q26, .inl (cy 0, 8, .inl (fun _ => 0))), (q34, .inl (cy 0, 8, .inl (fun _ => 0))), (q42, .inl (cy 0, 40, .inl (fun _ => 0))), (q50, .inl (cy 0, 40, .inl (fun _ => 0)))] : va_W) H := hP
  have hD : va_D A ([(h0, .inr (5, [.int 1, .int 0, .int 0, .int 0, .int 0, .ref q11, .ref q18, .ref q26, .ref q34, .ref q42, .ref q50, .null, .null])), (q11, .inl (cy 0, 4, .inl (fun _ => 0))), (q18, .inl (cy 0, 4, .inl (fun _ => 0))), (q26, .inl (cy 0, 8, .inl (fun _ => 0))), (q34, .inl (cy 0, 8, .inl (fun _ => 0))), (q42, .inl (cy 0, 40, .inl (fun _ => 0))), (q50, .inl (cy 0, 40, .inl (fun _ => 0)))] : va_W) := hD
  refine lv_aload_n hx hb dX5_init_55 rfl (lv_at hl 0 rfl) ?_
  refine lv_sipush (v := 160) hx hb dX5_init_56 (by decide) ?_
  refine g_newI (N := 160) hx hb (hts _ (List.mem_cons_of_mem _ ac_int)) hK hP hD hS hA (by decide) (by decide) (by decide) (Nat.le_of_ble_eq_true rfl) (Nat.le_of_ble_eq_true rfl) dX5_init_59 (fun q59 H hP hD hS => ?_)
  have hP : va_P D vwCl ([(h0, .inr (5, [.int 1, .int 0, .int 0, .int 0, .int 0, .ref q11, .ref q18, .ref q26, .ref q34, .ref q42, .ref q50, .null, .null])), (q11, .inl (cy 0, 4, .inl (fun _ => 0))), (q18, .inl (cy 0, 4, .inl (fun _ => 0))), (q26, .inl (cy 0, 8, .inl (fun _ => 0))), (q34, .inl (cy 0, 8, .inl (fun _ => 0))), (q42, .inl (cy 0, 40, .inl (fun _ => 0))), (q50, .inl (cy 0, 40, .inl (fun _ => 0))), (q59, .inl (cy 0, 160, .inl (fun _ => 0)))] : va_W) H := hP
  have hD : va_D A ([(h0, .inr (5, [.int 1, .int 0, .int 0, .int 0, .int 0, .ref q11, .ref q18, .ref q26, .ref q34, .ref q42, .ref q50, .null, .null])), (q11, .inl (cy 0, 4, .inl (fun _ => 0))), (q18, .inl (cy 0, 4, .inl (fun _ => 0))), (q26, .inl (cy 0, 8, .inl (fun _ => 0))), (q34, .inl (cy 0, 8, .inl (fun _ => 0))), (q42, .inl (cy 0, 40, .inl (fun _ => 0))), (q50, .inl (cy 0, 40, .inl (fun _ => 0))), (q59, .inl (cy 0, 160, .inl (fun _ => 0)))] : va_W) := hD
  refine va_putF (ci := 5) (v := .ref q59) (ty := tyX5 11) (C := RX5) (T := TX5) (N := 13) hx hb hts (fun w h => List.mem_cons_of_mem _ (inX5 w h)) tyX5 tyX5_ok nmX5 hown hK hP hD hS 0 rfl rfl 11 (by decide) (hts _ (List.mem_cons_of_mem _ fl_RX5_34)) (fun _ h9 => h9) rfl hin rfl (tyX5_ok 11 (by decide)) rfl rfl (Nat.le_of_ble_eq_true rfl) dX5_init_61 (fun H locs hP hD hS => ?_)
  have hP : va_P D vwCl ([(h0, .inr (5, [.int 1, .int 0, .int 0, .int 0, .int 0, .ref q11, .ref q18, .ref q26, .ref q34, .ref q42, .ref q50, .ref q59, .null])), (q11, .inl (cy 0, 4, .inl (fun _ => 0))), (q18, .inl (cy 0, 4, .inl (fun _ => 0))), (q26, .inl (cy 0, 8, .inl (fun _ => 0))), (q34, .inl (cy 0, 8, .inl (fun _ => 0))), (q42, .inl (cy 0, 40, .inl (fun _ => 0))), (q50, .inl (cy 0, 40, .inl (fun _ => 0))), (q59, .inl (cy 0, 160, .inl (fun _ => 0)))] : va_W) H := hP
  have hD : va_D A ([(h0, .inr (5, [.int 1, .int 0, .int 0, .int 0, .int 0, .ref q11, .ref q18, .ref q26, .ref q34, .ref q42, .ref q50, .ref q59, .null])), (q11, .inl (cy 0, 4, .inl (fun _ => 0))), (q18, .inl (cy 0, 4, .inl (fun _ => 0))), (q26, .inl (cy 0, 8, .inl (fun _ => 0))), (q34, .inl (cy 0, 8, .inl (fun _ => 0))), (q42, .inl (cy 0, 40, .inl (fun _ => 0))), (q50, .inl (cy 0, 40, .inl (fun _ => 0))), (q59, .inl (cy 0, 160, .inl (fun _ => 0)))] : va_W) := hD
  refine lv_aload_n hx hb dX5_init_64 rfl (lv_at hl 0 rfl) ?_
  refine lv_sipush (v := 160) hx hb dX5_init_65 (by decide) ?_
  refine g_newI (N := 160) hx hb (hts _ (List.mem_cons_of_mem _ ac_int)) hK hP hD hS hA (by decide) (by decide) (by decide) (Nat.le_of_ble_eq_true rfl) (Nat.le_of_ble_eq_true rfl) dX5_init_68 (fun q68 H hP hD hS => ?_)
  have hP : va_P D vwCl ([(h0, .inr (5, [.int 1, .int 0, .int 0, .int 0, .int 0, .ref q11, .ref q18, .ref q26, .ref q34, .ref q42, .ref q50, .ref q59, .null])), (q11, .inl (cy 0, 4, .inl (fun _ => 0))), (q18, .inl (cy 0, 4, .inl (fun _ => 0))), (q26, .inl (cy 0, 8, .inl (fun _ => 0))), (q34, .inl (cy 0, 8, .inl (fun _ => 0))), (q42, .inl (cy 0, 40, .inl (fun _ => 0))), (q50, .inl (cy 0, 40, .inl (fun _ => 0))), (q59, .inl (cy 0, 160, .inl (fun _ => 0))), (q68, .inl (cy 0, 160, .inl (fun _ => 0)))] : va_W) H := hP
  have hD : va_D A ([(h0, .inr (5, [.int 1, .int 0, .int 0, .int 0, .int 0, .ref q11, .ref q18, .ref q26, .ref q34, .ref q42, .ref q50, .ref q59, .null])), (q11, .inl (cy 0, 4, .inl (fun _ => 0))), (q18, .inl (cy 0, 4, .inl (fun _ => 0))), (q26, .inl (cy 0, 8, .inl (fun _ => 0))), (q34, .inl (cy 0, 8, .inl (fun _ => 0))), (q42, .inl (cy 0, 40, .inl (fun _ => 0))), (q50, .inl (cy 0, 40, .inl (fun _ => 0))), (q59, .inl (cy 0, 160, .inl (fun _ => 0))), (q68, .inl (cy 0, 160, .inl (fun _ => 0)))] : va_W) := hD
  refine va_putF (ci := 5) (v := .ref q68) (ty := tyX5 12) (C := RX5) (T := TX5) (N := 13) hx hb hts (fun w h => List.mem_cons_of_mem _ (inX5 w h)) tyX5 tyX5_ok nmX5 hown hK hP hD hS 0 rfl rfl 12 (by decide) (hts _ (List.mem_cons_of_mem _ fl_RX5_37)) (fun _ h9 => h9) rfl hin rfl (tyX5_ok 12 (by decide)) rfl rfl (Nat.le_of_ble_eq_true rfl) dX5_init_70 (fun H locs hP hD hS => ?_)
  have hP : va_P D vwCl ([(h0, .inr (5, [.int 1, .int 0, .int 0, .int 0, .int 0, .ref q11, .ref q18, .ref q26, .ref q34, .ref q42, .ref q50, .ref q59, .ref q68])), (q11, .inl (cy 0, 4, .inl (fun _ => 0))), (q18, .inl (cy 0, 4, .inl (fun _ => 0))), (q26, .inl (cy 0, 8, .inl (fun _ => 0))), (q34, .inl (cy 0, 8, .inl (fun _ => 0))), (q42, .inl (cy 0, 40, .inl (fun _ => 0))), (q50, .inl (cy 0, 40, .inl (fun _ => 0))), (q59, .inl (cy 0, 160, .inl (fun _ => 0))), (q68, .inl (cy 0, 160, .inl (fun _ => 0)))] : va_W) H := hP
  have hD : va_D A ([(h0, .inr (5, [.int 1, .int 0, .int 0, .int 0, .int 0, .ref q11, .ref q18, .ref q26, .ref q34, .ref q42, .ref q50, .ref q59, .ref q68])), (q11, .inl (cy 0, 4, .inl (fun _ => 0))), (q18, .inl (cy 0, 4, .inl (fun _ => 0))), (q26, .inl (cy 0, 8, .inl (fun _ => 0))), (q34, .inl (cy 0, 8, .inl (fun _ => 0))), (q42, .inl (cy 0, 40, .inl (fun _ => 0))), (q50, .inl (cy 0, 40, .inl (fun _ => 0))), (q59, .inl (cy 0, 160, .inl (fun _ => 0))), (q68, .inl (cy 0, 160, .inl (fun _ => 0)))] : va_W) := hD
  have hP : va_P D vwCl ((fun x : Nat → Nat => (w5 cy h0 x s5i)) (fun k => ([0, 0, 0, 0, 0, q11, q18, q26, q34, q42, q50, q59, q68] : List Nat).getD k 0)) H := hP
  have hD : va_D A ((fun x : Nat → Nat => (w5 cy h0 x s5i)) (fun k => ([0, 0, 0, 0, 0, q11, q18, q26, q34, q42, q50, q59, q68] : List Nat).getD k 0)) := hD
  exact g_xret (fun k => ([0, 0, 0, 0, 0, q11, q18, q26, q34, q42, q50, q59, q68] : List Nat).getD k 0) hx hb hr hlk hK hP hD hS (Nat.le_of_ble_eq_true rfl) (Nat.le_of_ble_eq_true rfl) dX5_init_73
theorem hdX4_init : yX4_init.cls ≠ "java/lang/invoke/MethodHandle" ∧ yX4_init.cls ≠ "java/lang/invoke/VarHandle" ∧ (parseMethodDescriptor yX4_init.desc).map (fun d => d.parameters.length) = some 1 := by decide +kernel
set_option maxHeartbeats 4000000 in
set_option maxRecDepth 100000 in
theorem c_X4_init (l : Launch) (D : va_G) (cy : Nat → ClassId) (h0 : Nat) (g : Nat) (sz : Nat) : Met l yX4_init (WS yX4_init cX4_init 2 none) ({ frames := 1, cells := 0, slots := 0, locals := 12 } : Room) (va_Pc [.ref h0, .ref g] (gPM D cy sz [(h0, .inr (4, [.null, .int 0, .int 0, .int 0, .int 0, .int 0]))])) (gQx D cy (va_A [(h0, .inr (4, [.null, .int 0, .int 0, .int 0, .int 0, .int 0]))] sz) (fun x : Unit => (w4 cy h0 g s0i))) 0 0 (va_A [(h0, .inr (4, [.null, .int 0, .int 0, .int 0, .int 0, .int 0]))] sz) := by
  refine g_metM (cc := cX4_init) (maxL := 2) (fun A : Nat → Prop => gQx D cy A (fun x : Unit => (w4 cy h0 g s0i))) (by decide +kernel) rfl (Nat.le_of_ble_eq_true rfl) ?_
  intro p e s m below meth c A C hin hA hM hK hP hD ls hl
  obtain ⟨hx, hb, hr, hml, hown, hts, hlk⟩ := id C
  have hown : s.vm.findClass RX4 = some m.cls := hown
  have hin : meth.name = "<init>" := hin
  have hS : va_S A s.heap s.heap [] := va_S.rf
  have hl : lv_has ls 2 [(0, .ref h0), (1, .ref g)] := hl
  refine lv_aload_n hx hb dX4_init_0 rfl (lv_at hl 0 rfl) ?_
  refine W.objInit hx hb hown (hts _ (List.mem_cons_of_mem _ oi_RX4)) (hts _ (List.mem_cons_of_mem _ im_oi)) (hts _ (List.mem_cons_of_mem _ cd_oi)) rfl (by rw [hml]; exact hl.1) rfl dX4_init_1 (Nat.le_of_ble_eq_true rfl) (Nat.le_of_ble_eq_true rfl) ?_
  refine W.eq (g2 := F0 m 4 ls []) rfl ?_
  refine lv_aload_n hx hb dX4_init_4 rfl (lv_at hl 0 rfl) ?_
  refine lv_aload_n hx hb dX4_init_5 rfl (lv_at hl 1 rfl) ?_
  refine va_put (ci := 4) (v := .ref g) (ty := tyX4 0) (C := RX4) (T := TX4) (N := 6) hx hb hts (fun w h => List.mem_cons_of_mem _ (inX4 w h)) tyX4 tyX4_ok nmX4 hown hK hP hD hS 0 rfl rfl 0 (by decide) (hts _ (List.mem_cons_of_mem _ fl_RX4_9)) (fun _ h9 => h9) rfl (tyX4_ok 0 (by decide)) rfl rfl (Nat.le_of_ble_eq_true rfl) dX4_init_6 (fun H locs hP hD hS => ?_)
  have hP : va_P D vwCl ([(h0, .inr (4, [.ref g, .int 0, .int 0, .int 0, .int 0, .int 0]))] : va_W) H := hP
  have hD : va_D A ([(h0, .inr (4, [.ref g, .int 0, .int 0, .int 0, .int 0, .int 0]))] : va_W) := hD
  have hP : va_P D vwCl ((fun x : Unit => (w4 cy h0 g s0i)) ()) H := hP
  have hD : va_D A ((fun x : Unit => (w4 cy h0 g s0i)) ()) := hD
  exact g_xret () hx hb hr hlk hK hP hD hS (Nat.le_of_ble_eq_true rfl) (Nat.le_of_ble_eq_true rfl) dX4_init_9
theorem hdX3_init : yX3_init.cls ≠ "java/lang/invoke/MethodHandle" ∧ yX3_init.cls ≠ "java/lang/invoke/VarHandle" ∧ (parseMethodDescriptor yX3_init.desc).map (fun d => d.parameters.length) = some 2 := by decide +kernel
set_option maxHeartbeats 4000000 in
set_option maxRecDepth 100000 in
theorem c_X3_init (l : Launch) (D : va_G) (cy : Nat → ClassId) (h0 : Nat) (r : Nat) (g : Nat) (sz : Nat) : Met l yX3_init (WS yX3_init cX3_init 3 none) ({ frames := 2, cells := 1, slots := 6, locals := 33 } : Room) (va_Pc [.ref h0, .ref r, .ref g] (gPM D cy sz [(h0, .inr (3, [.int 0, .int 0, .null, .null, .int 0, .int 0]))])) (gQx D cy (va_A [(h0, .inr (3, [.int 0, .int 0, .null, .null, .int 0, .int 0]))] sz) (fun x : Nat => ((w3 cy h0 x r s3i) ++ (w4 cy x g s0i)))) 1 6 (va_A [(h0, .inr (3, [.int 0, .int 0, .null, .null, .int 0, .int 0]))] sz) := by
  refine g_metM (cc := cX3_init) (maxL := 3) (fun A : Nat → Prop => gQx D cy A (fun x : Nat => ((w3 cy h0 x r s3i) ++ (w4 cy x g s0i)))) (by decide +kernel) rfl (Nat.le_of_ble_eq_true rfl) ?_
  intro p e s m below meth c A C hin hA hM hK hP hD ls hl
  obtain ⟨hx, hb, hr, hml, hown, hts, hlk⟩ := id C
  have hown : s.vm.findClass RX3 = some m.cls := hown
  have hin : meth.name = "<init>" := hin
  have hS : va_S A s.heap s.heap [] := va_S.rf
  have hl : lv_has ls 3 [(0, .ref h0), (1, .ref r), (2, .ref g)] := hl
  refine lv_aload_n hx hb dX3_init_0 rfl (lv_at hl 0 rfl) ?_
  refine W.objInit hx hb hown (hts _ (List.mem_cons_of_mem _ oi_RX3)) (hts _ (List.mem_cons_of_mem _ im_oi)) (hts _ (List.mem_cons_of_mem _ cd_oi)) rfl (by rw [hml]; exact hl.1) rfl dX3_init_1 (Nat.le_of_ble_eq_true rfl) (Nat.le_of_ble_eq_true rfl) ?_
  refine W.eq (g2 := F0 m 4 ls []) rfl ?_
  refine lv_aload_n hx hb dX3_init_4 rfl (lv_at hl 0 rfl) ?_
  refine lv_iconst (v := (-1)) hx hb dX3_init_5 (by decide) ?_
  refine va_put (ci := 3) (v := .int (-1)) (ty := tyX3 1) (C := RX3) (T := TX3) (N := 6) hx hb hts (fun w h => List.mem_cons_of_mem _ (inX3 w h)) tyX3 tyX3_ok nmX3 hown hK hP hD hS 0 rfl rfl 1 (by decide) (hts _ (List.mem_cons_of_mem _ fl_RX3_9)) (fun _ h9 => h9) rfl (tyX3_ok 1 (by decide)) rfl rfl (Nat.le_of_ble_eq_true rfl) dX3_init_6 (fun H locs hP hD hS => ?_)
  have hP : va_P D vwCl ([(h0, .inr (3, [.int 0, .int (-1), .null, .null, .int 0, .int 0]))] : va_W) H := hP
  have hD : va_D A ([(h0, .inr (3, [.int 0, .int (-1), .null, .null, .int 0, .int 0]))] : va_W) := hD
  refine lv_aload_n hx hb dX3_init_9 rfl (lv_at hl 0 rfl) ?_
  refine lv_aload_n hx hb dX3_init_10 rfl (lv_at hl 1 rfl) ?_
  refine va_put (ci := 3) (v := .ref r) (ty := tyX3 3) (C := RX3) (T := TX3) (N := 6) hx hb hts (fun w h => List.mem_cons_of_mem _ (inX3 w h)) tyX3 tyX3_ok nmX3 hown hK hP hD hS 0 rfl rfl 3 (by decide) (hts _ (List.mem_cons_of_mem _ fl_RX3_15)) (fun _ h9 => h9) rfl (tyX3_ok 3 (by decide)) rfl rfl (Nat.le_of_ble_eq_true rfl) dX3_init_11 (fun H locs hP hD hS => ?_)
  have hP : va_P D vwCl ([(h0, .inr (3, [.int 0, .int (-1), .null, .ref r, .int 0, .int 0]))] : va_W) H := hP
  have hD : va_D A ([(h0, .inr (3, [.int 0, .int (-1), .null, .ref r, .int 0, .int 0]))] : va_W) := hD
  refine lv_aload_n hx hb dX3_init_14 rfl (lv_at hl 0 rfl) ?_
  refine va_new (ci := 4) (fs := [.null, .int 0, .int 0, .int 0, .int 0, .int 0]) (C := RX4) (T := TX4) (N := 6) hx hb hts (fun w h => List.mem_cons_of_mem _ (inX4 w h)) tyX4 tyX4_ok hown (hts _ (List.mem_cons_of_mem _ cl_RX3_19)) (hts _ (List.mem_cons_of_mem _ it_RX4)) (hts _ (List.mem_cons_of_mem _ in_RX4)) hK hP hD hS hA rfl (fun j hj => by rcases (show j = 0 ∨ j = 1 ∨ j = 2 ∨ j = 3 ∨ j = 4 ∨ j = 5 by omega) with rfl | rfl | rfl | rfl | rfl | rfl <;> rfl) (Nat.le_of_ble_eq_true rfl) (Nat.le_of_ble_eq_true rfl) dX3_init_15 (fun q15 H hP hD hS => ?_)
  have hP : va_P D vwCl ([(h0, .inr (3, [.int 0, .int (-1), .null, .ref r, .int 0, .int 0])), (q15, .inr (4, [.null, .int 0, .int 0, .int 0, .int 0, .int 0]))] : va_W) H := hP
  have hD : va_D A ([(h0, .inr (3, [.int 0, .int (-1), .null, .ref r, .int 0, .int 0])), (q15, .inr (4, [.null, .int 0, .int 0, .int 0, .int 0, .int 0]))] : va_W) := hD
  refine lv_dup hx hb dX3_init_18 rfl ?_
  refine lv_aload_n hx hb dX3_init_19 rfl (lv_at hl 2 rfl) ?_
  refine g_init (ws := ([(h0, .inr (3, [.int 0, .int (-1), .null, .ref r, .int 0, .int 0]))] : va_W)) (wc := [(q15, .inr (4, [.null, .int 0, .int 0, .int 0, .int 0, .int 0]))]) (As := [.ref g]) (rest := [.ref q15, .ref h0]) ⟨hx, hb, hml, hown, hts⟩ (c_X4_init l D cy q15 g _) (cwI 1 hts (gi_W cd_X4_init) rfl rfl rfl (hts _ (List.mem_cons_of_mem _ in_RX4)) (hts _ (List.mem_cons_of_mem _ ml_RX3_21)) (hts _ (List.mem_cons_of_mem _ im_X4_init)) rfl hdX4_init ⟨(Nat.le_of_ble_eq_true rfl), (Nat.le_of_ble_eq_true rfl)⟩) rfl hl.1 rfl (Nat.le_of_ble_eq_true rfl) dX3_init_20 hM hK hP hD hS hA (Nat.le_of_ble_eq_true rfl) (Nat.le_of_ble_eq_true rfl) (fun x20 H locs hP hD hS => ?_)
  have hP : va_P D vwCl ([(h0, .inr (3, [.int 0, .int (-1), .null, .ref r, .int 0, .int 0]))] ++ (w4 cy q15 g s0i) : va_W) H := hP
  have hD : va_D A ([(h0, .inr (3, [.int 0, .int (-1), .null, .ref r, .int 0, .int 0]))] ++ (w4 cy q15 g s0i) : va_W) := hD
  refine va_putF (ci := 3) (v := .ref q15) (ty := tyX3 2) (C := RX3) (T := TX3) (N := 6) hx hb hts (fun w h => List.mem_cons_of_mem _ (inX3 w h)) tyX3 tyX3_ok nmX3 hown hK hP hD hS 0 rfl rfl 2 (by decide) (hts _ (List.mem_cons_of_mem _ fl_RX3_24)) (fun _ h9 => h9) rfl hin rfl (tyX3_ok 2 (by decide)) rfl rfl (Nat.le_of_ble_eq_true rfl) dX3_init_23 (fun H locs hP hD hS => ?_)
  have hP : va_P D vwCl ([(h0, .inr (3, [.int 0, .int (-1), .ref q15, .ref r, .int 0, .int 0]))] ++ (w4 cy q15 g s0i) : va_W) H := hP
  have hD : va_D A ([(h0, .inr (3, [.int 0, .int (-1), .ref q15, .ref r, .int 0, .int 0]))] ++ (w4 cy q15 g s0i) : va_W) := hD
  have hP : va_P D vwCl ((fun x : Nat => ((w3 cy h0 x r s3i) ++ (w4 cy x g s0i))) q15) H := hP
  have hD : va_D A ((fun x : Nat => ((w3 cy h0 x r s3i) ++ (w4 cy x g s0i))) q15) := hD
  exact g_xret q15 hx hb hr hlk hK hP hD hS (Nat.le_of_ble_eq_true rfl) (Nat.le_of_ble_eq_true rfl) dX3_init_26
theorem hdX1_init : yX1_init.cls ≠ "java/lang/invoke/MethodHandle" ∧ yX1_init.cls ≠ "java/lang/invoke/VarHandle" ∧ (parseMethodDescriptor yX1_init.desc).map (fun d => d.parameters.length) = some 0 := by decide +kernel
set_option maxHeartbeats 4000000 in
set_option maxRecDepth 100000 in
theorem c_X1_init (l : Launch) (D : va_G) (cy : Nat → ClassId) (h0 : Nat) (sz : Nat) : Met l yX1_init (WS yX1_init cX1_init 1 none) ({ frames := 1, cells := 19, slots := 4121, locals := 12 } : Room) (va_Pc [.ref h0] (gPM D cy sz [(h0, .inr (1, [.null, .null, .null, .null, .null, .null, .int 0, .int 0, .int 0]))])) (gQx D cy (va_A [(h0, .inr (1, [.null, .null, .null, .null, .null, .null, .int 0, .int 0, .int 0]))] sz) (fun x : (Nat → Nat) × Nat × (Nat → Nat) => ((w1 cy h0 x.2.1 x.1 s0i) ++ (wP cy x.2.1 x.2.2 s0i)))) 19 4121 (va_A [(h0, .inr (1, [.null, .null, .null, .null, .null, .null, .int 0, .int 0, .int 0]))] sz) := by
  refine g_metM (cc := cX1_init) (maxL := 1) (fun A : Nat → Prop => gQx D cy A (fun x : (Nat → Nat) × Nat × (Nat → Nat) => ((w1 cy h0 x.2.1 x.1 s0i) ++ (wP cy x.2.1 x.2.2 s0i)))) (by decide +kernel) rfl (Nat.le_of_ble_eq_true rfl) ?_
  intro p e s m below meth c A C hin hA hM hK hP hD ls hl
  obtain ⟨hx, hb, hr, hml, hown, hts, hlk⟩ := id C
  have hown : s.vm.findClass RX1 = some m.cls := hown
  have hin : meth.name = "<init>" := hin
  have hS : va_S A s.heap s.heap [] := va_S.rf
  have hl : lv_has ls 1 [(0, .ref h0)] := hl
  refine lv_aload_n hx hb dX1_init_0 rfl (lv_at hl 0 rfl) ?_
  refine W.objInit hx hb hown (hts _ (List.mem_cons_of_mem _ oi_RX1)) (hts _ (List.mem_cons_of_mem _ im_oi)) (hts _ (List.mem_cons_of_mem _ cd_oi)) rfl (by rw [hml]; exact hl.1) rfl dX1_init_1 (Nat.le_of_ble_eq_true rfl) (Nat.le_of_ble_eq_true rfl) ?_
  refine W.eq (g2 := F0 m 4 ls []) rfl ?_
  refine lv_aload_n hx hb dX1_init_4 rfl (lv_at hl 0 rfl) ?_
  refine lv_sipush (v := 240) hx hb dX1_init_5 (by decide) ?_
  refine g_newI (N := 240) hx hb (hts _ (List.mem_cons_of_mem _ ac_int)) hK hP hD hS hA (by decide) (by decide) (by decide) (Nat.le_of_ble_eq_true rfl) (Nat.le_of_ble_eq_true rfl) dX1_init_8 (fun q8 H hP hD hS => ?_)
  have hP : va_P D vwCl ([(h0, .inr (1, [.null, .null, .null, .null, .null, .null, .int 0, .int 0, .int 0])), (q8, .inl (cy 0, 240, .inl (fun _ => 0)))] : va_W) H := hP
  have hD : va_D A ([(h0, .inr (1, [.null, .null, .null, .null, .null, .null, .int 0, .int 0, .int 0])), (q8, .inl (cy 0, 240, .inl (fun _ => 0)))] : va_W) := hD
  refine va_putF (ci := 1) (v := .ref q8) (ty := tyX1 0) (C := RX1) (T := TX1) (N := 9) hx hb hts (fun w h => List.mem_cons_of_mem _ (inX1 w h)) tyX1 tyX1_ok nmX1 hown hK hP hD hS 0 rfl rfl 0 (by decide) (hts _ (List.mem_cons_of_mem _ fl_RX1_9)) (fun _ h9 => h9) rfl hin rfl (tyX1_ok 0 (by decide)) rfl rfl (Nat.le_of_ble_eq_true rfl) dX1_init_10 (fun H locs hP hD hS => ?_)
  have hP : va_P D vwCl ([(h0, .inr (1, [.ref q8, .null, .null, .null, .null, .null, .int 0, .int 0, .int 0])), (q8, .inl (cy 0, 240, .inl (fun _ => 0)))] : va_W) H := hP
  have hD : va_D A ([(h0, .inr (1, [.ref q8, .null, .null, .null, .null, .null, .int 0, .int 0, .int 0])), (q8, .inl (cy 0, 240, .inl (fun _ => 0)))] : va_W) := hD
  refine lv_aload_n hx hb dX1_init_13 rfl (lv_at hl 0 rfl) ?_
  refine lv_sipush (v := 240) hx hb dX1_init_14 (by decide) ?_
  refine g_newI (N := 240) hx hb (hts _ (List.mem_cons_of_mem _ ac_int)) hK hP hD hS hA (by decide) (by decide) (by decide) (Nat.le_of_ble_eq_true rfl) (Nat.le_of_ble_eq_true rfl) dX1_init_17 (fun q17 H hP hD hS => ?_)
  have hP : va_P D vwCl ([(h0, .inr (1, [.ref q8, .null, .null, .null, .null, .null, .int 0, .int 0, .int 0])), (q8, .inl (cy 0, 240, .inl (fun _ => 0))), (q17, .inl (cy 0, 240, .inl (fun _ => 0)))] : va_W) H := hP
  have hD : va_D A ([(h0, .inr (1, [.ref q8, .null, .null, .null, .null, .null, .int 0, .int 0, .int 0])), (q8, .inl (cy 0, 240, .inl (fun _ => 0))), (q17, .inl (cy 0, 240, .inl (fun _ => 0)))] : va_W) := hD
  refine va_putF (ci := 1) (v := .ref q17) (ty := tyX1 1) (C := RX1) (T := TX1) (N := 9) hx hb hts (fun w h => List.mem_cons_of_mem _ (inX1 w h)) tyX1 tyX1_ok nmX1 hown hK hP hD hS 0 rfl rfl 1 (by decide) (hts _ (List.mem_cons_of_mem _ fl_RX1_15)) (fun _ h9 => h9) rfl hin rfl (tyX1_ok 1 (by decide)) rfl rfl (Nat.le_of_ble_eq_true rfl) dX1_init_19 (fun H locs hP hD hS => ?_)
  have hP : va_P D vwCl ([(h0, .inr (1, [.ref q8, .ref q17, .null, .null, .null, .null, .int 0, .int 0, .int 0])), (q8, .inl (cy 0, 240, .inl (fun _ => 0))), (q17, .inl (cy 0, 240, .inl (fun _ => 0)))] : va_W) H := hP
  have hD : va_D A ([(h0, .inr (1, [.ref q8, .ref q17, .null, .null, .null, .null, .int 0, .int 0, .int 0])), (q8, .inl (cy 0, 240, .inl (fun _ => 0))), (q17, .inl (cy 0, 240, .inl (fun _ => 0)))] : va_W) := hD
  refine lv_aload_n hx hb dX1_init_22 rfl (lv_at hl 0 rfl) ?_
  refine lv_sipush (v := 241) hx hb dX1_init_23 (by decide) ?_
  refine g_newI (N := 241) hx hb (hts _ (List.mem_cons_of_mem _ ac_int)) hK hP hD hS hA (by decide) (by decide) (by decide) (Nat.le_of_ble_eq_true rfl) (Nat.le_of_ble_eq_true rfl) dX1_init_26 (fun q26 H hP hD hS => ?_)
  have hP : va_P D vwCl ([(h0, .inr (1, [.ref q8, .ref q17, .null, .null, .null, .null, .int 0, .int 0, .int 0])), (q8, .inl (cy 0, 240, .inl (fun _ => 0))), (q17, .inl (cy 0, 240, .inl (fun _ => 0))), (q26, .inl (cy 0, 241, .inl (fun _ => 0)))] : va_W) H := hP
  have hD : va_D A ([(h0, .inr (1, [.ref q8, .ref q17, .null, .null, .null, .null, .int 0, .int 0, .int 0])), (q8, .inl (cy 0, 240, .inl (fun _ => 0))), (q17, .inl (cy 0, 240, .inl (fun _ => 0))), (q26, .inl (cy 0, 241, .inl (fun _ => 0)))] : va_W) := hD
  refine va_putF (ci := 1) (v := .ref q26) (ty := tyX1 2) (C := RX1) (T := TX1) (N := 9) hx hb hts (fun w h => List.mem_cons_of_mem _ (inX1 w h)) tyX1 tyX1_ok nmX1 hown hK hP hD hS 0 rfl rfl 2 (by decide) (hts _ (List.mem_cons_of_mem _ fl_RX1_18)) (fun _ h9 => h9) rfl hin rfl (tyX1_ok 2 (by decide)) rfl rfl (Nat.le_of_ble_eq_true rfl) dX1_init_28 (fun H locs hP hD hS => ?_)
  have hP : va_P D vwCl ([(h0, .inr (1, [.ref q8, .ref q17, .ref q26, .null, .null, .null, .int 0, .int 0, .int 0])), (q8, .inl (cy 0, 240, .inl (fun _ => 0))), (q17, .inl (cy 0, 240, .inl (fun _ => 0))), (q26, .inl (cy 0, 241, .inl (fun _ => 0)))] : va_W) H := hP
  have hD : va_D A ([(h0, .inr (1, [.ref q8, .ref q17, .ref q26, .null, .null, .null, .int 0, .int 0, .int 0])), (q8, .inl (cy 0, 240, .inl (fun _ => 0))), (q17, .inl (cy 0, 240, .inl (fun _ => 0))), (q26, .inl (cy 0, 241, .inl (fun _ => 0)))] : va_W) := hD
  refine lv_aload_n hx hb dX1_init_31 rfl (lv_at hl 0 rfl) ?_
  refine lv_sipush (v := 241) hx hb dX1_init_32 (by decide) ?_
  refine g_newI (N := 241) hx hb (hts _ (List.mem_cons_of_mem _ ac_int)) hK hP hD hS hA (by decide) (by decide) (by decide) (Nat.le_of_ble_eq_true rfl) (Nat.le_of_ble_eq_true rfl) dX1_init_35 (fun q35 H hP hD hS => ?_)
  have hP : va_P D vwCl ([(h0, .inr (1, [.ref q8, .ref q17, .ref q26, .null, .null, .null, .int 0, .int 0, .int 0])), (q8, .inl (cy 0, 240, .inl (fun _ => 0))), (q17, .inl (cy 0, 240, .inl (fun _ => 0))), (q26, .inl (cy 0, 241, .inl (fun _ => 0))), (q35, .inl (cy 0, 241, .inl (fun _ => 0)))] : va_W) H := hP
  have hD : va_D A ([(h0, .inr (1, [.ref q8, .ref q17, .ref q26, .null, .null, .null, .int 0, .int 0, .int 0])), (q8, .inl (cy 0, 240, .inl (fun _ => 0))), (q17, .inl (cy 0, 240, .inl (fun _ => 0))), (q26, .inl (cy 0, 241, .inl (fun _ => 0))), (q35, .inl (cy 0, 241, .inl (fun _ => 0)))] : va_W) := hD
  refine va_putF (ci := 1) (v := .ref q35) (ty := tyX1 3) (C := RX1) (T := TX1) (N := 9) hx hb hts (fun w h => List.mem_cons_of_mem _ (inX1 w h)) tyX1 tyX1_ok nmX1 hown hK hP hD hS 0 rfl rfl 3 (by decide) (hts _ (List.mem_cons_of_mem _ fl_RX1_21)) (fun _ h9 => h9) rfl hin rfl (tyX1_ok 3 (by decide)) rfl rfl (Nat.le_of_ble_eq_true rfl) dX1_init_37 (fun H locs hP hD hS => ?_)
  have hP : va_P D vwCl ([(h0, .inr (1, [.ref q8, .ref q17, .ref q26, .ref q35, .null, .null, .int 0, .int 0, .int 0])), (q8, .inl (cy 0, 240, .inl (fun _ => 0))), (q17, .inl (cy 0, 240, .inl (fun _ => 0))), (q26, .inl (cy 0, 241, .inl (fun _ => 0))), (q35, .inl (cy 0, 241, .inl (fun _ => 0)))] : va_W) H := hP
  have hD : va_D A ([(h0, .inr (1, [.ref q8, .ref q17, .ref q26, .ref q35, .null, .null, .int 0, .int 0, .int 0])), (q8, .inl (cy 0, 240, .inl (fun _ => 0))), (q17, .inl (cy 0, 240, .inl (fun _ => 0))), (q26, .inl (cy 0, 241, .inl (fun _ => 0))), (q35, .inl (cy 0, 241, .inl (fun _ => 0)))] : va_W) := hD
  refine lv_aload_n hx hb dX1_init_40 rfl (lv_at hl 0 rfl) ?_
  refine lv_bipush (v := 13) hx hb dX1_init_41 (by decide) ?_
  refine g_newI (N := 13) hx hb (hts _ (List.mem_cons_of_mem _ ac_int)) hK hP hD hS hA (by decide) (by decide) (by decide) (Nat.le_of_ble_eq_true rfl) (Nat.le_of_ble_eq_true rfl) dX1_init_43 (fun q43 H hP hD hS => ?_)
  have hP : va_P D vwCl ([(h0, .inr (1, [.ref q8, .ref q17, .ref q26, .ref q35, .null, .null, .int 0, .int 0, .int 0])), (q8, .inl (cy 0, 240, .inl (fun _ => 0))), (q17, .inl (cy 0, 240, .inl (fun _ => 0))), (q26, .inl (cy 0, 241, .inl (fun _ => 0))), (q35, .inl (cy 0, 241, .inl (fun _ => 0))), (q43, .inl (cy 0, 13, .inl (fun _ => 0)))] : va_W) H := hP
  have hD : va_D A ([(h0, .inr (1, [.ref q8, .ref q17, .ref q26, .ref q35, .null, .null, .int 0, .int 0, .int 0])), (q8, .inl (cy 0, 240, .inl (fun _ => 0))), (q17, .inl (cy 0, 240, .inl (fun _ => 0))), (q26, .inl (cy 0, 241, .inl (fun _ => 0))), (q35, .inl (cy 0, 241, .inl (fun _ => 0))), (q43, .inl (cy 0, 13, .inl (fun _ => 0)))] : va_W) := hD
  refine va_putF (ci := 1) (v := .ref q43) (ty := tyX1 4) (C := RX1) (T := TX1) (N := 9) hx hb hts (fun w h => List.mem_cons_of_mem _ (inX1 w h)) tyX1 tyX1_ok nmX1 hown hK hP hD hS 0 rfl rfl 4 (by decide) (hts _ (List.mem_cons_of_mem _ fl_RX1_24)) (fun _ h9 => h9) rfl hin rfl (tyX1_ok 4 (by decide)) rfl rfl (Nat.le_of_ble_eq_true rfl) dX1_init_45 (fun H locs hP hD hS => ?_)
  have hP : va_P D vwCl ([(h0, .inr (1, [.ref q8, .ref q17, .ref q26, .ref q35, .ref q43, .null, .int 0, .int 0, .int 0])), (q8, .inl (cy 0, 240, .inl (fun _ => 0))), (q17, .inl (cy 0, 240, .inl (fun _ => 0))), (q26, .inl (cy 0, 241, .inl (fun _ => 0))), (q35, .inl (cy 0, 241, .inl (fun _ => 0))), (q43, .inl (cy 0, 13, .inl (fun _ => 0)))] : va_W) H := hP
  have hD : va_D A ([(h0, .inr (1, [.ref q8, .ref q17, .ref q26, .ref q35, .ref q43, .null, .int 0, .int 0, .int 0])), (q8, .inl (cy 0, 240, .inl (fun _ => 0))), (q17, .inl (cy 0, 240, .inl (fun _ => 0))), (q26, .inl (cy 0, 241, .inl (fun _ => 0))), (q35, .inl (cy 0, 241, .inl (fun _ => 0))), (q43, .inl (cy 0, 13, .inl (fun _ => 0)))] : va_W) := hD
  refine lv_aload_n hx hb dX1_init_48 rfl (lv_at hl 0 rfl) ?_
  refine lv_bipush (v := 13) hx hb dX1_init_49 (by decide) ?_
  refine lv_sipush (v := 241) hx hb dX1_init_51 (by decide) ?_
  refine g_mna hx hb hown (hts _ (List.mem_cons_of_mem _ cl_RX1_27)) (hts _ (List.mem_cons_of_mem _ ac_int)) hM hK hP hD hS hA (Nat.le_of_ble_eq_true rfl) (Nat.le_of_ble_eq_true rfl) dX1_init_54 (fun q54 r54 H hP hD hS => ?_)
  have hP : va_P D vwCl ([(h0, .inr (1, [.ref q8, .ref q17, .ref q26, .ref q35, .ref q43, .null, .int 0, .int 0, .int 0])), (q8, .inl (cy 0, 240, .inl (fun _ => 0))), (q17, .inl (cy 0, 240, .inl (fun _ => 0))), (q26, .inl (cy 0, 241, .inl (fun _ => 0))), (q35, .inl (cy 0, 241, .inl (fun _ => 0))), (q43, .inl (cy 0, 13, .inl (fun _ => 0)))] ++ (wP cy q54 r54 (fun _ => 0, fun _ _ => 0)) : va_W) H := hP
  have hD : va_D A ([(h0, .inr (1, [.ref q8, .ref q17, .ref q26, .ref q35, .ref q43, .null, .int 0, .int 0, .int 0])), (q8, .inl (cy 0, 240, .inl (fun _ => 0))), (q17, .inl (cy 0, 240, .inl (fun _ => 0))), (q26, .inl (cy 0, 241, .inl (fun _ => 0))), (q35, .inl (cy 0, 241, .inl (fun _ => 0))), (q43, .inl (cy 0, 13, .inl (fun _ => 0)))] ++ (wP cy q54 r54 (fun _ => 0, fun _ _ => 0)) : va_W) := hD
  refine va_putF (ci := 1) (v := .ref q54) (ty := tyX1 5) (C := RX1) (T := TX1) (N := 9) hx hb hts (fun w h => List.mem_cons_of_mem _ (inX1 w h)) tyX1 tyX1_ok nmX1 hown hK hP hD hS 0 rfl rfl 5 (by decide) (hts _ (List.mem_cons_of_mem _ fl_RX1_29)) (fun _ h9 => h9) rfl hin rfl (tyX1_ok 5 (by decide)) rfl rfl (Nat.le_of_ble_eq_true rfl) dX1_init_58 (fun H locs hP hD hS => ?_)
  have hP : va_P D vwCl ([(h0, .inr (1, [.ref q8, .ref q17, .ref q26, .ref q35, .ref q43, .ref q54, .int 0, .int 0, .int 0])), (q8, .inl (cy 0, 240, .inl (fun _ => 0))), (q17, .inl (cy 0, 240, .inl (fun _ => 0))), (q26, .inl (cy 0, 241, .inl (fun _ => 0))), (q35, .inl (cy 0, 241, .inl (fun _ => 0))), (q43, .inl (cy 0, 13, .inl (fun _ => 0)))] ++ (wP cy q54 r54 (fun _ => 0, fun _ _ => 0)) : va_W) H := hP
  have hD : va_D A ([(h0, .inr (1, [.ref q8, .ref q17, .ref q26, .ref q35, .ref q43, .ref q54, .int 0, .int 0, .int 0])), (q8, .inl (cy 0, 240, .inl (fun _ => 0))), (q17, .inl (cy 0, 240, .inl (fun _ => 0))), (q26, .inl (cy 0, 241, .inl (fun _ => 0))), (q35, .inl (cy 0, 241, .inl (fun _ => 0))), (q43, .inl (cy 0, 13, .inl (fun _ => 0)))] ++ (wP cy q54 r54 (fun _ => 0, fun _ _ => 0)) : va_W) := hD
  have hP : va_P D vwCl ((fun x : (Nat → Nat) × Nat × (Nat → Nat) => ((w1 cy h0 x.2.1 x.1 s0i) ++ (wP cy x.2.1 x.2.2 s0i))) ((fun k => ([q8, q17, q26, q35, q43] : List Nat).getD k 0), q54, r54)) H := hP
  have hD : va_D A ((fun x : (Nat → Nat) × Nat × (Nat → Nat) => ((w1 cy h0 x.2.1 x.1 s0i) ++ (wP cy x.2.1 x.2.2 s0i))) ((fun k => ([q8, q17, q26, q35, q43] : List Nat).getD k 0), q54, r54)) := hD
  exact g_xret ((fun k => ([q8, q17, q26, q35, q43] : List Nat).getD k 0), q54, r54) hx hb hr hlk hK hP hD hS (Nat.le_of_ble_eq_true rfl) (Nat.le_of_ble_eq_true rfl) dX1_init_61
theorem hdX7_init : yX7_init.cls ≠ "java/lang/invoke/MethodHandle" ∧ yX7_init.cls ≠ "java/lang/invoke/VarHandle" ∧ (parseMethodDescriptor yX7_init.desc).map (fun d => d.parameters.length) = some 1 := by decide +kernel
set_option maxHeartbeats 4000000 in
set_option maxRecDepth 100000 in
theorem c_X7_init (l : Launch) (D : va_G) (cy : Nat → ClassId) (h0 : Nat) (g : Nat) (sz : Nat) : Met l yX7_init (WS yX7_init cX7_init 2 none) ({ frames := 1, cells := 1, slots := 12, locals := 12 } : Room) (va_Pc [.ref h0, .ref g] (gPM D cy sz [(h0, .inr (7, [.null, .int 0, .int 0, .int 0, .int 0, .int 0, .null]))])) (gQx D cy (va_A [(h0, .inr (7, [.null, .int 0, .int 0, .int 0, .int 0, .int 0, .null]))] sz) (fun x : Nat => (w7 cy h0 g (fun _ => x) s0i))) 1 12 (va_A [(h0, .inr (7, [.null, .int 0, .int 0, .int 0, .int 0, .int 0, .null]))] sz) := by
  refine g_metM (cc := cX7_init) (maxL := 2) (fun A : Nat → Prop => gQx D cy A (fun x : Nat => (w7 cy h0 g (fun _ => x) s0i))) (by decide +kernel) rfl (Nat.le_of_ble_eq_true rfl) ?_
  intro p e s m below meth c A C hin hA hM hK hP hD ls hl
  obtain ⟨hx, hb, hr, hml, hown, hts, hlk⟩ := id C
  have hown : s.vm.findClass RX7 = some m.cls := hown
  have hin : meth.name = "<init>" := hin
  have hS : va_S A s.heap s.heap [] := va_S.rf
  have hl : lv_has ls 2 [(0, .ref h0), (1, .ref g)] := hl
  refine lv_aload_n hx hb dX7_init_0 rfl (lv_at hl 0 rfl) ?_
  refine W.objInit hx hb hown (hts _ (List.mem_cons_of_mem _ oi_RX7)) (hts _ (List.mem_cons_of_mem _ im_oi)) (hts _ (List.mem_cons_of_mem _ cd_oi)) rfl (by rw [hml]; exact hl.1) rfl dX7_init_1 (Nat.le_of_ble_eq_true rfl) (Nat.le_of_ble_eq_true rfl) ?_
  refine W.eq (g2 := F0 m 4 ls []) rfl ?_
  refine lv_aload_n hx hb dX7_init_4 rfl (lv_at hl 0 rfl) ?_
  refine lv_bipush (v := 12) hx hb dX7_init_5 (by decide) ?_
  refine g_newI (N := 12) hx hb (hts _ (List.mem_cons_of_mem _ ac_int)) hK hP hD hS hA (by decide) (by decide) (by decide) (Nat.le_of_ble_eq_true rfl) (Nat.le_of_ble_eq_true rfl) dX7_init_7 (fun q7 H hP hD hS => ?_)
  have hP : va_P D vwCl ([(h0, .inr (7, [.null, .int 0, .int 0, .int 0, .int 0, .int 0, .null])), (q7, .inl (cy 0, 12, .inl (fun _ => 0)))] : va_W) H := hP
  have hD : va_D A ([(h0, .inr (7, [.null, .int 0, .int 0, .int 0, .int 0, .int 0, .null])), (q7, .inl (cy 0, 12, .inl (fun _ => 0)))] : va_W) := hD
  refine va_putF (ci := 7) (v := .ref q7) (ty := tyX7 6) (C := RX7) (T := TX7) (N := 7) hx hb hts (fun w h => List.mem_cons_of_mem _ (inX7 w h)) tyX7 tyX7_ok nmX7 hown hK hP hD hS 0 rfl rfl 6 (by decide) (hts _ (List.mem_cons_of_mem _ fl_RX7_9)) (fun _ h9 => h9) rfl hin rfl (tyX7_ok 6 (by decide)) rfl rfl (Nat.le_of_ble_eq_true rfl) dX7_init_9 (fun H locs hP hD hS => ?_)
  have hP : va_P D vwCl ([(h0, .inr (7, [.null, .int 0, .int 0, .int 0, .int 0, .int 0, .ref q7])), (q7, .inl (cy 0, 12, .inl (fun _ => 0)))] : va_W) H := hP
  have hD : va_D A ([(h0, .inr (7, [.null, .int 0, .int 0, .int 0, .int 0, .int 0, .ref q7])), (q7, .inl (cy 0, 12, .inl (fun _ => 0)))] : va_W) := hD
  refine lv_aload_n hx hb dX7_init_12 rfl (lv_at hl 0 rfl) ?_
  refine lv_aload_n hx hb dX7_init_13 rfl (lv_at hl 1 rfl) ?_
  refine va_put (ci := 7) (v := .ref g) (ty := tyX7 0) (C := RX7) (T := TX7) (N := 7) hx hb hts (fun w h => List.mem_cons_of_mem _ (inX7 w h)) tyX7 tyX7_ok nmX7 hown hK hP hD hS 0 rfl rfl 0 (by decide) (hts _ (List.mem_cons_of_mem _ fl_RX7_15)) (fun _ h9 => h9) rfl (tyX7_ok 0 (by decide)) rfl rfl (Nat.le_of_ble_eq_true rfl) dX7_init_14 (fun H locs hP hD hS => ?_)
  have hP : va_P D vwCl ([(h0, .inr (7, [.ref g, .int 0, .int 0, .int 0, .int 0, .int 0, .ref q7])), (q7, .inl (cy 0, 12, .inl (fun _ => 0)))] : va_W) H := hP
  have hD : va_D A ([(h0, .inr (7, [.ref g, .int 0, .int 0, .int 0, .int 0, .int 0, .ref q7])), (q7, .inl (cy 0, 12, .inl (fun _ => 0)))] : va_W) := hD
  have hP : va_P D vwCl ((fun x : Nat => (w7 cy h0 g (fun _ => x) s0i)) q7) H := hP
  have hD : va_D A ((fun x : Nat => (w7 cy h0 g (fun _ => x) s0i)) q7) := hD
  exact g_xret q7 hx hb hr hlk hK hP hD hS (Nat.le_of_ble_eq_true rfl) (Nat.le_of_ble_eq_true rfl) dX7_init_17
theorem hdX2_init : yX2_init.cls ≠ "java/lang/invoke/MethodHandle" ∧ yX2_init.cls ≠ "java/lang/invoke/VarHandle" ∧ (parseMethodDescriptor yX2_init.desc).map (fun d => d.parameters.length) = some 1 := by decide +kernel
set_option maxHeartbeats 4000000 in
set_option maxRecDepth 100000 in
theorem c_X2_init (l : Launch) (D : va_G) (cy : Nat → ClassId) (h0 : Nat) (r : Nat) (sz : Nat) : Met l yX2_init (WS yX2_init cX2_init 2 none) ({ frames := 1, cells := 1, slots := 8, locals := 12 } : Room) (va_Pc [.ref h0, .ref r] (gPM D cy sz [(h0, .inr (2, [.int 0, .int 0, .int 0, .int 0, .null, .null]))])) (gQx D cy (va_A [(h0, .inr (2, [.int 0, .int 0, .int 0, .int 0, .null, .null]))] sz) (fun x : Nat → Nat => (w2 cy h0 r x s2i))) 1 8 (va_A [(h0, .inr (2, [.int 0, .int 0, .int 0, .int 0, .null, .null]))] sz) := by
  refine g_metM (cc := cX2_init) (maxL := 2) (fun A : Nat → Prop => gQx D cy A (fun x : Nat → Nat => (w2 cy h0 r x s2i))) (by decide +kernel) rfl (Nat.le_of_ble_eq_true rfl) ?_
  intro p e s m below meth c A C hin hA hM hK hP hD ls hl
  obtain ⟨hx, hb, hr, hml, hown, hts, hlk⟩ := id C
  have hown : s.vm.findClass RX2 = some m.cls := hown
  have hin : meth.name = "<init>" := hin
  have hS : va_S A s.heap s.heap [] := va_S.rf
  have hl : lv_has ls 2 [(0, .ref h0), (1, .ref r)] := hl
  refine lv_aload_n hx hb dX2_init_0 rfl (lv_at hl 0 rfl) ?_
  refine W.objInit hx hb hown (hts _ (List.mem_cons_of_mem _ oi_RX2)) (hts _ (List.mem_cons_of_mem _ im_oi)) (hts _ (List.mem_cons_of_mem _ cd_oi)) rfl (by rw [hml]; exact hl.1) rfl dX2_init_1 (Nat.le_of_ble_eq_true rfl) (Nat.le_of_ble_eq_true rfl) ?_
  refine W.eq (g2 := F0 m 4 ls []) rfl ?_
  refine lv_aload_n hx hb dX2_init_4 rfl (lv_at hl 0 rfl) ?_
  refine lv_iconst (v := 1) hx hb dX2_init_5 (by decide) ?_
  refine va_put (ci := 2) (v := .int 1) (ty := tyX2 1) (C := RX2) (T := TX2) (N := 6) hx hb hts (fun w h => List.mem_cons_of_mem _ (inX2 w h)) tyX2 tyX2_ok nmX2 hown hK hP hD hS 0 rfl rfl 1 (by decide) (hts _ (List.mem_cons_of_mem _ fl_RX2_9)) (fun _ h9 => h9) rfl (tyX2_ok 1 (by decide)) (by decide +kernel) (by decide +kernel) (Nat.le_of_ble_eq_true rfl) dX2_init_6 (fun H locs hP hD hS => ?_)
  have hP : va_P D vwCl ([(h0, .inr (2, [.int 0, .int 1, .int 0, .int 0, .null, .null]))] : va_W) H := hP
  have hD : va_D A ([(h0, .inr (2, [.int 0, .int 1, .int 0, .int 0, .null, .null]))] : va_W) := hD
  refine lv_aload_n hx hb dX2_init_9 rfl (lv_at hl 0 rfl) ?_
  refine lv_iconst (v := (-1)) hx hb dX2_init_10 (by decide) ?_
  refine va_put (ci := 2) (v := .int (-1)) (ty := tyX2 3) (C := RX2) (T := TX2) (N := 6) hx hb hts (fun w h => List.mem_cons_of_mem _ (inX2 w h)) tyX2 tyX2_ok nmX2 hown hK hP hD hS 0 rfl rfl 3 (by decide) (hts _ (List.mem_cons_of_mem _ fl_RX2_15)) (fun _ h9 => h9) rfl (tyX2_ok 3 (by decide)) rfl rfl (Nat.le_of_ble_eq_true rfl) dX2_init_11 (fun H locs hP hD hS => ?_)
  have hP : va_P D vwCl ([(h0, .inr (2, [.int 0, .int 1, .int 0, .int (-1), .null, .null]))] : va_W) H := hP
  have hD : va_D A ([(h0, .inr (2, [.int 0, .int 1, .int 0, .int (-1), .null, .null]))] : va_W) := hD
  refine lv_aload_n hx hb dX2_init_14 rfl (lv_at hl 0 rfl) ?_
  refine lv_bipush (v := 8) hx hb dX2_init_15 (by decide) ?_
  refine g_newZ (N := 8) hx hb (hts _ (List.mem_cons_of_mem _ ac_boolean)) hK hP hD hS hA (by decide) (by decide) (by decide) (Nat.le_of_ble_eq_true rfl) (Nat.le_of_ble_eq_true rfl) dX2_init_17 (fun q17 H hP hD hS => ?_)
  have hP : va_P D vwCl ([(h0, .inr (2, [.int 0, .int 1, .int 0, .int (-1), .null, .null])), (q17, .inl (cy 2, 8, .inl (fun _ => 0)))] : va_W) H := hP
  have hD : va_D A ([(h0, .inr (2, [.int 0, .int 1, .int 0, .int (-1), .null, .null])), (q17, .inl (cy 2, 8, .inl (fun _ => 0)))] : va_W) := hD
  refine va_putF (ci := 2) (v := .ref q17) (ty := tyX2 4) (C := RX2) (T := TX2) (N := 6) hx hb hts (fun w h => List.mem_cons_of_mem _ (inX2 w h)) tyX2 tyX2_ok nmX2 hown hK hP hD hS 0 rfl rfl 4 (by decide) (hts _ (List.mem_cons_of_mem _ fl_RX2_19)) (fun _ h9 => h9) rfl hin rfl (tyX2_ok 4 (by decide)) rfl rfl (Nat.le_of_ble_eq_true rfl) dX2_init_19 (fun H locs hP hD hS => ?_)
  have hP : va_P D vwCl ([(h0, .inr (2, [.int 0, .int 1, .int 0, .int (-1), .ref q17, .null])), (q17, .inl (cy 2, 8, .inl (fun _ => 0)))] : va_W) H := hP
  have hD : va_D A ([(h0, .inr (2, [.int 0, .int 1, .int 0, .int (-1), .ref q17, .null])), (q17, .inl (cy 2, 8, .inl (fun _ => 0)))] : va_W) := hD
  refine lv_aload_n hx hb dX2_init_22 rfl (lv_at hl 0 rfl) ?_
  refine lv_aload_n hx hb dX2_init_23 rfl (lv_at hl 1 rfl) ?_
  refine va_put (ci := 2) (v := .ref r) (ty := tyX2 5) (C := RX2) (T := TX2) (N := 6) hx hb hts (fun w h => List.mem_cons_of_mem _ (inX2 w h)) tyX2 tyX2_ok nmX2 hown hK hP hD hS 0 rfl rfl 5 (by decide) (hts _ (List.mem_cons_of_mem _ fl_RX2_23)) (fun _ h9 => h9) rfl (tyX2_ok 5 (by decide)) rfl rfl (Nat.le_of_ble_eq_true rfl) dX2_init_24 (fun H locs hP hD hS => ?_)
  have hP : va_P D vwCl ([(h0, .inr (2, [.int 0, .int 1, .int 0, .int (-1), .ref q17, .ref r])), (q17, .inl (cy 2, 8, .inl (fun _ => 0)))] : va_W) H := hP
  have hD : va_D A ([(h0, .inr (2, [.int 0, .int 1, .int 0, .int (-1), .ref q17, .ref r])), (q17, .inl (cy 2, 8, .inl (fun _ => 0)))] : va_W) := hD
  have hP : va_P D vwCl ((fun x : Nat → Nat => (w2 cy h0 r x s2i)) (fun k => ([0, 0, 0, 0, q17] : List Nat).getD k 0)) H := hP
  have hD : va_D A ((fun x : Nat → Nat => (w2 cy h0 r x s2i)) (fun k => ([0, 0, 0, 0, q17] : List Nat).getD k 0)) := hD
  exact g_xret (fun k => ([0, 0, 0, 0, q17] : List Nat).getD k 0) hx hb hr hlk hK hP hD hS (Nat.le_of_ble_eq_true rfl) (Nat.le_of_ble_eq_true rfl) dX2_init_27
