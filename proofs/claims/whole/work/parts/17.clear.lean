def f_J7_fill_53178_L5  (fu : Nat) (n0 : Nat) : Nat → (Nat → Int32) → Int32 → Int32 → Int32 → Option ((Nat → Int32))
  | 0, _, _, _, _ => none
  | n_5 + 1, u0, x1, x2, x3 => if x3 ≤ x2 then (some u0) else (if inb x2 n0 = true then (f_J7_fill_53178_L5 fu n0 n_5 (upd u0 x2.toNatClampNeg x1) x1 (x2 + 1) x3) else none)
set_option maxHeartbeats 4000000 in
set_option maxRecDepth 100000 in
theorem b_J7_fill_53178_L5 {p : Program} {e : Env} {s : State} {m : MethodId} {args : Array Value} {below : List Frame} {meth : Method} {c : Code} {A : Nat → Prop} (l : Launch) (D : va_G) (cy : Nat → ClassId) (h0 : Nat) (n0 : Nat) (fu : Nat) (out : (Nat → Int32)) (C : gC p s m args meth c (WS yJ7_fill_53178 cJ7_fill_53178 4 none) cJ7_fill_53178 4 none RJ7) (hA : ∀ q : Nat, s.heap.size ≤ q → A q) (hK : va_K D vwCl (TY cy) s)  :
    ∀ (n_5 : Nat), ∀ (u0 : (Nat → Int32)) (x1 : Int32) (x2 : Int32) (x3 : Int32), f_J7_fill_53178_L5 fu n0 n_5 u0 x1 x2 x3 = some out → ∀ (H : Heap) (locs : List Loc) (ls : Array Slot), va_P D vwCl (wA cy h0 n0 u0) H → va_D A (wA cy h0 n0 u0) → va_S A s.heap H locs → lv_has ls 4 [(0, .ref h0), (1, .int x1), (2, .int x2), (3, .int x3)] → W p l e ({ frames := 0, cells := 0, slots := 0, locals := 0 } : Room) s m args below meth c H locs 0 0 (MQ below (gQv D cy A (wA cy h0 n0 out)) args s 0 0 A) (F0 m 5 ls []) := by
  obtain ⟨hx, hb, hr, hml, hown, hts, hlk⟩ := id C
  have hown : s.vm.findClass RJ7 = some m.cls := hown
  intro n_5
  induction n_5 with
  | zero => intro u0 x1 x2 x3 hf; exact op_no hf
  | succ n_5 ih_5 =>
    intro u0 x1 x2 x3 hf H locs ls hP hD hS hl
    rw [f_J7_fill_53178_L5] at hf
    refine lv_iload_n hx hb dJ7_fill_53178_5 rfl (lv_at hl 2 rfl) ?_
    refine lv_iload_n hx hb dJ7_fill_53178_6 rfl (lv_at hl 3 rfl) ?_
    refine lv_icmp_ge (tgt := 20) hx hb dJ7_fill_53178_7 (by decide) (fun c_7 => ?_) (fun c_7 => ?_)
    · have hf := op_pos c_7 hf
      rw [← Option.some.inj hf]
      exact g_vret hx hb hr hlk hK hP hD hS dJ7_fill_53178_20
    · have hf := op_neg c_7 hf
      refine lv_aload_n hx hb dJ7_fill_53178_10 rfl (lv_at hl 0 rfl) ?_
      refine lv_iload_n hx hb dJ7_fill_53178_11 rfl (lv_at hl 2 rfl) ?_
      refine lv_iload_n hx hb dJ7_fill_53178_12 rfl (lv_at hl 1 rfl) ?_
      obtain ⟨hg_13, hf⟩ := op_if hf
      refine va_iast (f := u0) (x := x1) hx hb hK hP hD hS 0 0 rfl rfl (inb_in hg_13) dJ7_fill_53178_13 (fun H locs hP hD hS => ?_)
      have hP : va_P D vwCl (wA cy h0 n0 (upd u0 x2.toNatClampNeg x1)) H := hP
      have hD : va_D A (wA cy h0 n0 (upd u0 x2.toNatClampNeg x1)) := hD
      refine lv_iinc (v := x2 + 1) (lv' := [(2, .int (x2 + 1)), (0, .ref h0), (1, .int x1), (3, .int x3)]) hx hb dJ7_fill_53178_14 hl (k := 2) rfl rfl (by decide) rfl (fun ls hl => ?_)
      refine lv_goto (tgt := 5) hx hb dJ7_fill_53178_17 (by decide) ?_
      exact ih_5 (upd u0 x2.toNatClampNeg x1) x1 (x2 + 1) x3 hf _ _ ls hP hD hS (lv_sub hl [1, 2, 0, 3] rfl)
def f_J7_fill_53178 (fu : Nat) (n0 : Nat) (b0 : Nat → Int32) (p1 : Int32) : Option ((Nat → Int32)) := f_J7_fill_53178_L5 fu n0 fu b0 p1 0 (nI n0)
theorem hdJ7_fill_53178 : yJ7_fill_53178.cls ≠ "java/lang/invoke/MethodHandle" ∧ yJ7_fill_53178.cls ≠ "java/lang/invoke/VarHandle" ∧ (parseMethodDescriptor yJ7_fill_53178.desc).map (fun d => d.parameters.length) = some 2 := by decide +kernel
set_option maxHeartbeats 4000000 in
set_option maxRecDepth 100000 in
theorem c_J7_fill_53178 (l : Launch) (D : va_G) (cy : Nat → ClassId) (h0 : Nat) (n0 : Nat) (b0 : Nat → Int32) (sz fu : Nat) (p1 : Int32) (out : (Nat → Int32)) (hf : f_J7_fill_53178 fu n0 b0 p1 = some out) :
    Met l yJ7_fill_53178 (WS yJ7_fill_53178 cJ7_fill_53178 4 none) ({ frames := 0, cells := 0, slots := 0, locals := 0 } : Room) (va_Pc [.ref h0, .int p1] (gP D cy sz (wA cy h0 n0 b0))) ((fun A : Nat → Prop => gQv D cy A (wA cy h0 n0 out)) (va_A (wA cy h0 n0 b0) sz)) 0 0 (va_A (wA cy h0 n0 b0) sz) := by
  refine g_met (cc := cJ7_fill_53178) (maxL := 4) (ret := none) (fun A : Nat → Prop => gQv D cy A (wA cy h0 n0 out)) (by decide +kernel) rfl (Nat.le_of_ble_eq_true rfl) ?_
  intro p e s m below meth c A C hA hK hP hD ls hl
  obtain ⟨hx, hb, hr, hml, hown, hts, hlk⟩ := id C
  have hown : s.vm.findClass RJ7 = some m.cls := hown
  have hS : va_S A s.heap s.heap [] := va_S.rf
  have hl : lv_has ls 4 [(0, .ref h0), (1, .int p1)] := hl
  unfold f_J7_fill_53178 at hf
  refine lv_iconst (v := 0) hx hb dJ7_fill_53178_0 (by decide) ?_
  refine lv_istore_n (lv' := [(2, .int 0), (0, .ref h0), (1, .int p1)]) hx hb dJ7_fill_53178_1 rfl hl (by decide) rfl (fun ls hl => ?_)
  refine lv_aload_n hx hb dJ7_fill_53178_2 rfl (lv_at hl 1 rfl) ?_
  refine va_alen (v := nI n0) hx hb hK hP 0 0 rfl rfl rfl dJ7_fill_53178_3 ?_
  refine lv_istore_n (lv' := [(3, .int (nI n0)), (2, .int 0), (0, .ref h0), (1, .int p1)]) hx hb dJ7_fill_53178_4 rfl hl (by decide) rfl (fun ls hl => ?_)
  exact b_J7_fill_53178_L5 l D cy h0 n0 fu out C hA hK fu b0 p1 0 (nI n0) hf _ _ ls hP hD hS (lv_sub hl [2, 3, 1, 0] rfl)
def f_X5_clear (fu : Nat)  (s0 : St)  : Option (St) := (f_J7_fill_53178 fu 4 (s0.2 5) 0).bind (fun q_30 => (f_J7_fill_53178 fu 4 (s0.2 6) 0).bind (fun q_38 => (f_J7_fill_53178 fu 8 (s0.2 7) 0).bind (fun q_46 => (f_J7_fill_53178 fu 8 (s0.2 8) 0).bind (fun q_54 => some (sR (sR (sR (sR (sF (sF (sF (sF (sF s0 0 1) 1 0) 2 0) 3 0) 4 0) 5 q_30) 6 q_38) 7 q_46) 8 q_54)))))
theorem hdX5_clear : yX5_clear.cls = RX5 ∧ yX5_clear.cls ≠ "java/lang/invoke/MethodHandle" ∧ yX5_clear.cls ≠ "java/lang/invoke/VarHandle" ∧ (parseMethodDescriptor yX5_clear.desc).map (fun d => d.parameters.length) = some 0 := by decide +kernel
set_option maxHeartbeats 4000000 in
set_option maxRecDepth 100000 in
theorem c_X5_clear (l : Launch) (D : va_G) (cy : Nat → ClassId) (h0 : Nat) (a0 : Nat → Nat) (s0 : St) (sz fu : Nat)  (out : St) (hf : f_X5_clear fu s0 = some out) :
    Met l yX5_clear (WS yX5_clear cX5_clear 1 none) ({ frames := 1, cells := 0, slots := 0, locals := 23 } : Room) (va_Pc [.ref h0] (gP D cy sz (w5 cy h0 a0 s0))) ((fun A : Nat → Prop => gQv D cy A (w5 cy h0 a0 out)) (va_A (w5 cy h0 a0 s0) sz)) 0 0 (va_A (w5 cy h0 a0 s0) sz) := by
  refine g_met (cc := cX5_clear) (maxL := 1) (ret := none) (fun A : Nat → Prop => gQv D cy A (w5 cy h0 a0 out)) (by decide +kernel) rfl (Nat.le_of_ble_eq_true rfl) ?_
  intro p e s m below meth c A C hA hK hP hD ls hl
  obtain ⟨hx, hb, hr, hml, hown, hts, hlk⟩ := id C
  have hown : s.vm.findClass RX5 = some m.cls := hown
  have hS : va_S A s.heap s.heap [] := va_S.rf
  have hl : lv_has ls 1 [(0, .ref h0)] := hl
  have hk_9 := hts _ (List.mem_cons_of_mem _ fl_RX5_9)
  have hk_40 := hts _ (List.mem_cons_of_mem _ fl_RX5_40)
  have hk_43 := hts _ (List.mem_cons_of_mem _ fl_RX5_43)
  have hk_46 := hts _ (List.mem_cons_of_mem _ fl_RX5_46)
  have hk_49 := hts _ (List.mem_cons_of_mem _ fl_RX5_49)
  have hk_15 := hts _ (List.mem_cons_of_mem _ fl_RX5_15)
  have hk_19 := hts _ (List.mem_cons_of_mem _ fl_RX5_19)
  have hk_22 := hts _ (List.mem_cons_of_mem _ fl_RX5_22)
  have hk_25 := hts _ (List.mem_cons_of_mem _ fl_RX5_25)
  unfold f_X5_clear at hf
  refine lv_aload_n hx hb dX5_clear_0 rfl (lv_at hl 0 rfl) ?_
  refine lv_iconst (v := 1) hx hb dX5_clear_1 (by decide) ?_
  refine va_put (ci := 5) (v := .int 1) (ty := tyX5 0) (C := RX5) (T := TX5) (N := 13) hx hb hts (fun w h => List.mem_cons_of_mem _ (inX5 w h)) tyX5 tyX5_ok nmX5 hown hK hP hD hS 0 rfl rfl 0 (by decide) hk_9 (fun _ h9 => h9) rfl (tyX5_ok 0 (by decide)) rfl rfl (Nat.le_of_ble_eq_true rfl) dX5_clear_2 (fun H locs hP hD hS => ?_)
  have hP : va_P D vwCl (w5 cy h0 a0 (sF s0 0 1)) H := pP5_0 hP
  have hD : va_D A (w5 cy h0 a0 (sF s0 0 1)) := pD5_0 hD
  refine lv_aload_n hx hb dX5_clear_5 rfl (lv_at hl 0 rfl) ?_
  refine lv_iconst (v := 0) hx hb dX5_clear_6 (by decide) ?_
  refine va_put (ci := 5) (v := .int 0) (ty := tyX5 1) (C := RX5) (T := TX5) (N := 13) hx hb hts (fun w h => List.mem_cons_of_mem _ (inX5 w h)) tyX5 tyX5_ok nmX5 hown hK hP hD hS 0 rfl rfl 1 (by decide) hk_40 (fun _ h9 => h9) rfl (tyX5_ok 1 (by decide)) rfl rfl (Nat.le_of_ble_eq_true rfl) dX5_clear_7 (fun H locs hP hD hS => ?_)
  have hP : va_P D vwCl (w5 cy h0 a0 (sF (sF s0 0 1) 1 0)) H := pP5_1 hP
  have hD : va_D A (w5 cy h0 a0 (sF (sF s0 0 1) 1 0)) := pD5_1 hD
  refine lv_aload_n hx hb dX5_clear_10 rfl (lv_at hl 0 rfl) ?_
  refine lv_iconst (v := 0) hx hb dX5_clear_11 (by decide) ?_
  refine va_put (ci := 5) (v := .int 0) (ty := tyX5 2) (C := RX5) (T := TX5) (N := 13) hx hb hts (fun w h => List.mem_cons_of_mem _ (inX5 w h)) tyX5 tyX5_ok nmX5 hown hK hP hD hS 0 rfl rfl 2 (by decide) hk_43 (fun _ h9 => h9) rfl (tyX5_ok 2 (by decide)) rfl rfl (Nat.le_of_ble_eq_true rfl) dX5_clear_12 (fun H locs hP hD hS => ?_)
  have hP : va_P D vwCl (w5 cy h0 a0 (sF (sF (sF s0 0 1) 1 0) 2 0)) H := pP5_2 hP
  have hD : va_D A (w5 cy h0 a0 (sF (sF (sF s0 0 1) 1 0) 2 0)) := pD5_2 hD
  refine lv_aload_n hx hb dX5_clear_15 rfl (lv_at hl 0 rfl) ?_
  refine lv_iconst (v := 0) hx hb dX5_clear_16 (by decide) ?_
  refine va_put (ci := 5) (v := .int 0) (ty := tyX5 3) (C := RX5) (T := TX5) (N := 13) hx hb hts (fun w h => List.mem_cons_of_mem _ (inX5 w h)) tyX5 tyX5_ok nmX5 hown hK hP hD hS 0 rfl rfl 3 (by decide) hk_46 (fun _ h9 => h9) rfl (tyX5_ok 3 (by decide)) rfl rfl (Nat.le_of_ble_eq_true rfl) dX5_clear_17 (fun H locs hP hD hS => ?_)
  have hP : va_P D vwCl (w5 cy h0 a0 (sF (sF (sF (sF s0 0 1) 1 0) 2 0) 3 0)) H := pP5_3 hP
  have hD : va_D A (w5 cy h0 a0 (sF (sF (sF (sF s0 0 1) 1 0) 2 0) 3 0)) := pD5_3 hD
  refine lv_aload_n hx hb dX5_clear_20 rfl (lv_at hl 0 rfl) ?_
  refine lv_iconst (v := 0) hx hb dX5_clear_21 (by decide) ?_
  refine va_put (ci := 5) (v := .int 0) (ty := tyX5 4) (C := RX5) (T := TX5) (N := 13) hx hb hts (fun w h => List.mem_cons_of_mem _ (inX5 w h)) tyX5 tyX5_ok nmX5 hown hK hP hD hS 0 rfl rfl 4 (by decide) hk_49 (fun _ h9 => h9) rfl (tyX5_ok 4 (by decide)) rfl rfl (Nat.le_of_ble_eq_true rfl) dX5_clear_22 (fun H locs hP hD hS => ?_)
  have hP : va_P D vwCl (w5 cy h0 a0 (sF (sF (sF (sF (sF s0 0 1) 1 0) 2 0) 3 0) 4 0)) H := pP5_4 hP
  have hD : va_D A (w5 cy h0 a0 (sF (sF (sF (sF (sF s0 0 1) 1 0) 2 0) 3 0) 4 0)) := pD5_4 hD
  refine lv_aload_n hx hb dX5_clear_25 rfl (lv_at hl 0 rfl) ?_
  refine va_get (ci := 5) (v := .ref (a0 5)) (C := RX5) (T := TX5) (N := 13) hx hb hts (fun w h => List.mem_cons_of_mem _ (inX5 w h)) hown hK hP 0 rfl rfl 5 (by decide) hk_15 (fun _ h9 => h9) rfl dX5_clear_26 ?_
  refine lv_iconst (v := 0) hx hb dX5_clear_29 (by decide) ?_
  obtain ⟨q_30, hc_30, hf⟩ := op_bind hf
  refine g_callSv (As := [.ref (a0 5), .int 0]) (rest := []) (w2 := w5 cy h0 a0 (sR (sF (sF (sF (sF (sF s0 0 1) 1 0) 2 0) 3 0) 4 0) 5 q_30)) ⟨hx, hb, hml, hown, hts⟩ (c_J7_fill_53178 l D cy (a0 5) 4 (s0.2 5) _ fu 0 _ hc_30) (va_cwS 2 hts (gi_S ml_RX5_52 sm_J7_fill_53178 in_RJ7 cd_J7_fill_53178) rfl rfl rfl hdJ7_fill_53178 ⟨Nat.le_of_ble_eq_true rfl, Nat.le_of_ble_eq_true rfl⟩) rfl hl.1 rfl (Nat.le_of_ble_eq_true rfl) dX5_clear_30 hK hP hD hS hA [1] [0, 2, 3, 4, 5, 6, 7, 8] [0, 8, 1, 2, 3, 4, 5, 6, 7] rfl rfl rfl rfl (by decide) rfl rfl (fun H locs hP hD hS => ?_)
  refine lv_aload_n hx hb dX5_clear_33 rfl (lv_at hl 0 rfl) ?_
  refine va_get (ci := 5) (v := .ref (a0 6)) (C := RX5) (T := TX5) (N := 13) hx hb hts (fun w h => List.mem_cons_of_mem _ (inX5 w h)) hown hK hP 0 rfl rfl 6 (by decide) hk_19 (fun _ h9 => h9) rfl dX5_clear_34 ?_
  refine lv_iconst (v := 0) hx hb dX5_clear_37 (by decide) ?_
  obtain ⟨q_38, hc_38, hf⟩ := op_bind hf
  refine g_callSv (As := [.ref (a0 6), .int 0]) (rest := []) (w2 := w5 cy h0 a0 (sR (sR (sF (sF (sF (sF (sF s0 0 1) 1 0) 2 0) 3 0) 4 0) 5 q_30) 6 q_38)) ⟨hx, hb, hml, hown, hts⟩ (c_J7_fill_53178 l D cy (a0 6) 4 (s0.2 6) _ fu 0 _ hc_38) (va_cwS 2 hts (gi_S ml_RX5_52 sm_J7_fill_53178 in_RJ7 cd_J7_fill_53178) rfl rfl rfl hdJ7_fill_53178 ⟨Nat.le_of_ble_eq_true rfl, Nat.le_of_ble_eq_true rfl⟩) rfl hl.1 rfl (Nat.le_of_ble_eq_true rfl) dX5_clear_38 hK hP hD hS hA [2] [0, 1, 3, 4, 5, 6, 7, 8] [0, 1, 8, 2, 3, 4, 5, 6, 7] rfl rfl rfl rfl (by decide) rfl rfl (fun H locs hP hD hS => ?_)
  refine lv_aload_n hx hb dX5_clear_41 rfl (lv_at hl 0 rfl) ?_
  refine va_get (ci := 5) (v := .ref (a0 7)) (C := RX5) (T := TX5) (N := 13) hx hb hts (fun w h => List.mem_cons_of_mem _ (inX5 w h)) hown hK hP 0 rfl rfl 7 (by decide) hk_22 (fun _ h9 => h9) rfl dX5_clear_42 ?_
  refine lv_iconst (v := 0) hx hb dX5_clear_45 (by decide) ?_
  obtain ⟨q_46, hc_46, hf⟩ := op_bind hf
  refine g_callSv (As := [.ref (a0 7), .int 0]) (rest := []) (w2 := w5 cy h0 a0 (sR (sR (sR (sF (sF (sF (sF (sF s0 0 1) 1 0) 2 0) 3 0) 4 0) 5 q_30) 6 q_38) 7 q_46)) ⟨hx, hb, hml, hown, hts⟩ (c_J7_fill_53178 l D cy (a0 7) 8 (s0.2 7) _ fu 0 _ hc_46) (va_cwS 2 hts (gi_S ml_RX5_52 sm_J7_fill_53178 in_RJ7 cd_J7_fill_53178) rfl rfl rfl hdJ7_fill_53178 ⟨Nat.le_of_ble_eq_true rfl, Nat.le_of_ble_eq_true rfl⟩) rfl hl.1 rfl (Nat.le_of_ble_eq_true rfl) dX5_clear_46 hK hP hD hS hA [3] [0, 1, 2, 4, 5, 6, 7, 8] [0, 1, 2, 8, 3, 4, 5, 6, 7] rfl rfl rfl rfl (by decide) rfl rfl (fun H locs hP hD hS => ?_)
  refine lv_aload_n hx hb dX5_clear_49 rfl (lv_at hl 0 rfl) ?_
  refine va_get (ci := 5) (v := .ref (a0 8)) (C := RX5) (T := TX5) (N := 13) hx hb hts (fun w h => List.mem_cons_of_mem _ (inX5 w h)) hown hK hP 0 rfl rfl 8 (by decide) hk_25 (fun _ h9 => h9) rfl dX5_clear_50 ?_
  refine lv_iconst (v := 0) hx hb dX5_clear_53 (by decide) ?_
  obtain ⟨q_54, hc_54, hf⟩ := op_bind hf
  refine g_callSv (As := [.ref (a0 8), .int 0]) (rest := []) (w2 := w5 cy h0 a0 (sR (sR (sR (sR (sF (sF (sF (sF (sF s0 0 1) 1 0) 2 0) 3 0) 4 0) 5 q_30) 6 q_38) 7 q_46) 8 q_54)) ⟨hx, hb, hml, hown, hts⟩ (c_J7_fill_53178 l D cy (a0 8) 8 (s0.2 8) _ fu 0 _ hc_54) (va_cwS 2 hts (gi_S ml_RX5_52 sm_J7_fill_53178 in_RJ7 cd_J7_fill_53178) rfl rfl rfl hdJ7_fill_53178 ⟨Nat.le_of_ble_eq_true rfl, Nat.le_of_ble_eq_true rfl⟩) rfl hl.1 rfl (Nat.le_of_ble_eq_true rfl) dX5_clear_54 hK hP hD hS hA [4] [0, 1, 2, 3, 5, 6, 7, 8] [0, 1, 2, 3, 8, 4, 5, 6, 7] rfl rfl rfl rfl (by decide) rfl rfl (fun H locs hP hD hS => ?_)
  rw [← Option.some.inj hf]
  exact g_vret hx hb hr hlk hK hP hD hS dX5_clear_57
def f_X7_signAt (fu : Nat) (s0 : St) (n1 : Nat) (b1 : Nat → Int32)  (p1 : Int32) (p2 : Int32) (p3 : Int32) : Option (Int32) := if p1 < 0 then (some (-1)) else (if (s0.1 4) ≤ p1 then (some (-1)) else (if p2 < 0 then (some (-1)) else (if p2 < 2 then (if p3 < 0 then (some (-1)) else ((f_X7_rowLength fu s0 ((p1 * 2) + p2)).bind (fun q_38 => if p3 < q_38 then ((f_X7_rowBegin fu s0 ((p1 * 2) + p2)).bind (fun q_53 => if (((s0.1 1) + q_53) + p3) < 0 then (some (-1)) else (if (nI n1) ≤ (((s0.1 1) + q_53) + p3) then (some (-1)) else (if inb (((s0.1 1) + q_53) + p3) n1 = true then (some (b1 (((s0.1 1) + q_53) + p3).toNatClampNeg)) else none)))) else (some (-1))))) else (some (-1)))))
theorem hdX7_signAt : yX7_signAt.cls = RX7 ∧ yX7_signAt.cls ≠ "java/lang/invoke/MethodHandle" ∧ yX7_signAt.cls ≠ "java/lang/invoke/VarHandle" ∧ (parseMethodDescriptor yX7_signAt.desc).map (fun d => d.parameters.length) = some 3 := by decide +kernel
set_option maxHeartbeats 4000000 in
set_option maxRecDepth 100000 in
theorem c_X7_signAt (l : Launch) (D : va_G) (cy : Nat → ClassId) (h0 : Nat) (a0 : Nat → Nat) (s0 : St) (h1 : Nat) (n1 : Nat) (b1 : Nat → Int32) (sz fu : Nat) (p1 : Int32) (p2 : Int32) (p3 : Int32) (out : Int32) (hf : f_X7_signAt fu s0 n1 b1 p1 p2 p3 = some out) :
    Met l yX7_signAt (WS yX7_signAt cX7_signAt 6 (some .int)) ({ frames := 2, cells := 0, slots := 0, locals := 42 } : Room) (va_Pc [.ref h0, .int p1, .int p2, .int p3] (gP D cy sz ((w7 cy h0 h1 a0 s0) ++ (wV cy h1 n1 b1)))) ((fun A : Nat → Prop => gQi D cy A out ((w7 cy h0 h1 a0 s0) ++ (wV cy h1 n1 b1))) (va_A ((w7 cy h0 h1 a0 s0) ++ (wV cy h1 n1 b1)) sz)) 0 0 (va_A ((w7 cy h0 h1 a0 s0) ++ (wV cy h1 n1 b1)) sz) := by
  refine g_met (cc := cX7_signAt) (maxL := 6) (ret := (some .int)) (fun A : Nat → Prop => gQi D cy A out ((w7 cy h0 h1 a0 s0) ++ (wV cy h1 n1 b1))) (by decide +kernel) rfl (Nat.le_of_ble_eq_true rfl) ?_
  intro p e s m below meth c A C hA hK hP hD ls hl
  obtain ⟨hx, hb, hr, hml, hown, hts, hlk⟩ := id C
  have hown : s.vm.findClass RX7 = some m.cls := hown
  have hS : va_S A s.heap s.heap [] := va_S.rf
  have hl : lv_has ls 6 [(0, .ref h0), (1, .int p1), (2, .int p2), (3, .int p3)] := hl
  have hk_40 := hts _ (List.mem_cons_of_mem _ fl_RX7_40)
  have hk_19 := hts _ (List.mem_cons_of_mem _ fl_RX7_19)
  have hk_15 := hts _ (List.mem_cons_of_mem _ fl_RX7_15)
  unfold f_X7_signAt at hf
  refine lv_iload_n hx hb dX7_signAt_0 rfl (lv_at hl 1 rfl) ?_
  refine lv_if_lt (tgt := 21) hx hb dX7_signAt_1 (by decide) (fun c_1 => ?_) (fun c_1 => ?_)
  · have hf := op_pos c_1 hf
    refine lv_iconst (v := (-1)) hx hb dX7_signAt_21 (by decide) ?_
    rw [← Option.some.inj hf]
    exact g_iret hx hb hr hlk hK hP hD hS dX7_signAt_22
  · have hf := op_neg c_1 hf
    refine lv_iload_n hx hb dX7_signAt_4 rfl (lv_at hl 1 rfl) ?_
    refine lv_aload_n hx hb dX7_signAt_5 rfl (lv_at hl 0 rfl) ?_
    refine va_get (ci := 7) (v := .int (s0.1 4)) (C := RX7) (T := TX7) (N := 7) hx hb hts (fun w h => List.mem_cons_of_mem _ (inX7 w h)) hown hK hP 0 rfl rfl 4 (by decide) hk_40 (fun _ h9 => h9) rfl dX7_signAt_6 ?_
    refine lv_icmp_ge (tgt := 21) hx hb dX7_signAt_9 (by decide) (fun c_9 => ?_) (fun c_9 => ?_)
    · have hf := op_pos c_9 hf
      refine lv_iconst (v := (-1)) hx hb dX7_signAt_21 (by decide) ?_
      rw [← Option.some.inj hf]
      exact g_iret hx hb hr hlk hK hP hD hS dX7_signAt_22
    · have hf := op_neg c_9 hf
      refine lv_iload_n hx hb dX7_signAt_12 rfl (lv_at hl 2 rfl) ?_
      refine lv_if_lt (tgt := 21) hx hb dX7_signAt_13 (by decide) (fun c_13 => ?_) (fun c_13 => ?_)
      · have hf := op_pos c_13 hf
        refine lv_iconst (v := (-1)) hx hb dX7_signAt_21 (by decide) ?_
        rw [← Option.some.inj hf]
        exact g_iret hx hb hr hlk hK hP hD hS dX7_signAt_22
      · have hf := op_neg c_13 hf
        refine lv_iload_n hx hb dX7_signAt_16 rfl (lv_at hl 2 rfl) ?_
        refine lv_iconst (v := 2) hx hb dX7_signAt_17 (by decide) ?_
        refine lv_icmp_lt (tgt := 23) hx hb dX7_signAt_18 (by decide) (fun c_18 => ?_) (fun c_18 => ?_)
        · have hf := op_pos c_18 hf
          refine lv_iload_n hx hb dX7_signAt_23 rfl (lv_at hl 1 rfl) ?_
          refine lv_iconst (v := 2) hx hb dX7_signAt_24 (by decide) ?_
          refine lv_imul hx hb dX7_signAt_25 ?_
          refine lv_iload_n hx hb dX7_signAt_26 rfl (lv_at hl 2 rfl) ?_
          refine lv_iadd hx hb dX7_signAt_27 ?_
          refine lv_istore (lv' := [(4, .int ((p1 * 2) + p2)), (0, .ref h0), (1, .int p1), (2, .int p2), (3, .int p3)]) hx hb dX7_signAt_28 hl (by decide) rfl (fun ls hl => ?_)
          refine lv_iload_n hx hb dX7_signAt_30 rfl (lv_at hl 4 rfl) ?_
          refine lv_if_lt (tgt := 44) hx hb dX7_signAt_31 (by decide) (fun c_31 => ?_) (fun c_31 => ?_)
          · have hf := op_pos c_31 hf
            refine lv_iconst (v := (-1)) hx hb dX7_signAt_44 (by decide) ?_
            rw [← Option.some.inj hf]
            exact g_iret hx hb hr hlk hK hP hD hS dX7_signAt_45
          · have hf := op_neg c_31 hf
            refine lv_iload_n hx hb dX7_signAt_34 rfl (lv_at hl 4 rfl) ?_
            refine lv_aload_n hx hb dX7_signAt_35 rfl (lv_at hl 1 rfl) ?_
            refine lv_iload hx hb dX7_signAt_36 (lv_at hl 0 rfl) ?_
            obtain ⟨q_38, hc_38, hf⟩ := op_bind hf
            refine g_callVi (As := [.int ((p1 * 2) + p2)]) (rest := [.int p3]) (w2 := (w7 cy h0 h1 a0 s0) ++ (wV cy h1 n1 b1)) ⟨hx, hb, hml, hown, hts⟩ (c_X7_rowLength l D cy h0 h1 a0 s0 _ fu ((p1 * 2) + p2) _ hc_38) (cwV 1 hts (gi_V ml_RX7_43 im_X7_rowLength se_X7_rowLength in_RX7 cd_X7_rowLength) rfl rfl rfl hdX7_rowLength ⟨Nat.le_of_ble_eq_true rfl, Nat.le_of_ble_eq_true rfl⟩) (va_recv hK hP (ci := 7) (q0 := 0) rfl rfl) rfl hl.1 rfl (Nat.le_of_ble_eq_true rfl) dX7_signAt_38 hK hP hD hS hA [0, 1] [2] [1, 2, 0] rfl rfl rfl rfl (by decide) rfl rfl (fun H locs hP hD hS => ?_)
            refine lv_icmp_lt (tgt := 46) hx hb dX7_signAt_41 (by decide) (fun c_41 => ?_) (fun c_41 => ?_)
            · have hf := op_pos c_41 hf
              refine lv_aload_n hx hb dX7_signAt_46 rfl (lv_at hl 1 rfl) ?_
              refine va_get (ci := 7) (v := .int (s0.1 1)) (C := RX7) (T := TX7) (N := 7) hx hb hts (fun w h => List.mem_cons_of_mem _ (inX7 w h)) hown hK hP 0 rfl rfl 1 (by decide) hk_19 (fun _ h9 => h9) rfl dX7_signAt_47 ?_
              refine lv_aload_n hx hb dX7_signAt_50 rfl (lv_at hl 1 rfl) ?_
              refine lv_iload hx hb dX7_signAt_51 (lv_at hl 0 rfl) ?_
              obtain ⟨q_53, hc_53, hf⟩ := op_bind hf
              refine g_callVi (As := [.int ((p1 * 2) + p2)]) (rest := [.int (s0.1 1)]) (w2 := (w7 cy h0 h1 a0 s0) ++ (wV cy h1 n1 b1)) ⟨hx, hb, hml, hown, hts⟩ (c_X7_rowBegin l D cy h0 h1 a0 s0 _ fu ((p1 * 2) + p2) _ hc_53) (cwV 1 hts (gi_V ml_RX7_30 im_X7_rowBegin se_X7_rowBegin in_RX7 cd_X7_rowBegin) rfl rfl rfl hdX7_rowBegin ⟨Nat.le_of_ble_eq_true rfl, Nat.le_of_ble_eq_true rfl⟩) (va_recv hK hP (ci := 7) (q0 := 0) rfl rfl) rfl hl.1 rfl (Nat.le_of_ble_eq_true rfl) dX7_signAt_53 hK hP hD hS hA [0, 1] [2] [1, 2, 0] rfl rfl rfl rfl (by decide) rfl rfl (fun H locs hP hD hS => ?_)
              refine lv_iadd hx hb dX7_signAt_56 ?_
              refine lv_iload_n hx hb dX7_signAt_57 rfl (lv_at hl 4 rfl) ?_
              refine lv_iadd hx hb dX7_signAt_58 ?_
              refine lv_istore (lv' := [(5, .int (((s0.1 1) + q_53) + p3)), (4, .int ((p1 * 2) + p2)), (0, .ref h0), (1, .int p1), (2, .int p2), (3, .int p3)]) hx hb dX7_signAt_59 hl (by decide) rfl (fun ls hl => ?_)
              refine lv_iload hx hb dX7_signAt_61 (lv_at hl 0 rfl) ?_
              refine lv_if_lt (tgt := 86) hx hb dX7_signAt_63 (by decide) (fun c_63 => ?_) (fun c_63 => ?_)
              · have hf := op_pos c_63 hf
                refine lv_iconst (v := (-1)) hx hb dX7_signAt_86 (by decide) ?_
                rw [← Option.some.inj hf]
                exact g_iret hx hb hr hlk hK hP hD hS dX7_signAt_87
              · have hf := op_neg c_63 hf
                refine lv_iload hx hb dX7_signAt_66 (lv_at hl 0 rfl) ?_
                refine lv_aload_n hx hb dX7_signAt_68 rfl (lv_at hl 2 rfl) ?_
                refine va_get (ci := 7) (v := .ref h1) (C := RX7) (T := TX7) (N := 7) hx hb hts (fun w h => List.mem_cons_of_mem _ (inX7 w h)) hown hK hP 0 rfl rfl 0 (by decide) hk_15 (fun _ h9 => h9) rfl dX7_signAt_69 ?_
                refine va_alen (v := nI n1) hx hb hK hP 2 1 rfl rfl rfl dX7_signAt_72 ?_
                refine lv_icmp_ge (tgt := 86) hx hb dX7_signAt_73 (by decide) (fun c_73 => ?_) (fun c_73 => ?_)
                · have hf := op_pos c_73 hf
                  refine lv_iconst (v := (-1)) hx hb dX7_signAt_86 (by decide) ?_
                  rw [← Option.some.inj hf]
                  exact g_iret hx hb hr hlk hK hP hD hS dX7_signAt_87
                · have hf := op_neg c_73 hf
                  refine lv_aload_n hx hb dX7_signAt_76 rfl (lv_at hl 2 rfl) ?_
                  refine va_get (ci := 7) (v := .ref h1) (C := RX7) (T := TX7) (N := 7) hx hb hts (fun w h => List.mem_cons_of_mem _ (inX7 w h)) hown hK hP 0 rfl rfl 0 (by decide) hk_15 (fun _ h9 => h9) rfl dX7_signAt_77 ?_
                  refine lv_iload hx hb dX7_signAt_80 (lv_at hl 0 rfl) ?_
                  obtain ⟨hg_82, hf⟩ := op_if hf
                  refine va_bald (f := b1) hx hb hK hP 2 1 rfl rfl (inb_in hg_82) dX7_signAt_82 ?_
                  refine lv_goto (tgt := 87) hx hb dX7_signAt_83 (by decide) ?_
                  rw [← Option.some.inj hf]
                  exact g_iret hx hb hr hlk hK hP hD hS dX7_signAt_87
            · have hf := op_neg c_41 hf
              refine lv_iconst (v := (-1)) hx hb dX7_signAt_44 (by decide) ?_
              rw [← Option.some.inj hf]
              exact g_iret hx hb hr hlk hK hP hD hS dX7_signAt_45
        · have hf := op_neg c_18 hf
          refine lv_iconst (v := (-1)) hx hb dX7_signAt_21 (by decide) ?_
          rw [← Option.some.inj hf]
          exact g_iret hx hb hr hlk hK hP hD hS dX7_signAt_22
