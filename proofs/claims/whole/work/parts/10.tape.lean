def f_X6_hasRoom (fu : Nat) (s0 : St)   : Option (Int32) := if 1500 < ((s0.1 1) + 20) then (some 0) else (some 1)
theorem hdX6_hasRoom : yX6_hasRoom.cls = RX6 ∧ yX6_hasRoom.cls ≠ "java/lang/invoke/MethodHandle" ∧ yX6_hasRoom.cls ≠ "java/lang/invoke/VarHandle" ∧ (parseMethodDescriptor yX6_hasRoom.desc).map (fun d => d.parameters.length) = some 0 := by decide +kernel
set_option maxHeartbeats 4000000 in
set_option maxRecDepth 100000 in
theorem c_X6_hasRoom (l : Launch) (D : va_G) (cy : Nat → ClassId) (h0 : Nat) (a0 : Nat → Nat) (s0 : St) (sz fu : Nat)  (out : Int32) (hf : f_X6_hasRoom fu s0 = some out) :
    Met l yX6_hasRoom (WS yX6_hasRoom cX6_hasRoom 1 (some .boolean)) ({ frames := 0, cells := 0, slots := 0, locals := 0 } : Room) (va_Pc [.ref h0] (gP D cy sz (w6 cy h0 a0 s0))) ((fun A : Nat → Prop => gQi D cy A out (w6 cy h0 a0 s0)) (va_A (w6 cy h0 a0 s0) sz)) 0 0 (va_A (w6 cy h0 a0 s0) sz) := by
  refine g_met (cc := cX6_hasRoom) (maxL := 1) (ret := (some .boolean)) (fun A : Nat → Prop => gQi D cy A out (w6 cy h0 a0 s0)) (by decide +kernel) rfl (Nat.le_of_ble_eq_true rfl) ?_
  intro p e s m below meth c A C hA hK hP hD ls hl
  obtain ⟨hx, hb, hr, hml, hown, hts, hlk⟩ := id C
  have hown : s.vm.findClass RX6 = some m.cls := hown
  have hS : va_S A s.heap s.heap [] := va_S.rf
  have hl : lv_has ls 1 [(0, .ref h0)] := hl
  have hk_15 := hts _ (List.mem_cons_of_mem _ fl_RX6_15)
  unfold f_X6_hasRoom at hf
  refine lv_aload_n hx hb dX6_hasRoom_0 rfl (lv_at hl 0 rfl) ?_
  refine va_get (ci := 6) (v := .int (s0.1 1)) (C := RX6) (T := TX6) (N := 2) hx hb hts (fun w h => List.mem_cons_of_mem _ (inX6 w h)) hown hK hP 0 rfl rfl 1 (by decide) hk_15 (fun _ h9 => h9) rfl dX6_hasRoom_1 ?_
  refine lv_bipush (v := 20) hx hb dX6_hasRoom_4 (by decide) ?_
  refine lv_iadd hx hb dX6_hasRoom_6 ?_
  refine lv_sipush (v := 1500) hx hb dX6_hasRoom_7 (by decide) ?_
  refine lv_icmp_gt (tgt := 17) hx hb dX6_hasRoom_10 (by decide) (fun c_10 => ?_) (fun c_10 => ?_)
  · have hf := op_pos c_10 hf
    refine lv_iconst (v := 0) hx hb dX6_hasRoom_17 (by decide) ?_
    rw [← Option.some.inj hf]
    exact g_zret hx hb hr hlk (show isB 0 = true by decide) hK hP hD hS dX6_hasRoom_18
  · have hf := op_neg c_10 hf
    refine lv_iconst (v := 1) hx hb dX6_hasRoom_13 (by decide) ?_
    refine lv_goto (tgt := 18) hx hb dX6_hasRoom_14 (by decide) ?_
    rw [← Option.some.inj hf]
    exact g_zret hx hb hr hlk (show isB 1 = true by decide) hK hP hD hS dX6_hasRoom_18
def f_X6_holds (fu : Nat) (s0 : St)  (p1 : Int32) : Option (Int32) := if p1 < 0 then (some 0) else (if (s0.1 1) < p1 then (some 0) else (some 1))
theorem hdX6_holds : yX6_holds.cls = RX6 ∧ yX6_holds.cls ≠ "java/lang/invoke/MethodHandle" ∧ yX6_holds.cls ≠ "java/lang/invoke/VarHandle" ∧ (parseMethodDescriptor yX6_holds.desc).map (fun d => d.parameters.length) = some 1 := by decide +kernel
set_option maxHeartbeats 4000000 in
set_option maxRecDepth 100000 in
theorem c_X6_holds (l : Launch) (D : va_G) (cy : Nat → ClassId) (h0 : Nat) (a0 : Nat → Nat) (s0 : St) (sz fu : Nat) (p1 : Int32) (out : Int32) (hf : f_X6_holds fu s0 p1 = some out) :
    Met l yX6_holds (WS yX6_holds cX6_holds 2 (some .boolean)) ({ frames := 0, cells := 0, slots := 0, locals := 0 } : Room) (va_Pc [.ref h0, .int p1] (gP D cy sz (w6 cy h0 a0 s0))) ((fun A : Nat → Prop => gQi D cy A out (w6 cy h0 a0 s0)) (va_A (w6 cy h0 a0 s0) sz)) 0 0 (va_A (w6 cy h0 a0 s0) sz) := by
  refine g_met (cc := cX6_holds) (maxL := 2) (ret := (some .boolean)) (fun A : Nat → Prop => gQi D cy A out (w6 cy h0 a0 s0)) (by decide +kernel) rfl (Nat.le_of_ble_eq_true rfl) ?_
  intro p e s m below meth c A C hA hK hP hD ls hl
  obtain ⟨hx, hb, hr, hml, hown, hts, hlk⟩ := id C
  have hown : s.vm.findClass RX6 = some m.cls := hown
  have hS : va_S A s.heap s.heap [] := va_S.rf
  have hl : lv_has ls 2 [(0, .ref h0), (1, .int p1)] := hl
  have hk_15 := hts _ (List.mem_cons_of_mem _ fl_RX6_15)
  unfold f_X6_holds at hf
  refine lv_iload_n hx hb dX6_holds_0 rfl (lv_at hl 1 rfl) ?_
  refine lv_if_lt (tgt := 16) hx hb dX6_holds_1 (by decide) (fun c_1 => ?_) (fun c_1 => ?_)
  · have hf := op_pos c_1 hf
    refine lv_iconst (v := 0) hx hb dX6_holds_16 (by decide) ?_
    rw [← Option.some.inj hf]
    exact g_zret hx hb hr hlk (show isB 0 = true by decide) hK hP hD hS dX6_holds_17
  · have hf := op_neg c_1 hf
    refine lv_iload_n hx hb dX6_holds_4 rfl (lv_at hl 1 rfl) ?_
    refine lv_aload_n hx hb dX6_holds_5 rfl (lv_at hl 0 rfl) ?_
    refine va_get (ci := 6) (v := .int (s0.1 1)) (C := RX6) (T := TX6) (N := 2) hx hb hts (fun w h => List.mem_cons_of_mem _ (inX6 w h)) hown hK hP 0 rfl rfl 1 (by decide) hk_15 (fun _ h9 => h9) rfl dX6_holds_6 ?_
    refine lv_icmp_gt (tgt := 16) hx hb dX6_holds_9 (by decide) (fun c_9 => ?_) (fun c_9 => ?_)
    · have hf := op_pos c_9 hf
      refine lv_iconst (v := 0) hx hb dX6_holds_16 (by decide) ?_
      rw [← Option.some.inj hf]
      exact g_zret hx hb hr hlk (show isB 0 = true by decide) hK hP hD hS dX6_holds_17
    · have hf := op_neg c_9 hf
      refine lv_iconst (v := 1) hx hb dX6_holds_12 (by decide) ?_
      refine lv_goto (tgt := 17) hx hb dX6_holds_13 (by decide) ?_
      rw [← Option.some.inj hf]
      exact g_zret hx hb hr hlk (show isB 1 = true by decide) hK hP hD hS dX6_holds_17
def f_X6_append_L3  (fu : Nat)  : Nat → St → Int32 → Int32 → Option (St)
  | 0, _, _, _ => none
  | n_3 + 1, u0, x1, x2 => if x2 < 0 then (some u0) else (if 1500 ≤ (u0.1 1) then (some u0) else (if inb (u0.1 1) 1500 = true then (f_X6_append_L3 fu n_3 (sF (sA u0 0 ((u0.1 1).toNatClampNeg) (vp_nar .byte ((x1 >>> (x2 &&& 31)).toInt8.toInt32))) 1 ((u0.1 1) + 1)) x1 (x2 + (-8))) else none))
set_option maxHeartbeats 4000000 in
set_option maxRecDepth 100000 in
theorem b_X6_append_L3 {p : Program} {e : Env} {s : State} {m : MethodId} {args : Array Value} {below : List Frame} {meth : Method} {c : Code} {A : Nat → Prop} (l : Launch) (D : va_G) (cy : Nat → ClassId) (h0 : Nat) (a0 : Nat → Nat) (fu : Nat) (out : St) (C : gC p s m args meth c (WS yX6_append cX6_append 3 none) cX6_append 3 none RX6) (hA : ∀ q : Nat, s.heap.size ≤ q → A q) (hK : va_K D vwCl (TY cy) s)  :
    ∀ (n_3 : Nat), ∀ (u0 : St) (x1 : Int32) (x2 : Int32), f_X6_append_L3 fu n_3 u0 x1 x2 = some out → ∀ (H : Heap) (locs : List Loc) (ls : Array Slot), va_P D vwCl (w6 cy h0 a0 u0) H → va_D A (w6 cy h0 a0 u0) → va_S A s.heap H locs → lv_has ls 3 [(0, .ref h0), (1, .int x1), (2, .int x2)] → W p l e ({ frames := 0, cells := 0, slots := 0, locals := 0 } : Room) s m args below meth c H locs 0 0 (MQ below (gQv D cy A (w6 cy h0 a0 out)) args s 0 0 A) (F0 m 3 ls []) := by
  obtain ⟨hx, hb, hr, hml, hown, hts, hlk⟩ := id C
  have hown : s.vm.findClass RX6 = some m.cls := hown
  have hk_15 := hts _ (List.mem_cons_of_mem _ fl_RX6_15)
  have hk_9 := hts _ (List.mem_cons_of_mem _ fl_RX6_9)
  intro n_3
  induction n_3 with
  | zero => intro u0 x1 x2 hf; exact op_no hf
  | succ n_3 ih_3 =>
    intro u0 x1 x2 hf H locs ls hP hD hS hl
    rw [f_X6_append_L3] at hf
    refine lv_iload_n hx hb dX6_append_3 rfl (lv_at hl 2 rfl) ?_
    refine lv_if_lt (tgt := 46) hx hb dX6_append_4 (by decide) (fun c_4 => ?_) (fun c_4 => ?_)
    · have hf := op_pos c_4 hf
      rw [← Option.some.inj hf]
      exact g_vret hx hb hr hlk hK hP hD hS dX6_append_46
    · have hf := op_neg c_4 hf
      refine lv_aload_n hx hb dX6_append_7 rfl (lv_at hl 0 rfl) ?_
      refine va_get (ci := 6) (v := .int (u0.1 1)) (C := RX6) (T := TX6) (N := 2) hx hb hts (fun w h => List.mem_cons_of_mem _ (inX6 w h)) hown hK hP 0 rfl rfl 1 (by decide) hk_15 (fun _ h9 => h9) rfl dX6_append_8 ?_
      refine lv_sipush (v := 1500) hx hb dX6_append_11 (by decide) ?_
      refine lv_icmp_ge (tgt := 46) hx hb dX6_append_14 (by decide) (fun c_14 => ?_) (fun c_14 => ?_)
      · have hf := op_pos c_14 hf
        rw [← Option.some.inj hf]
        exact g_vret hx hb hr hlk hK hP hD hS dX6_append_46
      · have hf := op_neg c_14 hf
        refine lv_aload_n hx hb dX6_append_17 rfl (lv_at hl 0 rfl) ?_
        refine va_get (ci := 6) (v := .ref (a0 0)) (C := RX6) (T := TX6) (N := 2) hx hb hts (fun w h => List.mem_cons_of_mem _ (inX6 w h)) hown hK hP 0 rfl rfl 0 (by decide) hk_9 (fun _ h9 => h9) rfl dX6_append_18 ?_
        refine lv_aload_n hx hb dX6_append_21 rfl (lv_at hl 0 rfl) ?_
        refine va_get (ci := 6) (v := .int (u0.1 1)) (C := RX6) (T := TX6) (N := 2) hx hb hts (fun w h => List.mem_cons_of_mem _ (inX6 w h)) hown hK hP 0 rfl rfl 1 (by decide) hk_15 (fun _ h9 => h9) rfl dX6_append_22 ?_
        refine lv_iload_n hx hb dX6_append_25 rfl (lv_at hl 1 rfl) ?_
        refine lv_iload_n hx hb dX6_append_26 rfl (lv_at hl 2 rfl) ?_
        refine lv_ishr hx hb dX6_append_27 ?_
        refine lv_i2b hx hb dX6_append_28 rfl ?_
        obtain ⟨hg_29, hf⟩ := op_if hf
        refine va_bast (f := u0.2 0) (x := (x1 >>> (x2 &&& 31)).toInt8.toInt32) hx hb hK hP hD hS 1 1 rfl rfl (inb_in hg_29) dX6_append_29 (fun H locs hP hD hS => ?_)
        have hP : va_P D vwCl (w6 cy h0 a0 (sA u0 0 ((u0.1 1).toNatClampNeg) (vp_nar .byte ((x1 >>> (x2 &&& 31)).toInt8.toInt32)))) H := pP6_0 hP
        have hD : va_D A (w6 cy h0 a0 (sA u0 0 ((u0.1 1).toNatClampNeg) (vp_nar .byte ((x1 >>> (x2 &&& 31)).toInt8.toInt32)))) := pD6_0 hD
        refine lv_aload_n hx hb dX6_append_30 rfl (lv_at hl 0 rfl) ?_
        refine lv_dup hx hb dX6_append_31 rfl ?_
        refine va_get (ci := 6) (v := .int (u0.1 1)) (C := RX6) (T := TX6) (N := 2) hx hb hts (fun w h => List.mem_cons_of_mem _ (inX6 w h)) hown hK hP 0 rfl rfl 1 (by decide) hk_15 (fun _ h9 => h9) rfl dX6_append_32 ?_
        refine lv_iconst (v := 1) hx hb dX6_append_35 (by decide) ?_
        refine lv_iadd hx hb dX6_append_36 ?_
        refine va_put (ci := 6) (v := .int ((u0.1 1) + 1)) (ty := tyX6 1) (C := RX6) (T := TX6) (N := 2) hx hb hts (fun w h => List.mem_cons_of_mem _ (inX6 w h)) tyX6 tyX6_ok nmX6 hown hK hP hD hS 0 rfl rfl 1 (by decide) hk_15 (fun _ h9 => h9) rfl (tyX6_ok 1 (by decide)) rfl rfl (Nat.le_of_ble_eq_true rfl) dX6_append_37 (fun H locs hP hD hS => ?_)
        have hP : va_P D vwCl (w6 cy h0 a0 (sF (sA u0 0 ((u0.1 1).toNatClampNeg) (vp_nar .byte ((x1 >>> (x2 &&& 31)).toInt8.toInt32))) 1 ((u0.1 1) + 1))) H := pP6_1 hP
        have hD : va_D A (w6 cy h0 a0 (sF (sA u0 0 ((u0.1 1).toNatClampNeg) (vp_nar .byte ((x1 >>> (x2 &&& 31)).toInt8.toInt32))) 1 ((u0.1 1) + 1))) := pD6_1 hD
        refine lv_iinc (v := x2 + (-8)) (lv' := [(2, .int (x2 + (-8))), (0, .ref h0), (1, .int x1)]) hx hb dX6_append_40 hl (k := 2) rfl rfl (by decide) rfl (fun ls hl => ?_)
        refine lv_goto (tgt := 3) hx hb dX6_append_43 (by decide) ?_
        exact ih_3 (sF (sA u0 0 ((u0.1 1).toNatClampNeg) (vp_nar .byte ((x1 >>> (x2 &&& 31)).toInt8.toInt32))) 1 ((u0.1 1) + 1)) x1 (x2 + (-8)) hf _ _ ls hP hD hS (lv_sub hl [1, 2, 0] rfl)
def f_X6_append (fu : Nat)  (s0 : St) (p1 : Int32) : Option (St) := f_X6_append_L3 fu fu s0 p1 24
theorem hdX6_append : yX6_append.cls = RX6 ∧ yX6_append.cls ≠ "java/lang/invoke/MethodHandle" ∧ yX6_append.cls ≠ "java/lang/invoke/VarHandle" ∧ (parseMethodDescriptor yX6_append.desc).map (fun d => d.parameters.length) = some 1 := by decide +kernel
set_option maxHeartbeats 4000000 in
set_option maxRecDepth 100000 in
theorem c_X6_append (l : Launch) (D : va_G) (cy : Nat → ClassId) (h0 : Nat) (a0 : Nat → Nat) (s0 : St) (sz fu : Nat) (p1 : Int32) (out : St) (hf : f_X6_append fu s0 p1 = some out) :
    Met l yX6_append (WS yX6_append cX6_append 3 none) ({ frames := 0, cells := 0, slots := 0, locals := 0 } : Room) (va_Pc [.ref h0, .int p1] (gP D cy sz (w6 cy h0 a0 s0))) ((fun A : Nat → Prop => gQv D cy A (w6 cy h0 a0 out)) (va_A (w6 cy h0 a0 s0) sz)) 0 0 (va_A (w6 cy h0 a0 s0) sz) := by
  refine g_met (cc := cX6_append) (maxL := 3) (ret := none) (fun A : Nat → Prop => gQv D cy A (w6 cy h0 a0 out)) (by decide +kernel) rfl (Nat.le_of_ble_eq_true rfl) ?_
  intro p e s m below meth c A C hA hK hP hD ls hl
  obtain ⟨hx, hb, hr, hml, hown, hts, hlk⟩ := id C
  have hown : s.vm.findClass RX6 = some m.cls := hown
  have hS : va_S A s.heap s.heap [] := va_S.rf
  have hl : lv_has ls 3 [(0, .ref h0), (1, .int p1)] := hl
  unfold f_X6_append at hf
  refine lv_bipush (v := 24) hx hb dX6_append_0 (by decide) ?_
  refine lv_istore_n (lv' := [(2, .int 24), (0, .ref h0), (1, .int p1)]) hx hb dX6_append_2 rfl hl (by decide) rfl (fun ls hl => ?_)
  exact b_X6_append_L3 l D cy h0 a0 fu out C hA hK fu s0 p1 24 hf _ _ ls hP hD hS (lv_sub hl [1, 2, 0] rfl)
def f_X6_clear (fu : Nat)  (s0 : St)  : Option (St) := some (sF s0 1 0)
theorem hdX6_clear : yX6_clear.cls = RX6 ∧ yX6_clear.cls ≠ "java/lang/invoke/MethodHandle" ∧ yX6_clear.cls ≠ "java/lang/invoke/VarHandle" ∧ (parseMethodDescriptor yX6_clear.desc).map (fun d => d.parameters.length) = some 0 := by decide +kernel
set_option maxHeartbeats 4000000 in
set_option maxRecDepth 100000 in
theorem c_X6_clear (l : Launch) (D : va_G) (cy : Nat → ClassId) (h0 : Nat) (a0 : Nat → Nat) (s0 : St) (sz fu : Nat)  (out : St) (hf : f_X6_clear fu s0 = some out) :
    Met l yX6_clear (WS yX6_clear cX6_clear 1 none) ({ frames := 0, cells := 0, slots := 0, locals := 0 } : Room) (va_Pc [.ref h0] (gP D cy sz (w6 cy h0 a0 s0))) ((fun A : Nat → Prop => gQv D cy A (w6 cy h0 a0 out)) (va_A (w6 cy h0 a0 s0) sz)) 0 0 (va_A (w6 cy h0 a0 s0) sz) := by
  refine g_met (cc := cX6_clear) (maxL := 1) (ret := none) (fun A : Nat → Prop => gQv D cy A (w6 cy h0 a0 out)) (by decide +kernel) rfl (Nat.le_of_ble_eq_true rfl) ?_
  intro p e s m below meth c A C hA hK hP hD ls hl
  obtain ⟨hx, hb, hr, hml, hown, hts, hlk⟩ := id C
  have hown : s.vm.findClass RX6 = some m.cls := hown
  have hS : va_S A s.heap s.heap [] := va_S.rf
  have hl : lv_has ls 1 [(0, .ref h0)] := hl
  have hk_15 := hts _ (List.mem_cons_of_mem _ fl_RX6_15)
  unfold f_X6_clear at hf
  refine lv_aload_n hx hb dX6_clear_0 rfl (lv_at hl 0 rfl) ?_
  refine lv_iconst (v := 0) hx hb dX6_clear_1 (by decide) ?_
  refine va_put (ci := 6) (v := .int 0) (ty := tyX6 1) (C := RX6) (T := TX6) (N := 2) hx hb hts (fun w h => List.mem_cons_of_mem _ (inX6 w h)) tyX6 tyX6_ok nmX6 hown hK hP hD hS 0 rfl rfl 1 (by decide) hk_15 (fun _ h9 => h9) rfl (tyX6_ok 1 (by decide)) rfl rfl (Nat.le_of_ble_eq_true rfl) dX6_clear_2 (fun H locs hP hD hS => ?_)
  have hP : va_P D vwCl (w6 cy h0 a0 (sF s0 1 0)) H := pP6_1 hP
  have hD : va_D A (w6 cy h0 a0 (sF s0 1 0)) := pD6_1 hD
  rw [← Option.some.inj hf]
  exact g_vret hx hb hr hlk hK hP hD hS dX6_clear_5
