def f_X10_steps_L4  (fu : Nat)  : Nat → St → Int32 → Int32 → Int32 → Option (Int32 × St)
  | 0, _, _, _, _ => none
  | n_4 + 1, u0, x1, x2, x3 => if (u0.1 3) ≤ x3 then (some (x2, u0)) else ((f_X10_layTongue fu u0 x1 x3).bind (fun q_15 => if (q_15.1 32) ≤ x2 then (f_X10_steps_L4 fu n_4 q_15 x1 x2 (x3 + 1)) else (f_X10_steps_L4 fu n_4 q_15 x1 (q_15.1 32) (x3 + 1))))
set_option maxHeartbeats 4000000 in
set_option maxRecDepth 100000 in
theorem b_X10_steps_L4 {p : Program} {e : Env} {s : State} {m : MethodId} {args : Array Value} {below : List Frame} {meth : Method} {c : Code} {A : Nat → Prop} (l : Launch) (D : va_G) (cy : Nat → ClassId) (h0 : Nat) (a0 : Nat → Nat) (fu : Nat) (out : Int32 × St) (C : gC p s m args meth c (WS yX10_steps cX10_steps 4 (some .int)) cX10_steps 4 (some .int) RX10) (hA : ∀ q : Nat, s.heap.size ≤ q → A q) (hK : va_K D vwCl (TY cy) s)  :
    ∀ (n_4 : Nat), ∀ (u0 : St) (x1 : Int32) (x2 : Int32) (x3 : Int32), f_X10_steps_L4 fu n_4 u0 x1 x2 x3 = some out → ∀ (H : Heap) (locs : List Loc) (ls : Array Slot), va_P D vwCl (w10 cy h0 a0 u0) H → va_D A (w10 cy h0 a0 u0) → va_S A s.heap H locs → lv_has ls 4 [(0, .ref h0), (1, .int x1), (2, .int x2), (3, .int x3)] → W p l e ({ frames := 5, cells := 0, slots := 0, locals := 130 } : Room) s m args below meth c H locs 0 0 (MQ below (gQi D cy A out.1 (w10 cy h0 a0 out.2)) args s 0 0 A) (F0 m 4 ls []) := by
  obtain ⟨hx, hb, hr, hml, hown, hts, hlk⟩ := id C
  have hown : s.vm.findClass RX10 = some m.cls := hown
  have hk_13 := hts _ (List.mem_cons_of_mem _ fl_RX10_13)
  have hk_133 := hts _ (List.mem_cons_of_mem _ fl_RX10_133)
  intro n_4
  induction n_4 with
  | zero => intro u0 x1 x2 x3 hf; exact op_no hf
  | succ n_4 ih_4 =>
    intro u0 x1 x2 x3 hf H locs ls hP hD hS hl
    rw [f_X10_steps_L4] at hf
    refine lv_iload_n hx hb dX10_steps_4 rfl (lv_at hl 3 rfl) ?_
    refine lv_aload_n hx hb dX10_steps_5 rfl (lv_at hl 0 rfl) ?_
    refine va_get (ci := 9) (v := .int (u0.1 3)) (C := RX10) (T := TX10) (N := 56) hx hb hts (fun w h => List.mem_cons_of_mem _ (inX10 w h)) hown hK hP 0 rfl rfl 3 (by decide) hk_13 (fun _ h9 => h9) rfl dX10_steps_6 ?_
    refine lv_icmp_ge (tgt := 41) hx hb dX10_steps_9 (by decide) (fun c_9 => ?_) (fun c_9 => ?_)
    · have hf := op_pos c_9 hf
      refine lv_iload_n hx hb dX10_steps_41 rfl (lv_at hl 2 rfl) ?_
      rw [← Option.some.inj hf]
      exact g_iret hx hb hr hlk hK hP hD hS dX10_steps_42
    · have hf := op_neg c_9 hf
      refine lv_aload_n hx hb dX10_steps_12 rfl (lv_at hl 0 rfl) ?_
      refine lv_iload_n hx hb dX10_steps_13 rfl (lv_at hl 1 rfl) ?_
      refine lv_iload_n hx hb dX10_steps_14 rfl (lv_at hl 3 rfl) ?_
      obtain ⟨q_15, hc_15, hf⟩ := op_bind hf
      refine g_callVv (As := [.int x1, .int x3]) (rest := []) (w2 := w10 cy h0 a0 q_15) ⟨hx, hb, hml, hown, hts⟩ (c_X10_layTongue l D cy h0 a0 u0 _ fu x1 x3 _ hc_15) (cwV 2 hts (gi_V ml_RX10_268 im_X10_layTongue se_X10_layTongue in_RX10 cd_X10_layTongue) rfl rfl rfl hdX10_layTongue ⟨Nat.le_of_ble_eq_true rfl, Nat.le_of_ble_eq_true rfl⟩) (va_recv hK hP (ci := 9) (q0 := 0) rfl rfl) rfl hl.1 rfl (Nat.le_of_ble_eq_true rfl) dX10_steps_15 hK hP hD hS hA [0, 1, 2, 3, 4, 5, 6, 7, 8, 9, 10, 11, 12, 13, 14, 15, 16, 17, 18, 19, 20, 21, 22, 23, 24, 25, 26, 27, 28, 29] [] [0, 1, 2, 3, 4, 5, 6, 7, 8, 9, 10, 11, 12, 13, 14, 15, 16, 17, 18, 19, 20, 21, 22, 23, 24, 25, 26, 27, 28, 29] rfl rfl rfl rfl (by decide) rfl rfl (fun H locs hP hD hS => ?_)
      refine lv_aload_n hx hb dX10_steps_18 rfl (lv_at hl 0 rfl) ?_
      refine va_get (ci := 9) (v := .int (q_15.1 32)) (C := RX10) (T := TX10) (N := 56) hx hb hts (fun w h => List.mem_cons_of_mem _ (inX10 w h)) hown hK hP 0 rfl rfl 32 (by decide) hk_133 (fun _ h9 => h9) rfl dX10_steps_19 ?_
      refine lv_iload_n hx hb dX10_steps_22 rfl (lv_at hl 2 rfl) ?_
      refine lv_icmp_le (tgt := 33) hx hb dX10_steps_23 (by decide) (fun c_23 => ?_) (fun c_23 => ?_)
      · have hf := op_pos c_23 hf
        refine lv_iload_n hx hb dX10_steps_33 rfl (lv_at hl 2 rfl) ?_
        refine lv_istore_n (lv' := [(2, .int x2), (0, .ref h0), (1, .int x1), (3, .int x3)]) hx hb dX10_steps_34 rfl hl (by decide) rfl (fun ls hl => ?_)
        refine lv_iinc (v := x3 + 1) (lv' := [(3, .int (x3 + 1)), (2, .int x2), (0, .ref h0), (1, .int x1)]) hx hb dX10_steps_35 hl (k := 3) rfl rfl (by decide) rfl (fun ls hl => ?_)
        refine lv_goto (tgt := 4) hx hb dX10_steps_38 (by decide) ?_
        exact ih_4 q_15 x1 x2 (x3 + 1) hf _ _ ls hP hD hS (lv_sub hl [2, 3, 1, 0] rfl)
      · have hf := op_neg c_23 hf
        refine lv_aload_n hx hb dX10_steps_26 rfl (lv_at hl 0 rfl) ?_
        refine va_get (ci := 9) (v := .int (q_15.1 32)) (C := RX10) (T := TX10) (N := 56) hx hb hts (fun w h => List.mem_cons_of_mem _ (inX10 w h)) hown hK hP 0 rfl rfl 32 (by decide) hk_133 (fun _ h9 => h9) rfl dX10_steps_27 ?_
        refine lv_goto (tgt := 34) hx hb dX10_steps_30 (by decide) ?_
        refine lv_istore_n (lv' := [(2, .int (q_15.1 32)), (0, .ref h0), (1, .int x1), (3, .int x3)]) hx hb dX10_steps_34 rfl hl (by decide) rfl (fun ls hl => ?_)
        refine lv_iinc (v := x3 + 1) (lv' := [(3, .int (x3 + 1)), (2, .int (q_15.1 32)), (0, .ref h0), (1, .int x1)]) hx hb dX10_steps_35 hl (k := 3) rfl rfl (by decide) rfl (fun ls hl => ?_)
        refine lv_goto (tgt := 4) hx hb dX10_steps_38 (by decide) ?_
        exact ih_4 q_15 x1 (q_15.1 32) (x3 + 1) hf _ _ ls hP hD hS (lv_sub hl [2, 3, 1, 0] rfl)
def f_X10_steps (fu : Nat)  (s0 : St) (p1 : Int32) : Option (Int32 × St) := f_X10_steps_L4 fu fu s0 p1 0 0
theorem hdX10_steps : yX10_steps.cls = RX10 ∧ yX10_steps.cls ≠ "java/lang/invoke/MethodHandle" ∧ yX10_steps.cls ≠ "java/lang/invoke/VarHandle" ∧ (parseMethodDescriptor yX10_steps.desc).map (fun d => d.parameters.length) = some 1 := by decide +kernel
set_option maxHeartbeats 4000000 in
set_option maxRecDepth 100000 in
theorem c_X10_steps (l : Launch) (D : va_G) (cy : Nat → ClassId) (h0 : Nat) (a0 : Nat → Nat) (s0 : St) (sz fu : Nat) (p1 : Int32) (out : Int32 × St) (hf : f_X10_steps fu s0 p1 = some out) :
    Met l yX10_steps (WS yX10_steps cX10_steps 4 (some .int)) ({ frames := 5, cells := 0, slots := 0, locals := 130 } : Room) (va_Pc [.ref h0, .int p1] (gP D cy sz (w10 cy h0 a0 s0))) ((fun A : Nat → Prop => gQi D cy A out.1 (w10 cy h0 a0 out.2)) (va_A (w10 cy h0 a0 s0) sz)) 0 0 (va_A (w10 cy h0 a0 s0) sz) := by
  refine g_met (cc := cX10_steps) (maxL := 4) (ret := (some .int)) (fun A : Nat → Prop => gQi D cy A out.1 (w10 cy h0 a0 out.2)) (by decide +kernel) rfl (Nat.le_of_ble_eq_true rfl) ?_
  intro p e s m below meth c A C hA hK hP hD ls hl
  obtain ⟨hx, hb, hr, hml, hown, hts, hlk⟩ := id C
  have hown : s.vm.findClass RX10 = some m.cls := hown
  have hS : va_S A s.heap s.heap [] := va_S.rf
  have hl : lv_has ls 4 [(0, .ref h0), (1, .int p1)] := hl
  unfold f_X10_steps at hf
  refine lv_iconst (v := 0) hx hb dX10_steps_0 (by decide) ?_
  refine lv_istore_n (lv' := [(2, .int 0), (0, .ref h0), (1, .int p1)]) hx hb dX10_steps_1 rfl hl (by decide) rfl (fun ls hl => ?_)
  refine lv_iconst (v := 0) hx hb dX10_steps_2 (by decide) ?_
  refine lv_istore_n (lv' := [(3, .int 0), (2, .int 0), (0, .ref h0), (1, .int p1)]) hx hb dX10_steps_3 rfl hl (by decide) rfl (fun ls hl => ?_)
  exact b_X10_steps_L4 l D cy h0 a0 fu out C hA hK fu s0 p1 0 0 hf _ _ ls hP hD hS (lv_sub hl [2, 3, 1, 0] rfl)
def f_X10_endOf (fu : Nat) (s0 : St)  (p1 : Int32) : Option (Int32) := if (s0.1 7) ≤ (p1 + 1) then (some 1000) else (if inb (p1 + 1) 40 = true then (some (s0.2 9 (p1 + 1).toNatClampNeg)) else none)
theorem hdX10_endOf : yX10_endOf.cls = RX10 ∧ yX10_endOf.cls ≠ "java/lang/invoke/MethodHandle" ∧ yX10_endOf.cls ≠ "java/lang/invoke/VarHandle" ∧ (parseMethodDescriptor yX10_endOf.desc).map (fun d => d.parameters.length) = some 1 := by decide +kernel
set_option maxHeartbeats 4000000 in
set_option maxRecDepth 100000 in
theorem c_X10_endOf (l : Launch) (D : va_G) (cy : Nat → ClassId) (h0 : Nat) (a0 : Nat → Nat) (s0 : St) (sz fu : Nat) (p1 : Int32) (out : Int32) (hf : f_X10_endOf fu s0 p1 = some out) :
    Met l yX10_endOf (WS yX10_endOf cX10_endOf 2 (some .int)) ({ frames := 0, cells := 0, slots := 0, locals := 0 } : Room) (va_Pc [.ref h0, .int p1] (gP D cy sz (w10 cy h0 a0 s0))) ((fun A : Nat → Prop => gQi D cy A out (w10 cy h0 a0 s0)) (va_A (w10 cy h0 a0 s0) sz)) 0 0 (va_A (w10 cy h0 a0 s0) sz) := by
  refine g_met (cc := cX10_endOf) (maxL := 2) (ret := (some .int)) (fun A : Nat → Prop => gQi D cy A out (w10 cy h0 a0 s0)) (by decide +kernel) rfl (Nat.le_of_ble_eq_true rfl) ?_
  intro p e s m below meth c A C hA hK hP hD ls hl
  obtain ⟨hx, hb, hr, hml, hown, hts, hlk⟩ := id C
  have hown : s.vm.findClass RX10 = some m.cls := hown
  have hS : va_S A s.heap s.heap [] := va_S.rf
  have hl : lv_has ls 2 [(0, .ref h0), (1, .int p1)] := hl
  have hk_235 := hts _ (List.mem_cons_of_mem _ fl_RX10_235)
  have hk_26 := hts _ (List.mem_cons_of_mem _ fl_RX10_26)
  unfold f_X10_endOf at hf
  refine lv_iload_n hx hb dX10_endOf_0 rfl (lv_at hl 1 rfl) ?_
  refine lv_iconst (v := 1) hx hb dX10_endOf_1 (by decide) ?_
  refine lv_iadd hx hb dX10_endOf_2 ?_
  refine lv_aload_n hx hb dX10_endOf_3 rfl (lv_at hl 0 rfl) ?_
  refine va_get (ci := 9) (v := .int (s0.1 7)) (C := RX10) (T := TX10) (N := 56) hx hb hts (fun w h => List.mem_cons_of_mem _ (inX10 w h)) hown hK hP 0 rfl rfl 7 (by decide) hk_235 (fun _ h9 => h9) rfl dX10_endOf_4 ?_
  refine lv_icmp_ge (tgt := 21) hx hb dX10_endOf_7 (by decide) (fun c_7 => ?_) (fun c_7 => ?_)
  · have hf := op_pos c_7 hf
    refine lv_sipush (v := 1000) hx hb dX10_endOf_21 (by decide) ?_
    rw [← Option.some.inj hf]
    exact g_iret hx hb hr hlk hK hP hD hS dX10_endOf_24
  · have hf := op_neg c_7 hf
    refine lv_aload_n hx hb dX10_endOf_10 rfl (lv_at hl 0 rfl) ?_
    refine va_get (ci := 9) (v := .ref (a0 9)) (C := RX10) (T := TX10) (N := 56) hx hb hts (fun w h => List.mem_cons_of_mem _ (inX10 w h)) hown hK hP 0 rfl rfl 9 (by decide) hk_26 (fun _ h9 => h9) rfl dX10_endOf_11 ?_
    refine lv_iload_n hx hb dX10_endOf_14 rfl (lv_at hl 1 rfl) ?_
    refine lv_iconst (v := 1) hx hb dX10_endOf_15 (by decide) ?_
    refine lv_iadd hx hb dX10_endOf_16 ?_
    obtain ⟨hg_17, hf⟩ := op_if hf
    refine va_iald (f := s0.2 9) hx hb hK hP 4 0 rfl rfl (inb_in hg_17) dX10_endOf_17 ?_
    refine lv_goto (tgt := 24) hx hb dX10_endOf_18 (by decide) ?_
    rw [← Option.some.inj hf]
    exact g_iret hx hb hr hlk hK hP hD hS dX10_endOf_24
def f_X10_bars_L36 (k_15 : Int32 → Int32 → Int32 → Option (Int32)) (fu : Nat) (s0 : St) (x2 : Int32) (x4 : Int32) (t0 : Int32) (t1 : Int32) : Option (Int32) := k_15 x2 (t1 + t0) (x4 + 1)
set_option maxHeartbeats 4000000 in
set_option maxRecDepth 100000 in
theorem b_X10_bars_L36 {p : Program} {e : Env} {s : State} {m : MethodId} {args : Array Value} {below : List Frame} {meth : Method} {c : Code} {A : Nat → Prop} (l : Launch) (D : va_G) (cy : Nat → ClassId) (h0 : Nat) (a0 : Nat → Nat) (s0 : St) (fu : Nat) (out : Int32) (C : gC p s m args meth c (WS yX10_bars cX10_bars 5 (some .int)) cX10_bars 5 (some .int) RX10) (hA : ∀ q : Nat, s.heap.size ≤ q → A q) (hK : va_K D vwCl (TY cy) s) (k_15 : Int32 → Int32 → Int32 → Option (Int32)) (hk_15 : ∀ (x2 : Int32) (x3 : Int32) (x4 : Int32), k_15 x2 x3 x4 = some out → ∀ (H : Heap) (locs : List Loc) (ls : Array Slot), va_P D vwCl (w10 cy h0 a0 s0) H → va_D A (w10 cy h0 a0 s0) → va_S A s.heap H locs → lv_has ls 5 [(0, .ref h0), (2, .int x2), (3, .int x3), (4, .int x4)] → W p l e ({ frames := 1, cells := 0, slots := 0, locals := 23 } : Room) s m args below meth c H locs 0 0 (MQ below (gQi D cy A out (w10 cy h0 a0 s0)) args s 0 0 A) (F0 m 15 ls [])) :
    ∀ (x2 : Int32) (x4 : Int32) (t0 : Int32) (t1 : Int32), f_X10_bars_L36 k_15 fu s0 x2 x4 t0 t1 = some out → ∀ (H : Heap) (locs : List Loc) (ls : Array Slot), va_P D vwCl (w10 cy h0 a0 s0) H → va_D A (w10 cy h0 a0 s0) → va_S A s.heap H locs → lv_has ls 5 [(0, .ref h0), (2, .int x2), (4, .int x4)] → W p l e ({ frames := 1, cells := 0, slots := 0, locals := 23 } : Room) s m args below meth c H locs 0 0 (MQ below (gQi D cy A out (w10 cy h0 a0 s0)) args s 0 0 A) (F0 m 36 ls [.int t0, .int t1]) := by
  obtain ⟨hx, hb, hr, hml, hown, hts, hlk⟩ := id C
  have hown : s.vm.findClass RX10 = some m.cls := hown
  intro x2 x4 t0 t1 hf H locs ls hP hD hS hl
  unfold f_X10_bars_L36 at hf
  refine lv_iadd hx hb dX10_bars_36 ?_
  refine lv_istore_n (lv' := [(3, .int (t1 + t0)), (0, .ref h0), (2, .int x2), (4, .int x4)]) hx hb dX10_bars_37 rfl hl (by decide) rfl (fun ls hl => ?_)
  refine lv_iinc (v := x4 + 1) (lv' := [(4, .int (x4 + 1)), (3, .int (t1 + t0)), (0, .ref h0), (2, .int x2)]) hx hb dX10_bars_38 hl (k := 3) rfl rfl (by decide) rfl (fun ls hl => ?_)
  refine lv_goto (tgt := 15) hx hb dX10_bars_41 (by decide) ?_
  exact hk_15 x2 (t1 + t0) (x4 + 1) hf _ _ ls hP hD hS (lv_sub hl [2, 3, 1, 0] rfl)
def f_X10_bars_L15  (fu : Nat) (s0 : St) : Nat → Int32 → Int32 → Int32 → Option (Int32)
  | 0, _, _, _ => none
  | n_15 + 1, x2, x3, x4 => if x2 ≤ x4 then (some x3) else ((f_X10_isCut fu s0 x4).bind (fun q_25 => if q_25 = 0 then (f_X10_bars_L36 (f_X10_bars_L15 fu s0 n_15) fu s0 x2 x4 1 x3) else (f_X10_bars_L36 (f_X10_bars_L15 fu s0 n_15) fu s0 x2 x4 0 x3)))
set_option maxHeartbeats 4000000 in
set_option maxRecDepth 100000 in
theorem b_X10_bars_L15 {p : Program} {e : Env} {s : State} {m : MethodId} {args : Array Value} {below : List Frame} {meth : Method} {c : Code} {A : Nat → Prop} (l : Launch) (D : va_G) (cy : Nat → ClassId) (h0 : Nat) (a0 : Nat → Nat) (s0 : St) (fu : Nat) (out : Int32) (C : gC p s m args meth c (WS yX10_bars cX10_bars 5 (some .int)) cX10_bars 5 (some .int) RX10) (hA : ∀ q : Nat, s.heap.size ≤ q → A q) (hK : va_K D vwCl (TY cy) s)  :
    ∀ (n_15 : Nat), ∀ (x2 : Int32) (x3 : Int32) (x4 : Int32), f_X10_bars_L15 fu s0 n_15 x2 x3 x4 = some out → ∀ (H : Heap) (locs : List Loc) (ls : Array Slot), va_P D vwCl (w10 cy h0 a0 s0) H → va_D A (w10 cy h0 a0 s0) → va_S A s.heap H locs → lv_has ls 5 [(0, .ref h0), (2, .int x2), (3, .int x3), (4, .int x4)] → W p l e ({ frames := 1, cells := 0, slots := 0, locals := 23 } : Room) s m args below meth c H locs 0 0 (MQ below (gQi D cy A out (w10 cy h0 a0 s0)) args s 0 0 A) (F0 m 15 ls []) := by
  obtain ⟨hx, hb, hr, hml, hown, hts, hlk⟩ := id C
  have hown : s.vm.findClass RX10 = some m.cls := hown
  intro n_15
  induction n_15 with
  | zero => intro x2 x3 x4 hf; exact op_no hf
  | succ n_15 ih_15 =>
    intro x2 x3 x4 hf H locs ls hP hD hS hl
    rw [f_X10_bars_L15] at hf
    refine lv_iload hx hb dX10_bars_15 (lv_at hl 3 rfl) ?_
    refine lv_iload_n hx hb dX10_bars_17 rfl (lv_at hl 1 rfl) ?_
    refine lv_icmp_ge (tgt := 44) hx hb dX10_bars_18 (by decide) (fun c_18 => ?_) (fun c_18 => ?_)
    · have hf := op_pos c_18 hf
      refine lv_iload_n hx hb dX10_bars_44 rfl (lv_at hl 2 rfl) ?_
      rw [← Option.some.inj hf]
      exact g_iret hx hb hr hlk hK hP hD hS dX10_bars_45
    · have hf := op_neg c_18 hf
      refine lv_iload_n hx hb dX10_bars_21 rfl (lv_at hl 2 rfl) ?_
      refine lv_aload_n hx hb dX10_bars_22 rfl (lv_at hl 0 rfl) ?_
      refine lv_iload hx hb dX10_bars_23 (lv_at hl 3 rfl) ?_
      obtain ⟨q_25, hc_25, hf⟩ := op_bind hf
      refine g_callVi (As := [.int x4]) (rest := [.int x3]) (w2 := w10 cy h0 a0 s0) ⟨hx, hb, hml, hown, hts⟩ (c_X10_isCut l D cy h0 a0 s0 _ fu x4 _ hc_25) (cwV 1 hts (gi_V ml_RX10_253 im_X10_isCut se_X10_isCut in_RX10 cd_X10_isCut) rfl rfl rfl hdX10_isCut ⟨Nat.le_of_ble_eq_true rfl, Nat.le_of_ble_eq_true rfl⟩) (va_recv hK hP (ci := 9) (q0 := 0) rfl rfl) rfl hl.1 rfl (Nat.le_of_ble_eq_true rfl) dX10_bars_25 hK hP hD hS hA [0, 1, 2, 3, 4, 5, 6, 7, 8, 9, 10, 11, 12, 13, 14, 15, 16, 17, 18, 19, 20, 21, 22, 23, 24, 25, 26, 27, 28, 29] [] [0, 1, 2, 3, 4, 5, 6, 7, 8, 9, 10, 11, 12, 13, 14, 15, 16, 17, 18, 19, 20, 21, 22, 23, 24, 25, 26, 27, 28, 29] rfl rfl rfl rfl (by decide) rfl rfl (fun H locs hP hD hS => ?_)
      refine lv_if_eq (tgt := 35) hx hb dX10_bars_28 (by decide) (fun c_28 => ?_) (fun c_28 => ?_)
      · have hf := op_pos c_28 hf
        refine lv_iconst (v := 1) hx hb dX10_bars_35 (by decide) ?_
        exact b_X10_bars_L36 l D cy h0 a0 s0 fu out C hA hK (f_X10_bars_L15 fu s0 n_15) ih_15 x2 x4 1 x3 hf _ _ ls hP hD hS (lv_sub hl [0, 1, 3] rfl)
      · have hf := op_neg c_28 hf
        refine lv_iconst (v := 0) hx hb dX10_bars_31 (by decide) ?_
        refine lv_goto (tgt := 36) hx hb dX10_bars_32 (by decide) ?_
        exact b_X10_bars_L36 l D cy h0 a0 s0 fu out C hA hK (f_X10_bars_L15 fu s0 n_15) ih_15 x2 x4 0 x3 hf _ _ ls hP hD hS (lv_sub hl [0, 1, 3] rfl)
def f_X10_bars (fu : Nat) (s0 : St)  (p1 : Int32) (p2 : Int32) : Option (Int32) := if inb p1 40 = true then (if inb (s0.2 11 p1.toNatClampNeg) 40 = true then (f_X10_bars_L15 fu s0 fu p2 0 (s0.2 9 (s0.2 11 p1.toNatClampNeg).toNatClampNeg)) else none) else none
theorem hdX10_bars : yX10_bars.cls = RX10 ∧ yX10_bars.cls ≠ "java/lang/invoke/MethodHandle" ∧ yX10_bars.cls ≠ "java/lang/invoke/VarHandle" ∧ (parseMethodDescriptor yX10_bars.desc).map (fun d => d.parameters.length) = some 2 := by decide +kernel
set_option maxHeartbeats 4000000 in
set_option maxRecDepth 100000 in
theorem c_X10_bars (l : Launch) (D : va_G) (cy : Nat → ClassId) (h0 : Nat) (a0 : Nat → Nat) (s0 : St) (sz fu : Nat) (p1 : Int32) (p2 : Int32) (out : Int32) (hf : f_X10_bars fu s0 p1 p2 = some out) :
    Met l yX10_bars (WS yX10_bars cX10_bars 5 (some .int)) ({ frames := 1, cells := 0, slots := 0, locals := 23 } : Room) (va_Pc [.ref h0, .int p1, .int p2] (gP D cy sz (w10 cy h0 a0 s0))) ((fun A : Nat → Prop => gQi D cy A out (w10 cy h0 a0 s0)) (va_A (w10 cy h0 a0 s0) sz)) 0 0 (va_A (w10 cy h0 a0 s0) sz) := by
  refine g_met (cc := cX10_bars) (maxL := 5) (ret := (some .int)) (fun A : Nat → Prop => gQi D cy A out (w10 cy h0 a0 s0)) (by decide +kernel) rfl (Nat.le_of_ble_eq_true rfl) ?_
  intro p e s m below meth c A C hA hK hP hD ls hl
  obtain ⟨hx, hb, hr, hml, hown, hts, hlk⟩ := id C
  have hown : s.vm.findClass RX10 = some m.cls := hown
  have hS : va_S A s.heap s.heap [] := va_S.rf
  have hl : lv_has ls 5 [(0, .ref h0), (1, .int p1), (2, .int p2)] := hl
  have hk_26 := hts _ (List.mem_cons_of_mem _ fl_RX10_26)
  have hk_32 := hts _ (List.mem_cons_of_mem _ fl_RX10_32)
  unfold f_X10_bars at hf
  refine lv_iconst (v := 0) hx hb dX10_bars_0 (by decide) ?_
  refine lv_istore_n (lv' := [(3, .int 0), (0, .ref h0), (1, .int p1), (2, .int p2)]) hx hb dX10_bars_1 rfl hl (by decide) rfl (fun ls hl => ?_)
  refine lv_aload_n hx hb dX10_bars_2 rfl (lv_at hl 1 rfl) ?_
  refine va_get (ci := 9) (v := .ref (a0 9)) (C := RX10) (T := TX10) (N := 56) hx hb hts (fun w h => List.mem_cons_of_mem _ (inX10 w h)) hown hK hP 0 rfl rfl 9 (by decide) hk_26 (fun _ h9 => h9) rfl dX10_bars_3 ?_
  refine lv_aload_n hx hb dX10_bars_6 rfl (lv_at hl 1 rfl) ?_
  refine va_get (ci := 9) (v := .ref (a0 11)) (C := RX10) (T := TX10) (N := 56) hx hb hts (fun w h => List.mem_cons_of_mem _ (inX10 w h)) hown hK hP 0 rfl rfl 11 (by decide) hk_32 (fun _ h9 => h9) rfl dX10_bars_7 ?_
  refine lv_iload_n hx hb dX10_bars_10 rfl (lv_at hl 2 rfl) ?_
  obtain ⟨hg_11, hf⟩ := op_if hf
  refine va_iald (f := s0.2 11) hx hb hK hP 6 0 rfl rfl (inb_in hg_11) dX10_bars_11 ?_
  obtain ⟨hg_12, hf⟩ := op_if hf
  refine va_iald (f := s0.2 9) hx hb hK hP 4 0 rfl rfl (inb_in hg_12) dX10_bars_12 ?_
  refine lv_istore (lv' := [(4, .int (s0.2 9 (s0.2 11 p1.toNatClampNeg).toNatClampNeg)), (3, .int 0), (0, .ref h0), (1, .int p1), (2, .int p2)]) hx hb dX10_bars_13 hl (by decide) rfl (fun ls hl => ?_)
  exact b_X10_bars_L15 l D cy h0 a0 s0 fu out C hA hK fu p2 0 (s0.2 9 (s0.2 11 p1.toNatClampNeg).toNatClampNeg) hf _ _ ls hP hD hS (lv_sub hl [2, 4, 1, 0] rfl)
def f_X10_stepAt_L5  (fu : Nat) (s0 : St) : Nat → Int32 → Int32 → Int32 → Int32 → Option (Int32)
  | 0, _, _, _, _ => none
  | n_5 + 1, x1, x2, x3, x4 => if x4 ≤ 0 then (some x4) else (if nz x3 = true then (if ((x4 * x2) / x3) ≤ x1 then (some x4) else (f_X10_stepAt_L5 fu s0 n_5 x1 x2 x3 (x4 + (-1)))) else none)
set_option maxHeartbeats 4000000 in
set_option maxRecDepth 100000 in
theorem b_X10_stepAt_L5 {p : Program} {e : Env} {s : State} {m : MethodId} {args : Array Value} {below : List Frame} {meth : Method} {c : Code} {A : Nat → Prop} (l : Launch) (D : va_G) (cy : Nat → ClassId) (h0 : Nat) (a0 : Nat → Nat) (s0 : St) (fu : Nat) (out : Int32) (C : gC p s m args meth c (WS yX10_stepAt cX10_stepAt 5 (some .int)) cX10_stepAt 5 (some .int) RX10) (hA : ∀ q : Nat, s.heap.size ≤ q → A q) (hK : va_K D vwCl (TY cy) s)  :
    ∀ (n_5 : Nat), ∀ (x1 : Int32) (x2 : Int32) (x3 : Int32) (x4 : Int32), f_X10_stepAt_L5 fu s0 n_5 x1 x2 x3 x4 = some out → ∀ (H : Heap) (locs : List Loc) (ls : Array Slot), va_P D vwCl (w10 cy h0 a0 s0) H → va_D A (w10 cy h0 a0 s0) → va_S A s.heap H locs → lv_has ls 5 [(1, .int x1), (2, .int x2), (3, .int x3), (4, .int x4)] → W p l e ({ frames := 0, cells := 0, slots := 0, locals := 0 } : Room) s m args below meth c H locs 0 0 (MQ below (gQi D cy A out (w10 cy h0 a0 s0)) args s 0 0 A) (F0 m 5 ls []) := by
  obtain ⟨hx, hb, hr, hml, hown, hts, hlk⟩ := id C
  have hown : s.vm.findClass RX10 = some m.cls := hown
  intro n_5
  induction n_5 with
  | zero => intro x1 x2 x3 x4 hf; exact op_no hf
  | succ n_5 ih_5 =>
    intro x1 x2 x3 x4 hf H locs ls hP hD hS hl
    rw [f_X10_stepAt_L5] at hf
    refine lv_iload hx hb dX10_stepAt_5 (lv_at hl 3 rfl) ?_
    refine lv_if_le (tgt := 26) hx hb dX10_stepAt_7 (by decide) (fun c_7 => ?_) (fun c_7 => ?_)
    · have hf := op_pos c_7 hf
      refine lv_iload hx hb dX10_stepAt_26 (lv_at hl 3 rfl) ?_
      rw [← Option.some.inj hf]
      exact g_iret hx hb hr hlk hK hP hD hS dX10_stepAt_28
    · have hf := op_neg c_7 hf
      refine lv_iload hx hb dX10_stepAt_10 (lv_at hl 3 rfl) ?_
      refine lv_iload_n hx hb dX10_stepAt_12 rfl (lv_at hl 1 rfl) ?_
      refine lv_imul hx hb dX10_stepAt_13 ?_
      refine lv_iload_n hx hb dX10_stepAt_14 rfl (lv_at hl 2 rfl) ?_
      obtain ⟨hg_15, hf⟩ := op_if hf
      refine lv_idiv hx hb dX10_stepAt_15 (nz_ne hg_15) ?_
      refine lv_iload_n hx hb dX10_stepAt_16 rfl (lv_at hl 0 rfl) ?_
      refine lv_icmp_le (tgt := 26) hx hb dX10_stepAt_17 (by decide) (fun c_17 => ?_) (fun c_17 => ?_)
      · have hf := op_pos c_17 hf
        refine lv_iload hx hb dX10_stepAt_26 (lv_at hl 3 rfl) ?_
        rw [← Option.some.inj hf]
        exact g_iret hx hb hr hlk hK hP hD hS dX10_stepAt_28
      · have hf := op_neg c_17 hf
        refine lv_iinc (v := x4 + (-1)) (lv' := [(4, .int (x4 + (-1))), (1, .int x1), (2, .int x2), (3, .int x3)]) hx hb dX10_stepAt_20 hl (k := 3) rfl rfl (by decide) rfl (fun ls hl => ?_)
        refine lv_goto (tgt := 5) hx hb dX10_stepAt_23 (by decide) ?_
        exact ih_5 x1 x2 x3 (x4 + (-1)) hf _ _ ls hP hD hS (lv_sub hl [1, 2, 3, 0] rfl)
def f_X10_stepAt (fu : Nat) (s0 : St)  (p1 : Int32) (p2 : Int32) (p3 : Int32) : Option (Int32) := f_X10_stepAt_L5 fu s0 fu p1 p2 p3 (p3 - 1)
theorem hdX10_stepAt : yX10_stepAt.cls = RX10 ∧ yX10_stepAt.cls ≠ "java/lang/invoke/MethodHandle" ∧ yX10_stepAt.cls ≠ "java/lang/invoke/VarHandle" ∧ (parseMethodDescriptor yX10_stepAt.desc).map (fun d => d.parameters.length) = some 3 := by decide +kernel
set_option maxHeartbeats 4000000 in
set_option maxRecDepth 100000 in
theorem c_X10_stepAt (l : Launch) (D : va_G) (cy : Nat → ClassId) (h0 : Nat) (a0 : Nat → Nat) (s0 : St) (sz fu : Nat) (p1 : Int32) (p2 : Int32) (p3 : Int32) (out : Int32) (hf : f_X10_stepAt fu s0 p1 p2 p3 = some out) :
    Met l yX10_stepAt (WS yX10_stepAt cX10_stepAt 5 (some .int)) ({ frames := 0, cells := 0, slots := 0, locals := 0 } : Room) (va_Pc [.ref h0, .int p1, .int p2, .int p3] (gP D cy sz (w10 cy h0 a0 s0))) ((fun A : Nat → Prop => gQi D cy A out (w10 cy h0 a0 s0)) (va_A (w10 cy h0 a0 s0) sz)) 0 0 (va_A (w10 cy h0 a0 s0) sz) := by
  refine g_met (cc := cX10_stepAt) (maxL := 5) (ret := (some .int)) (fun A : Nat → Prop => gQi D cy A out (w10 cy h0 a0 s0)) (by decide +kernel) rfl (Nat.le_of_ble_eq_true rfl) ?_
  intro p e s m below meth c A C hA hK hP hD ls hl
  obtain ⟨hx, hb, hr, hml, hown, hts, hlk⟩ := id C
  have hown : s.vm.findClass RX10 = some m.cls := hown
  have hS : va_S A s.heap s.heap [] := va_S.rf
  have hl : lv_has ls 5 [(0, .ref h0), (1, .int p1), (2, .int p2), (3, .int p3)] := hl
  unfold f_X10_stepAt at hf
  refine lv_iload_n hx hb dX10_stepAt_0 rfl (lv_at hl 3 rfl) ?_
  refine lv_iconst (v := 1) hx hb dX10_stepAt_1 (by decide) ?_
  refine lv_isub hx hb dX10_stepAt_2 ?_
  refine lv_istore (lv' := [(4, .int (p3 - 1)), (0, .ref h0), (1, .int p1), (2, .int p2), (3, .int p3)]) hx hb dX10_stepAt_3 hl (by decide) rfl (fun ls hl => ?_)
  exact b_X10_stepAt_L5 l D cy h0 a0 s0 fu out C hA hK fu p1 p2 p3 (p3 - 1) hf _ _ ls hP hD hS (lv_sub hl [2, 3, 4, 0] rfl)
def f_X10_shortOf_L112 (k_28 : St → Int32 → Int32 → Int32 → Int32 → Int32 → Option (Int32 × St)) (k_56 : St → Int32 → Int32 → Int32 → Int32 → Int32 → Int32 → Int32 → Int32 → Option (Int32 × St)) (k_72 : St → Int32 → Int32 → Int32 → Int32 → Int32 → Int32 → Int32 → Int32 → Int32 → Int32 → Option (Int32 × St)) (fu : Nat)  (u0 : St) (x1 : Int32) (x2 : Int32) (x3 : Int32) (x4 : Int32) (x5 : Int32) (x6 : Int32) (x7 : Int32) (x8 : Int32) (x10 : Int32) (t0 : Int32) (t1 : Int32) : Option (Int32 × St) := if inb x10 12 = true then (k_72 u0 x1 x2 x3 x4 x5 x6 (x7 + (u0.2 31 x10.toNatClampNeg)) x8 (t1 + t0) (x10 + 1)) else none
set_option maxHeartbeats 4000000 in
set_option maxRecDepth 100000 in
theorem b_X10_shortOf_L112 {p : Program} {e : Env} {s : State} {m : MethodId} {args : Array Value} {below : List Frame} {meth : Method} {c : Code} {A : Nat → Prop} (l : Launch) (D : va_G) (cy : Nat → ClassId) (h0 : Nat) (a0 : Nat → Nat) (fu : Nat) (out : Int32 × St) (C : gC p s m args meth c (WS yX10_shortOf cX10_shortOf 12 (some .int)) cX10_shortOf 12 (some .int) RX10) (hA : ∀ q : Nat, s.heap.size ≤ q → A q) (hK : va_K D vwCl (TY cy) s) (k_28 : St → Int32 → Int32 → Int32 → Int32 → Int32 → Option (Int32 × St)) (hk_28 : ∀ (u0 : St) (x1 : Int32) (x2 : Int32) (x3 : Int32) (x4 : Int32) (x5 : Int32), k_28 u0 x1 x2 x3 x4 x5 = some out → ∀ (H : Heap) (locs : List Loc) (ls : Array Slot), va_P D vwCl (w10 cy h0 a0 u0) H → va_D A (w10 cy h0 a0 u0) → va_S A s.heap H locs → lv_has ls 12 [(0, .ref h0), (1, .int x1), (2, .int x2), (3, .int x3), (4, .int x4), (5, .int x5)] → W p l e ({ frames := 6, cells := 0, slots := 0, locals := 153 } : Room) s m args below meth c H locs 0 0 (MQ below (gQi D cy A out.1 (w10 cy h0 a0 out.2)) args s 0 0 A) (F0 m 28 ls [])) (k_56 : St → Int32 → Int32 → Int32 → Int32 → Int32 → Int32 → Int32 → Int32 → Option (Int32 × St)) (hk_56 : ∀ (u0 : St) (x1 : Int32) (x2 : Int32) (x3 : Int32) (x4 : Int32) (x5 : Int32) (x6 : Int32) (x7 : Int32) (x8 : Int32), k_56 u0 x1 x2 x3 x4 x5 x6 x7 x8 = some out → ∀ (H : Heap) (locs : List Loc) (ls : Array Slot), va_P D vwCl (w10 cy h0 a0 u0) H → va_D A (w10 cy h0 a0 u0) → va_S A s.heap H locs → lv_has ls 12 [(0, .ref h0), (1, .int x1), (2, .int x2), (3, .int x3), (4, .int x4), (5, .int x5), (6, .int x6), (7, .int x7), (8, .int x8)] → W p l e ({ frames := 6, cells := 0, slots := 0, locals := 153 } : Room) s m args below meth c H locs 0 0 (MQ below (gQi D cy A out.1 (w10 cy h0 a0 out.2)) args s 0 0 A) (F0 m 56 ls [])) (k_72 : St → Int32 → Int32 → Int32 → Int32 → Int32 → Int32 → Int32 → Int32 → Int32 → Int32 → Option (Int32 × St)) (hk_72 : ∀ (u0 : St) (x1 : Int32) (x2 : Int32) (x3 : Int32) (x4 : Int32) (x5 : Int32) (x6 : Int32) (x7 : Int32) (x8 : Int32) (x9 : Int32) (x10 : Int32), k_72 u0 x1 x2 x3 x4 x5 x6 x7 x8 x9 x10 = some out → ∀ (H : Heap) (locs : List Loc) (ls : Array Slot), va_P D vwCl (w10 cy h0 a0 u0) H → va_D A (w10 cy h0 a0 u0) → va_S A s.heap H locs → lv_has ls 12 [(0, .ref h0), (1, .int x1), (2, .int x2), (3, .int x3), (4, .int x4), (5, .int x5), (6, .int x6), (7, .int x7), (8, .int x8), (9, .int x9), (10, .int x10)] → W p l e ({ frames := 6, cells := 0, slots := 0, locals := 153 } : Room) s m args below meth c H locs 0 0 (MQ below (gQi D cy A out.1 (w10 cy h0 a0 out.2)) args s 0 0 A) (F0 m 72 ls [])) :
    ∀ (u0 : St) (x1 : Int32) (x2 : Int32) (x3 : Int32) (x4 : Int32) (x5 : Int32) (x6 : Int32) (x7 : Int32) (x8 : Int32) (x10 : Int32) (t0 : Int32) (t1 : Int32), f_X10_shortOf_L112 k_28 k_56 k_72 fu u0 x1 x2 x3 x4 x5 x6 x7 x8 x10 t0 t1 = some out → ∀ (H : Heap) (locs : List Loc) (ls : Array Slot), va_P D vwCl (w10 cy h0 a0 u0) H → va_D A (w10 cy h0 a0 u0) → va_S A s.heap H locs → lv_has ls 12 [(0, .ref h0), (1, .int x1), (2, .int x2), (3, .int x3), (4, .int x4), (5, .int x5), (6, .int x6), (7, .int x7), (8, .int x8), (10, .int x10)] → W p l e ({ frames := 6, cells := 0, slots := 0, locals := 153 } : Room) s m args below meth c H locs 0 0 (MQ below (gQi D cy A out.1 (w10 cy h0 a0 out.2)) args s 0 0 A) (F0 m 112 ls [.int t0, .int t1]) := by
  obtain ⟨hx, hb, hr, hml, hown, hts, hlk⟩ := id C
  have hown : s.vm.findClass RX10 = some m.cls := hown
  have hk_80 := hts _ (List.mem_cons_of_mem _ fl_RX10_80)
  intro u0 x1 x2 x3 x4 x5 x6 x7 x8 x10 t0 t1 hf H locs ls hP hD hS hl
  unfold f_X10_shortOf_L112 at hf
  refine lv_iadd hx hb dX10_shortOf_112 ?_
  refine lv_istore (lv' := [(9, .int (t1 + t0)), (0, .ref h0), (1, .int x1), (2, .int x2), (3, .int x3), (4, .int x4), (5, .int x5), (6, .int x6), (7, .int x7), (8, .int x8), (10, .int x10)]) hx hb dX10_shortOf_113 hl (by decide) rfl (fun ls hl => ?_)
  refine lv_iload hx hb dX10_shortOf_115 (lv_at hl 8 rfl) ?_
  refine lv_aload_n hx hb dX10_shortOf_117 rfl (lv_at hl 1 rfl) ?_
  refine va_get (ci := 9) (v := .ref (a0 31)) (C := RX10) (T := TX10) (N := 56) hx hb hts (fun w h => List.mem_cons_of_mem _ (inX10 w h)) hown hK hP 0 rfl rfl 31 (by decide) hk_80 (fun _ h9 => h9) rfl dX10_shortOf_118 ?_
  refine lv_iload hx hb dX10_shortOf_121 (lv_at hl 10 rfl) ?_
  obtain ⟨hg_123, hf⟩ := op_if hf
  refine va_iald (f := u0.2 31) hx hb hK hP 20 0 rfl rfl (inb_in hg_123) dX10_shortOf_123 ?_
  refine lv_iadd hx hb dX10_shortOf_124 ?_
  refine lv_istore (lv' := [(7, .int (x7 + (u0.2 31 x10.toNatClampNeg))), (9, .int (t1 + t0)), (0, .ref h0), (1, .int x1), (2, .int x2), (3, .int x3), (4, .int x4), (5, .int x5), (6, .int x6), (8, .int x8), (10, .int x10)]) hx hb dX10_shortOf_125 hl (by decide) rfl (fun ls hl => ?_)
  refine lv_iinc (v := x10 + 1) (lv' := [(10, .int (x10 + 1)), (7, .int (x7 + (u0.2 31 x10.toNatClampNeg))), (9, .int (t1 + t0)), (0, .ref h0), (1, .int x1), (2, .int x2), (3, .int x3), (4, .int x4), (5, .int x5), (6, .int x6), (8, .int x8)]) hx hb dX10_shortOf_127 hl (k := 10) rfl rfl (by decide) rfl (fun ls hl => ?_)
  refine lv_goto (tgt := 72) hx hb dX10_shortOf_130 (by decide) ?_
  exact hk_72 u0 x1 x2 x3 x4 x5 x6 (x7 + (u0.2 31 x10.toNatClampNeg)) x8 (t1 + t0) (x10 + 1) hf _ _ ls hP hD hS (lv_sub hl [3, 4, 5, 6, 7, 8, 9, 1, 10, 2, 0] rfl)
def f_X10_shortOf_L170 (k_28 : St → Int32 → Int32 → Int32 → Int32 → Int32 → Option (Int32 × St)) (k_56 : St → Int32 → Int32 → Int32 → Int32 → Int32 → Int32 → Int32 → Int32 → Option (Int32 × St)) (k_139 : St → Int32 → Int32 → Int32 → Int32 → Int32 → Int32 → Int32 → Int32 → Int32 → Int32 → Int32 → Option (Int32 × St)) (fu : Nat)  (u0 : St) (x1 : Int32) (x2 : Int32) (x3 : Int32) (x4 : Int32) (x5 : Int32) (x6 : Int32) (x7 : Int32) (x8 : Int32) (x9 : Int32) (x11 : Int32) (t0 : Int32) (t1 : Int32) : Option (Int32 × St) := k_139 u0 x1 x2 x3 x4 x5 x6 x7 x8 x9 (t1 + t0) (x11 + 1)
set_option maxHeartbeats 4000000 in
set_option maxRecDepth 100000 in
theorem b_X10_shortOf_L170 {p : Program} {e : Env} {s : State} {m : MethodId} {args : Array Value} {below : List Frame} {meth : Method} {c : Code} {A : Nat → Prop} (l : Launch) (D : va_G) (cy : Nat → ClassId) (h0 : Nat) (a0 : Nat → Nat) (fu : Nat) (out : Int32 × St) (C : gC p s m args meth c (WS yX10_shortOf cX10_shortOf 12 (some .int)) cX10_shortOf 12 (some .int) RX10) (hA : ∀ q : Nat, s.heap.size ≤ q → A q) (hK : va_K D vwCl (TY cy) s) (k_28 : St → Int32 → Int32 → Int32 → Int32 → Int32 → Option (Int32 × St)) (hk_28 : ∀ (u0 : St) (x1 : Int32) (x2 : Int32) (x3 : Int32) (x4 : Int32) (x5 : Int32), k_28 u0 x1 x2 x3 x4 x5 = some out → ∀ (H : Heap) (locs : List Loc) (ls : Array Slot), va_P D vwCl (w10 cy h0 a0 u0) H → va_D A (w10 cy h0 a0 u0) → va_S A s.heap H locs → lv_has ls 12 [(0, .ref h0), (1, .int x1), (2, .int x2), (3, .int x3), (4, .int x4), (5, .int x5)] → W p l e ({ frames := 6, cells := 0, slots := 0, locals := 153 } : Room) s m args below meth c H locs 0 0 (MQ below (gQi D cy A out.1 (w10 cy h0 a0 out.2)) args s 0 0 A) (F0 m 28 ls [])) (k_56 : St → Int32 → Int32 → Int32 → Int32 → Int32 → Int32 → Int32 → Int32 → Option (Int32 × St)) (hk_56 : ∀ (u0 : St) (x1 : Int32) (x2 : Int32) (x3 : Int32) (x4 : Int32) (x5 : Int32) (x6 : Int32) (x7 : Int32) (x8 : Int32), k_56 u0 x1 x2 x3 x4 x5 x6 x7 x8 = some out → ∀ (H : Heap) (locs : List Loc) (ls : Array Slot), va_P D vwCl (w10 cy h0 a0 u0) H → va_D A (w10 cy h0 a0 u0) → va_S A s.heap H locs → lv_has ls 12 [(0, .ref h0), (1, .int x1), (2, .int x2), (3, .int x3), (4, .int x4), (5, .int x5), (6, .int x6), (7, .int x7), (8, .int x8)] → W p l e ({ frames := 6, cells := 0, slots := 0, locals := 153 } : Room) s m args below meth c H locs 0 0 (MQ below (gQi D cy A out.1 (w10 cy h0 a0 out.2)) args s 0 0 A) (F0 m 56 ls [])) (k_139 : St → Int32 → Int32 → Int32 → Int32 → Int32 → Int32 → Int32 → Int32 → Int32 → Int32 → Int32 → Option (Int32 × St)) (hk_139 : ∀ (u0 : St) (x1 : Int32) (x2 : Int32) (x3 : Int32) (x4 : Int32) (x5 : Int32) (x6 : Int32) (x7 : Int32) (x8 : Int32) (x9 : Int32) (x10 : Int32) (x11 : Int32), k_139 u0 x1 x2 x3 x4 x5 x6 x7 x8 x9 x10 x11 = some out → ∀ (H : Heap) (locs : List Loc) (ls : Array Slot), va_P D vwCl (w10 cy h0 a0 u0) H → va_D A (w10 cy h0 a0 u0) → va_S A s.heap H locs → lv_has ls 12 [(0, .ref h0), (1, .int x1), (2, .int x2), (3, .int x3), (4, .int x4), (5, .int x5), (6, .int x6), (7, .int x7), (8, .int x8), (9, .int x9), (10, .int x10), (11, .int x11)] → W p l e ({ frames := 6, cells := 0, slots := 0, locals := 153 } : Room) s m args below meth c H locs 0 0 (MQ below (gQi D cy A out.1 (w10 cy h0 a0 out.2)) args s 0 0 A) (F0 m 139 ls [])) :
    ∀ (u0 : St) (x1 : Int32) (x2 : Int32) (x3 : Int32) (x4 : Int32) (x5 : Int32) (x6 : Int32) (x7 : Int32) (x8 : Int32) (x9 : Int32) (x11 : Int32) (t0 : Int32) (t1 : Int32), f_X10_shortOf_L170 k_28 k_56 k_139 fu u0 x1 x2 x3 x4 x5 x6 x7 x8 x9 x11 t0 t1 = some out → ∀ (H : Heap) (locs : List Loc) (ls : Array Slot), va_P D vwCl (w10 cy h0 a0 u0) H → va_D A (w10 cy h0 a0 u0) → va_S A s.heap H locs → lv_has ls 12 [(0, .ref h0), (1, .int x1), (2, .int x2), (3, .int x3), (4, .int x4), (5, .int x5), (6, .int x6), (7, .int x7), (8, .int x8), (9, .int x9), (11, .int x11)] → W p l e ({ frames := 6, cells := 0, slots := 0, locals := 153 } : Room) s m args below meth c H locs 0 0 (MQ below (gQi D cy A out.1 (w10 cy h0 a0 out.2)) args s 0 0 A) (F0 m 170 ls [.int t0, .int t1]) := by
  obtain ⟨hx, hb, hr, hml, hown, hts, hlk⟩ := id C
  have hown : s.vm.findClass RX10 = some m.cls := hown
  intro u0 x1 x2 x3 x4 x5 x6 x7 x8 x9 x11 t0 t1 hf H locs ls hP hD hS hl
  unfold f_X10_shortOf_L170 at hf
  refine lv_iadd hx hb dX10_shortOf_170 ?_
  refine lv_istore (lv' := [(10, .int (t1 + t0)), (0, .ref h0), (1, .int x1), (2, .int x2), (3, .int x3), (4, .int x4), (5, .int x5), (6, .int x6), (7, .int x7), (8, .int x8), (9, .int x9), (11, .int x11)]) hx hb dX10_shortOf_171 hl (by decide) rfl (fun ls hl => ?_)
  refine lv_iinc (v := x11 + 1) (lv' := [(11, .int (x11 + 1)), (10, .int (t1 + t0)), (0, .ref h0), (1, .int x1), (2, .int x2), (3, .int x3), (4, .int x4), (5, .int x5), (6, .int x6), (7, .int x7), (8, .int x8), (9, .int x9)]) hx hb dX10_shortOf_173 hl (k := 11) rfl rfl (by decide) rfl (fun ls hl => ?_)
  refine lv_goto (tgt := 139) hx hb dX10_shortOf_176 (by decide) ?_
  exact hk_139 u0 x1 x2 x3 x4 x5 x6 x7 x8 x9 (t1 + t0) (x11 + 1) hf _ _ ls hP hD hS (lv_sub hl [2, 3, 4, 5, 6, 7, 8, 9, 10, 11, 1, 0] rfl)
def f_X10_shortOf_L139 (k_28 : St → Int32 → Int32 → Int32 → Int32 → Int32 → Option (Int32 × St)) (k_56 : St → Int32 → Int32 → Int32 → Int32 → Int32 → Int32 → Int32 → Int32 → Option (Int32 × St)) (fu : Nat)  : Nat → St → Int32 → Int32 → Int32 → Int32 → Int32 → Int32 → Int32 → Int32 → Int32 → Int32 → Int32 → Option (Int32 × St)
  | 0, _, _, _, _, _, _, _, _, _, _, _, _ => none
  | n_139 + 1, u0, x1, x2, x3, x4, x5, x6, x7, x8, x9, x10, x11 => if x3 ≤ x11 then (if inb x5 4 = true then (if inb x5 4 = true then (if nz (u0.2 5 x5.toNatClampNeg) = true then (if ((((x9 + (u0.2 5 x5.toNatClampNeg)) - 1) / (u0.2 5 x5.toNatClampNeg)) - ((u0.1 6) * x10)) ≤ x4 then (k_56 u0 x1 x2 x3 x4 x5 x6 x7 (x8 + 1)) else (k_56 u0 x1 x2 x3 ((((x9 + (u0.2 5 x5.toNatClampNeg)) - 1) / (u0.2 5 x5.toNatClampNeg)) - ((u0.1 6) * x10)) x5 x6 x7 (x8 + 1))) else none) else none) else none) else ((f_X10_stepAt fu u0 x11 x3 x2).bind (fun q_152 => if nz x2 = true then (if ((q_152 * x6) / x2) = x8 then (f_X10_shortOf_L170 k_28 k_56 (f_X10_shortOf_L139 k_28 k_56 fu n_139) fu u0 x1 x2 x3 x4 x5 x6 x7 x8 x9 x11 1 x10) else (f_X10_shortOf_L170 k_28 k_56 (f_X10_shortOf_L139 k_28 k_56 fu n_139) fu u0 x1 x2 x3 x4 x5 x6 x7 x8 x9 x11 0 x10)) else none))
set_option maxHeartbeats 4000000 in
set_option maxRecDepth 100000 in
theorem b_X10_shortOf_L139 {p : Program} {e : Env} {s : State} {m : MethodId} {args : Array Value} {below : List Frame} {meth : Method} {c : Code} {A : Nat → Prop} (l : Launch) (D : va_G) (cy : Nat → ClassId) (h0 : Nat) (a0 : Nat → Nat) (fu : Nat) (out : Int32 × St) (C : gC p s m args meth c (WS yX10_shortOf cX10_shortOf 12 (some .int)) cX10_shortOf 12 (some .int) RX10) (hA : ∀ q : Nat, s.heap.size ≤ q → A q) (hK : va_K D vwCl (TY cy) s) (k_28 : St → Int32 → Int32 → Int32 → Int32 → Int32 → Option (Int32 × St)) (hk_28 : ∀ (u0 : St) (x1 : Int32) (x2 : Int32) (x3 : Int32) (x4 : Int32) (x5 : Int32), k_28 u0 x1 x2 x3 x4 x5 = some out → ∀ (H : Heap) (locs : List Loc) (ls : Array Slot), va_P D vwCl (w10 cy h0 a0 u0) H → va_D A (w10 cy h0 a0 u0) → va_S A s.heap H locs → lv_has ls 12 [(0, .ref h0), (1, .int x1), (2, .int x2), (3, .int x3), (4, .int x4), (5, .int x5)] → W p l e ({ frames := 6, cells := 0, slots := 0, locals := 153 } : Room) s m args below meth c H locs 0 0 (MQ below (gQi D cy A out.1 (w10 cy h0 a0 out.2)) args s 0 0 A) (F0 m 28 ls [])) (k_56 : St → Int32 → Int32 → Int32 → Int32 → Int32 → Int32 → Int32 → Int32 → Option (Int32 × St)) (hk_56 : ∀ (u0 : St) (x1 : Int32) (x2 : Int32) (x3 : Int32) (x4 : Int32) (x5 : Int32) (x6 : Int32) (x7 : Int32) (x8 : Int32), k_56 u0 x1 x2 x3 x4 x5 x6 x7 x8 = some out → ∀ (H : Heap) (locs : List Loc) (ls : Array Slot), va_P D vwCl (w10 cy h0 a0 u0) H → va_D A (w10 cy h0 a0 u0) → va_S A s.heap H locs → lv_has ls 12 [(0, .ref h0), (1, .int x1), (2, .int x2), (3, .int x3), (4, .int x4), (5, .int x5), (6, .int x6), (7, .int x7), (8, .int x8)] → W p l e ({ frames := 6, cells := 0, slots := 0, locals := 153 } : Room) s m args below meth c H locs 0 0 (MQ below (gQi D cy A out.1 (w10 cy h0 a0 out.2)) args s 0 0 A) (F0 m 56 ls [])) :
    ∀ (n_139 : Nat), ∀ (u0 : St) (x1 : Int32) (x2 : Int32) (x3 : Int32) (x4 : Int32) (x5 : Int32) (x6 : Int32) (x7 : Int32) (x8 : Int32) (x9 : Int32) (x10 : Int32) (x11 : Int32), f_X10_shortOf_L139 k_28 k_56 fu n_139 u0 x1 x2 x3 x4 x5 x6 x7 x8 x9 x10 x11 = some out → ∀ (H : Heap) (locs : List Loc) (ls : Array Slot), va_P D vwCl (w10 cy h0 a0 u0) H → va_D A (w10 cy h0 a0 u0) → va_S A s.heap H locs → lv_has ls 12 [(0, .ref h0), (1, .int x1), (2, .int x2), (3, .int x3), (4, .int x4), (5, .int x5), (6, .int x6), (7, .int x7), (8, .int x8), (9, .int x9), (10, .int x10), (11, .int x11)] → W p l e ({ frames := 6, cells := 0, slots := 0, locals := 153 } : Room) s m args below meth c H locs 0 0 (MQ below (gQi D cy A out.1 (w10 cy h0 a0 out.2)) args s 0 0 A) (F0 m 139 ls []) := by
  obtain ⟨hx, hb, hr, hml, hown, hts, hlk⟩ := id C
  have hown : s.vm.findClass RX10 = some m.cls := hown
  have hk_20 := hts _ (List.mem_cons_of_mem _ fl_RX10_20)
  have hk_23 := hts _ (List.mem_cons_of_mem _ fl_RX10_23)
  intro n_139
  induction n_139 with
  | zero => intro u0 x1 x2 x3 x4 x5 x6 x7 x8 x9 x10 x11 hf; exact op_no hf
  | succ n_139 ih_139 =>
    intro u0 x1 x2 x3 x4 x5 x6 x7 x8 x9 x10 x11 hf H locs ls hP hD hS hl
    rw [f_X10_shortOf_L139] at hf
    refine lv_iload hx hb dX10_shortOf_139 (lv_at hl 11 rfl) ?_
    refine lv_iload_n hx hb dX10_shortOf_141 rfl (lv_at hl 3 rfl) ?_
    refine lv_icmp_ge (tgt := 179) hx hb dX10_shortOf_142 (by decide) (fun c_142 => ?_) (fun c_142 => ?_)
    · have hf := op_pos c_142 hf
      refine lv_iload hx hb dX10_shortOf_179 (lv_at hl 9 rfl) ?_
      refine lv_aload_n hx hb dX10_shortOf_181 rfl (lv_at hl 0 rfl) ?_
      refine va_get (ci := 9) (v := .ref (a0 5)) (C := RX10) (T := TX10) (N := 56) hx hb hts (fun w h => List.mem_cons_of_mem _ (inX10 w h)) hown hK hP 0 rfl rfl 5 (by decide) hk_20 (fun _ h9 => h9) rfl dX10_shortOf_182 ?_
      refine lv_iload hx hb dX10_shortOf_185 (lv_at hl 5 rfl) ?_
      obtain ⟨hg_187, hf⟩ := op_if hf
      refine va_iald (f := u0.2 5) hx hb hK hP 3 0 rfl rfl (inb_in hg_187) dX10_shortOf_187 ?_
      refine lv_iadd hx hb dX10_shortOf_188 ?_
      refine lv_iconst (v := 1) hx hb dX10_shortOf_189 (by decide) ?_
      refine lv_isub hx hb dX10_shortOf_190 ?_
      refine lv_aload_n hx hb dX10_shortOf_191 rfl (lv_at hl 0 rfl) ?_
      refine va_get (ci := 9) (v := .ref (a0 5)) (C := RX10) (T := TX10) (N := 56) hx hb hts (fun w h => List.mem_cons_of_mem _ (inX10 w h)) hown hK hP 0 rfl rfl 5 (by decide) hk_20 (fun _ h9 => h9) rfl dX10_shortOf_192 ?_
      refine lv_iload hx hb dX10_shortOf_195 (lv_at hl 5 rfl) ?_
      obtain ⟨hg_197, hf⟩ := op_if hf
      refine va_iald (f := u0.2 5) hx hb hK hP 3 0 rfl rfl (inb_in hg_197) dX10_shortOf_197 ?_
      obtain ⟨hg_198, hf⟩ := op_if hf
      refine lv_idiv hx hb dX10_shortOf_198 (nz_ne hg_198) ?_
      refine lv_aload_n hx hb dX10_shortOf_199 rfl (lv_at hl 0 rfl) ?_
      refine va_get (ci := 9) (v := .int (u0.1 6)) (C := RX10) (T := TX10) (N := 56) hx hb hts (fun w h => List.mem_cons_of_mem _ (inX10 w h)) hown hK hP 0 rfl rfl 6 (by decide) hk_23 (fun _ h9 => h9) rfl dX10_shortOf_200 ?_
      refine lv_iload hx hb dX10_shortOf_203 (lv_at hl 10 rfl) ?_
      refine lv_imul hx hb dX10_shortOf_205 ?_
      refine lv_isub hx hb dX10_shortOf_206 ?_
      refine lv_istore (lv' := [(11, .int ((((x9 + (u0.2 5 x5.toNatClampNeg)) - 1) / (u0.2 5 x5.toNatClampNeg)) - ((u0.1 6) * x10))), (0, .ref h0), (1, .int x1), (2, .int x2), (3, .int x3), (4, .int x4), (5, .int x5), (6, .int x6), (7, .int x7), (8, .int x8), (9, .int x9), (10, .int x10)]) hx hb dX10_shortOf_207 hl (by decide) rfl (fun ls hl => ?_)
      refine lv_iload hx hb dX10_shortOf_209 (lv_at hl 0 rfl) ?_
      refine lv_iload hx hb dX10_shortOf_211 (lv_at hl 5 rfl) ?_
      refine lv_icmp_le (tgt := 221) hx hb dX10_shortOf_213 (by decide) (fun c_213 => ?_) (fun c_213 => ?_)
      · have hf := op_pos c_213 hf
        refine lv_iload hx hb dX10_shortOf_221 (lv_at hl 5 rfl) ?_
        refine lv_istore (lv' := [(4, .int x4), (11, .int ((((x9 + (u0.2 5 x5.toNatClampNeg)) - 1) / (u0.2 5 x5.toNatClampNeg)) - ((u0.1 6) * x10))), (0, .ref h0), (1, .int x1), (2, .int x2), (3, .int x3), (5, .int x5), (6, .int x6), (7, .int x7), (8, .int x8), (9, .int x9), (10, .int x10)]) hx hb dX10_shortOf_223 hl (by decide) rfl (fun ls hl => ?_)
        refine lv_iinc (v := x8 + 1) (lv' := [(8, .int (x8 + 1)), (4, .int x4), (11, .int ((((x9 + (u0.2 5 x5.toNatClampNeg)) - 1) / (u0.2 5 x5.toNatClampNeg)) - ((u0.1 6) * x10))), (0, .ref h0), (1, .int x1), (2, .int x2), (3, .int x3), (5, .int x5), (6, .int x6), (7, .int x7), (9, .int x9), (10, .int x10)]) hx hb dX10_shortOf_225 hl (k := 9) rfl rfl (by decide) rfl (fun ls hl => ?_)
        refine lv_goto (tgt := 56) hx hb dX10_shortOf_228 (by decide) ?_
        exact hk_56 u0 x1 x2 x3 x4 x5 x6 x7 (x8 + 1) hf _ _ ls hP hD hS (lv_sub hl [3, 4, 5, 6, 1, 7, 8, 9, 0] rfl)
      · have hf := op_neg c_213 hf
        refine lv_iload hx hb dX10_shortOf_216 (lv_at hl 0 rfl) ?_
        refine lv_goto (tgt := 223) hx hb dX10_shortOf_218 (by decide) ?_
        refine lv_istore (lv' := [(4, .int ((((x9 + (u0.2 5 x5.toNatClampNeg)) - 1) / (u0.2 5 x5.toNatClampNeg)) - ((u0.1 6) * x10))), (11, .int ((((x9 + (u0.2 5 x5.toNatClampNeg)) - 1) / (u0.2 5 x5.toNatClampNeg)) - ((u0.1 6) * x10))), (0, .ref h0), (1, .int x1), (2, .int x2), (3, .int x3), (5, .int x5), (6, .int x6), (7, .int x7), (8, .int x8), (9, .int x9), (10, .int x10)]) hx hb dX10_shortOf_223 hl (by decide) rfl (fun ls hl => ?_)
        refine lv_iinc (v := x8 + 1) (lv' := [(8, .int (x8 + 1)), (4, .int ((((x9 + (u0.2 5 x5.toNatClampNeg)) - 1) / (u0.2 5 x5.toNatClampNeg)) - ((u0.1 6) * x10))), (11, .int ((((x9 + (u0.2 5 x5.toNatClampNeg)) - 1) / (u0.2 5 x5.toNatClampNeg)) - ((u0.1 6) * x10))), (0, .ref h0), (1, .int x1), (2, .int x2), (3, .int x3), (5, .int x5), (6, .int x6), (7, .int x7), (9, .int x9), (10, .int x10)]) hx hb dX10_shortOf_225 hl (k := 9) rfl rfl (by decide) rfl (fun ls hl => ?_)
        refine lv_goto (tgt := 56) hx hb dX10_shortOf_228 (by decide) ?_
        exact hk_56 u0 x1 x2 x3 ((((x9 + (u0.2 5 x5.toNatClampNeg)) - 1) / (u0.2 5 x5.toNatClampNeg)) - ((u0.1 6) * x10)) x5 x6 x7 (x8 + 1) hf _ _ ls hP hD hS (lv_sub hl [3, 4, 5, 6, 1, 7, 8, 9, 0] rfl)
    · have hf := op_neg c_142 hf
      refine lv_iload hx hb dX10_shortOf_145 (lv_at hl 10 rfl) ?_
      refine lv_aload_n hx hb dX10_shortOf_147 rfl (lv_at hl 0 rfl) ?_
      refine lv_iload hx hb dX10_shortOf_148 (lv_at hl 11 rfl) ?_
      refine lv_iload_n hx hb dX10_shortOf_150 rfl (lv_at hl 3 rfl) ?_
      refine lv_iload_n hx hb dX10_shortOf_151 rfl (lv_at hl 2 rfl) ?_
      obtain ⟨q_152, hc_152, hf⟩ := op_bind hf
      refine g_callVi (As := [.int x11, .int x3, .int x2]) (rest := [.int x10]) (w2 := w10 cy h0 a0 u0) ⟨hx, hb, hml, hown, hts⟩ (c_X10_stepAt l D cy h0 a0 u0 _ fu x11 x3 x2 _ hc_152) (cwV 3 hts (gi_V ml_RX10_282 im_X10_stepAt se_X10_stepAt in_RX10 cd_X10_stepAt) rfl rfl rfl hdX10_stepAt ⟨Nat.le_of_ble_eq_true rfl, Nat.le_of_ble_eq_true rfl⟩) (va_recv hK hP (ci := 9) (q0 := 0) rfl rfl) rfl hl.1 rfl (Nat.le_of_ble_eq_true rfl) dX10_shortOf_152 hK hP hD hS hA [0, 1, 2, 3, 4, 5, 6, 7, 8, 9, 10, 11, 12, 13, 14, 15, 16, 17, 18, 19, 20, 21, 22, 23, 24, 25, 26, 27, 28, 29] [] [0, 1, 2, 3, 4, 5, 6, 7, 8, 9, 10, 11, 12, 13, 14, 15, 16, 17, 18, 19, 20, 21, 22, 23, 24, 25, 26, 27, 28, 29] rfl rfl rfl rfl (by decide) rfl rfl (fun H locs hP hD hS => ?_)
      refine lv_iload hx hb dX10_shortOf_155 (lv_at hl 6 rfl) ?_
      refine lv_imul hx hb dX10_shortOf_157 ?_
      refine lv_iload_n hx hb dX10_shortOf_158 rfl (lv_at hl 2 rfl) ?_
      obtain ⟨hg_159, hf⟩ := op_if hf
      refine lv_idiv hx hb dX10_shortOf_159 (nz_ne hg_159) ?_
      refine lv_iload hx hb dX10_shortOf_160 (lv_at hl 8 rfl) ?_
      refine lv_icmp_ne (tgt := 169) hx hb dX10_shortOf_162 (by decide) (fun c_162 => ?_) (fun c_162 => ?_)
      · have hf := op_neg c_162 hf
        refine lv_iconst (v := 0) hx hb dX10_shortOf_169 (by decide) ?_
        exact b_X10_shortOf_L170 l D cy h0 a0 fu out C hA hK k_28 hk_28 k_56 hk_56 (f_X10_shortOf_L139 k_28 k_56 fu n_139) ih_139 u0 x1 x2 x3 x4 x5 x6 x7 x8 x9 x11 0 x10 hf _ _ ls hP hD hS (lv_sub hl [0, 1, 2, 3, 4, 5, 6, 7, 8, 9, 11] rfl)
      · have hf := op_pos c_162 hf
        refine lv_iconst (v := 1) hx hb dX10_shortOf_165 (by decide) ?_
        refine lv_goto (tgt := 170) hx hb dX10_shortOf_166 (by decide) ?_
        exact b_X10_shortOf_L170 l D cy h0 a0 fu out C hA hK k_28 hk_28 k_56 hk_56 (f_X10_shortOf_L139 k_28 k_56 fu n_139) ih_139 u0 x1 x2 x3 x4 x5 x6 x7 x8 x9 x11 1 x10 hf _ _ ls hP hD hS (lv_sub hl [0, 1, 2, 3, 4, 5, 6, 7, 8, 9, 11] rfl)
def f_X10_shortOf_L72 (k_28 : St → Int32 → Int32 → Int32 → Int32 → Int32 → Option (Int32 × St)) (k_56 : St → Int32 → Int32 → Int32 → Int32 → Int32 → Int32 → Int32 → Int32 → Option (Int32 × St)) (fu : Nat)  : Nat → St → Int32 → Int32 → Int32 → Int32 → Int32 → Int32 → Int32 → Int32 → Int32 → Int32 → Option (Int32 × St)
  | 0, _, _, _, _, _, _, _, _, _, _, _ => none
  | n_72 + 1, u0, x1, x2, x3, x4, x5, x6, x7, x8, x9, x10 => if ((2 * x8) + 2) ≤ x10 then (f_X10_shortOf_L139 k_28 k_56 fu fu u0 x1 x2 x3 x4 x5 x6 x7 x8 x9 0 0) else (if inb x10 12 = true then (if (u0.2 31 x10.toNatClampNeg) ≤ 0 then (f_X10_shortOf_L112 k_28 k_56 (f_X10_shortOf_L72 k_28 k_56 fu n_72) fu u0 x1 x2 x3 x4 x5 x6 x7 x8 x10 0 x9) else (if inb x10 12 = true then ((f_X10_rowLength fu u0 x7 (u0.2 31 x10.toNatClampNeg)).bind (fun q_105 => f_X10_shortOf_L112 k_28 k_56 (f_X10_shortOf_L72 k_28 k_56 fu n_72) fu u0 x1 x2 x3 x4 x5 x6 x7 x8 x10 q_105 x9)) else none)) else none)
set_option maxHeartbeats 4000000 in
set_option maxRecDepth 100000 in
theorem b_X10_shortOf_L72 {p : Program} {e : Env} {s : State} {m : MethodId} {args : Array Value} {below : List Frame} {meth : Method} {c : Code} {A : Nat → Prop} (l : Launch) (D : va_G) (cy : Nat → ClassId) (h0 : Nat) (a0 : Nat → Nat) (fu : Nat) (out : Int32 × St) (C : gC p s m args meth c (WS yX10_shortOf cX10_shortOf 12 (some .int)) cX10_shortOf 12 (some .int) RX10) (hA : ∀ q : Nat, s.heap.size ≤ q → A q) (hK : va_K D vwCl (TY cy) s) (k_28 : St → Int32 → Int32 → Int32 → Int32 → Int32 → Option (Int32 × St)) (hk_28 : ∀ (u0 : St) (x1 : Int32) (x2 : Int32) (x3 : Int32) (x4 : Int32) (x5 : Int32), k_28 u0 x1 x2 x3 x4 x5 = some out → ∀ (H : Heap) (locs : List Loc) (ls : Array Slot), va_P D vwCl (w10 cy h0 a0 u0) H → va_D A (w10 cy h0 a0 u0) → va_S A s.heap H locs → lv_has ls 12 [(0, .ref h0), (1, .int x1), (2, .int x2), (3, .int x3), (4, .int x4), (5, .int x5)] → W p l e ({ frames := 6, cells := 0, slots := 0, locals := 153 } : Room) s m args below meth c H locs 0 0 (MQ below (gQi D cy A out.1 (w10 cy h0 a0 out.2)) args s 0 0 A) (F0 m 28 ls [])) (k_56 : St → Int32 → Int32 → Int32 → Int32 → Int32 → Int32 → Int32 → Int32 → Option (Int32 × St)) (hk_56 : ∀ (u0 : St) (x1 : Int32) (x2 : Int32) (x3 : Int32) (x4 : Int32) (x5 : Int32) (x6 : Int32) (x7 : Int32) (x8 : Int32), k_56 u0 x1 x2 x3 x4 x5 x6 x7 x8 = some out → ∀ (H : Heap) (locs : List Loc) (ls : Array Slot), va_P D vwCl (w10 cy h0 a0 u0) H → va_D A (w10 cy h0 a0 u0) → va_S A s.heap H locs → lv_has ls 12 [(0, .ref h0), (1, .int x1), (2, .int x2), (3, .int x3), (4, .int x4), (5, .int x5), (6, .int x6), (7, .int x7), (8, .int x8)] → W p l e ({ frames := 6, cells := 0, slots := 0, locals := 153 } : Room) s m args below meth c H locs 0 0 (MQ below (gQi D cy A out.1 (w10 cy h0 a0 out.2)) args s 0 0 A) (F0 m 56 ls [])) :
    ∀ (n_72 : Nat), ∀ (u0 : St) (x1 : Int32) (x2 : Int32) (x3 : Int32) (x4 : Int32) (x5 : Int32) (x6 : Int32) (x7 : Int32) (x8 : Int32) (x9 : Int32) (x10 : Int32), f_X10_shortOf_L72 k_28 k_56 fu n_72 u0 x1 x2 x3 x4 x5 x6 x7 x8 x9 x10 = some out → ∀ (H : Heap) (locs : List Loc) (ls : Array Slot), va_P D vwCl (w10 cy h0 a0 u0) H → va_D A (w10 cy h0 a0 u0) → va_S A s.heap H locs → lv_has ls 12 [(0, .ref h0), (1, .int x1), (2, .int x2), (3, .int x3), (4, .int x4), (5, .int x5), (6, .int x6), (7, .int x7), (8, .int x8), (9, .int x9), (10, .int x10)] → W p l e ({ frames := 6, cells := 0, slots := 0, locals := 153 } : Room) s m args below meth c H locs 0 0 (MQ below (gQi D cy A out.1 (w10 cy h0 a0 out.2)) args s 0 0 A) (F0 m 72 ls []) := by
  obtain ⟨hx, hb, hr, hml, hown, hts, hlk⟩ := id C
  have hown : s.vm.findClass RX10 = some m.cls := hown
  have hk_80 := hts _ (List.mem_cons_of_mem _ fl_RX10_80)
  intro n_72
  induction n_72 with
  | zero => intro u0 x1 x2 x3 x4 x5 x6 x7 x8 x9 x10 hf; exact op_no hf
  | succ n_72 ih_72 =>
    intro u0 x1 x2 x3 x4 x5 x6 x7 x8 x9 x10 hf H locs ls hP hD hS hl
    rw [f_X10_shortOf_L72] at hf
    refine lv_iload hx hb dX10_shortOf_72 (lv_at hl 10 rfl) ?_
    refine lv_iconst (v := 2) hx hb dX10_shortOf_74 (by decide) ?_
    refine lv_iload hx hb dX10_shortOf_75 (lv_at hl 8 rfl) ?_
    refine lv_imul hx hb dX10_shortOf_77 ?_
    refine lv_iconst (v := 2) hx hb dX10_shortOf_78 (by decide) ?_
    refine lv_iadd hx hb dX10_shortOf_79 ?_
    refine lv_icmp_ge (tgt := 133) hx hb dX10_shortOf_80 (by decide) (fun c_80 => ?_) (fun c_80 => ?_)
    · have hf := op_pos c_80 hf
      refine lv_iconst (v := 0) hx hb dX10_shortOf_133 (by decide) ?_
      refine lv_istore (lv' := [(10, .int 0), (0, .ref h0), (1, .int x1), (2, .int x2), (3, .int x3), (4, .int x4), (5, .int x5), (6, .int x6), (7, .int x7), (8, .int x8), (9, .int x9)]) hx hb dX10_shortOf_134 hl (by decide) rfl (fun ls hl => ?_)
      refine lv_iconst (v := 0) hx hb dX10_shortOf_136 (by decide) ?_
      refine lv_istore (lv' := [(11, .int 0), (10, .int 0), (0, .ref h0), (1, .int x1), (2, .int x2), (3, .int x3), (4, .int x4), (5, .int x5), (6, .int x6), (7, .int x7), (8, .int x8), (9, .int x9)]) hx hb dX10_shortOf_137 hl (by decide) rfl (fun ls hl => ?_)
      exact b_X10_shortOf_L139 l D cy h0 a0 fu out C hA hK k_28 hk_28 k_56 hk_56 fu u0 x1 x2 x3 x4 x5 x6 x7 x8 x9 0 0 hf _ _ ls hP hD hS (lv_sub hl [2, 3, 4, 5, 6, 7, 8, 9, 10, 11, 1, 0] rfl)
    · have hf := op_neg c_80 hf
      refine lv_iload hx hb dX10_shortOf_83 (lv_at hl 9 rfl) ?_
      refine lv_aload_n hx hb dX10_shortOf_85 rfl (lv_at hl 0 rfl) ?_
      refine va_get (ci := 9) (v := .ref (a0 31)) (C := RX10) (T := TX10) (N := 56) hx hb hts (fun w h => List.mem_cons_of_mem _ (inX10 w h)) hown hK hP 0 rfl rfl 31 (by decide) hk_80 (fun _ h9 => h9) rfl dX10_shortOf_86 ?_
      refine lv_iload hx hb dX10_shortOf_89 (lv_at hl 10 rfl) ?_
      obtain ⟨hg_91, hf⟩ := op_if hf
      refine va_iald (f := u0.2 31) hx hb hK hP 20 0 rfl rfl (inb_in hg_91) dX10_shortOf_91 ?_
      refine lv_if_le (tgt := 111) hx hb dX10_shortOf_92 (by decide) (fun c_92 => ?_) (fun c_92 => ?_)
      · have hf := op_pos c_92 hf
        refine lv_iconst (v := 0) hx hb dX10_shortOf_111 (by decide) ?_
        exact b_X10_shortOf_L112 l D cy h0 a0 fu out C hA hK k_28 hk_28 k_56 hk_56 (f_X10_shortOf_L72 k_28 k_56 fu n_72) ih_72 u0 x1 x2 x3 x4 x5 x6 x7 x8 x10 0 x9 hf _ _ ls hP hD hS (lv_sub hl [0, 1, 2, 3, 4, 5, 6, 7, 8, 10] rfl)
      · have hf := op_neg c_92 hf
        refine lv_aload_n hx hb dX10_shortOf_95 rfl (lv_at hl 0 rfl) ?_
        refine lv_iload hx hb dX10_shortOf_96 (lv_at hl 7 rfl) ?_
        refine lv_aload_n hx hb dX10_shortOf_98 rfl (lv_at hl 0 rfl) ?_
        refine va_get (ci := 9) (v := .ref (a0 31)) (C := RX10) (T := TX10) (N := 56) hx hb hts (fun w h => List.mem_cons_of_mem _ (inX10 w h)) hown hK hP 0 rfl rfl 31 (by decide) hk_80 (fun _ h9 => h9) rfl dX10_shortOf_99 ?_
        refine lv_iload hx hb dX10_shortOf_102 (lv_at hl 10 rfl) ?_
        obtain ⟨hg_104, hf⟩ := op_if hf
        refine va_iald (f := u0.2 31) hx hb hK hP 20 0 rfl rfl (inb_in hg_104) dX10_shortOf_104 ?_
        obtain ⟨q_105, hc_105, hf⟩ := op_bind hf
        refine g_callVi (As := [.int x7, .int (u0.2 31 x10.toNatClampNeg)]) (rest := [.int x9]) (w2 := w10 cy h0 a0 u0) ⟨hx, hb, hml, hown, hts⟩ (c_X10_rowLength l D cy h0 a0 u0 _ fu x7 (u0.2 31 x10.toNatClampNeg) _ hc_105) (cwV 2 hts (gi_V ml_RX10_122 im_X10_rowLength se_X10_rowLength in_RX10 cd_X10_rowLength) rfl rfl rfl hdX10_rowLength ⟨Nat.le_of_ble_eq_true rfl, Nat.le_of_ble_eq_true rfl⟩) (va_recv hK hP (ci := 9) (q0 := 0) rfl rfl) rfl hl.1 rfl (Nat.le_of_ble_eq_true rfl) dX10_shortOf_105 hK hP hD hS hA [0, 1, 2, 3, 4, 5, 6, 7, 8, 9, 10, 11, 12, 13, 14, 15, 16, 17, 18, 19, 20, 21, 22, 23, 24, 25, 26, 27, 28, 29] [] [0, 1, 2, 3, 4, 5, 6, 7, 8, 9, 10, 11, 12, 13, 14, 15, 16, 17, 18, 19, 20, 21, 22, 23, 24, 25, 26, 27, 28, 29] rfl rfl rfl rfl (by decide) rfl rfl (fun H locs hP hD hS => ?_)
        refine lv_goto (tgt := 112) hx hb dX10_shortOf_108 (by decide) ?_
        exact b_X10_shortOf_L112 l D cy h0 a0 fu out C hA hK k_28 hk_28 k_56 hk_56 (f_X10_shortOf_L72 k_28 k_56 fu n_72) ih_72 u0 x1 x2 x3 x4 x5 x6 x7 x8 x10 q_105 x9 hf _ _ ls hP hD hS (lv_sub hl [0, 1, 2, 3, 4, 5, 6, 7, 8, 10] rfl)
def f_X10_shortOf_L56 (k_28 : St → Int32 → Int32 → Int32 → Int32 → Int32 → Option (Int32 × St)) (fu : Nat)  : Nat → St → Int32 → Int32 → Int32 → Int32 → Int32 → Int32 → Int32 → Int32 → Option (Int32 × St)
  | 0, _, _, _, _, _, _, _, _, _ => none
  | n_56 + 1, u0, x1, x2, x3, x4, x5, x6, x7, x8 => if x6 ≤ x8 then (k_28 u0 x1 x2 x3 x4 (x5 + 1)) else (f_X10_shortOf_L72 k_28 (f_X10_shortOf_L56 k_28 fu n_56) fu fu u0 x1 x2 x3 x4 x5 x6 x7 x8 0 (2 * x8))
set_option maxHeartbeats 4000000 in
set_option maxRecDepth 100000 in
theorem b_X10_shortOf_L56 {p : Program} {e : Env} {s : State} {m : MethodId} {args : Array Value} {below : List Frame} {meth : Method} {c : Code} {A : Nat → Prop} (l : Launch) (D : va_G) (cy : Nat → ClassId) (h0 : Nat) (a0 : Nat → Nat) (fu : Nat) (out : Int32 × St) (C : gC p s m args meth c (WS yX10_shortOf cX10_shortOf 12 (some .int)) cX10_shortOf 12 (some .int) RX10) (hA : ∀ q : Nat, s.heap.size ≤ q → A q) (hK : va_K D vwCl (TY cy) s) (k_28 : St → Int32 → Int32 → Int32 → Int32 → Int32 → Option (Int32 × St)) (hk_28 : ∀ (u0 : St) (x1 : Int32) (x2 : Int32) (x3 : Int32) (x4 : Int32) (x5 : Int32), k_28 u0 x1 x2 x3 x4 x5 = some out → ∀ (H : Heap) (locs : List Loc) (ls : Array Slot), va_P D vwCl (w10 cy h0 a0 u0) H → va_D A (w10 cy h0 a0 u0) → va_S A s.heap H locs → lv_has ls 12 [(0, .ref h0), (1, .int x1), (2, .int x2), (3, .int x3), (4, .int x4), (5, .int x5)] → W p l e ({ frames := 6, cells := 0, slots := 0, locals := 153 } : Room) s m args below meth c H locs 0 0 (MQ below (gQi D cy A out.1 (w10 cy h0 a0 out.2)) args s 0 0 A) (F0 m 28 ls [])) :
    ∀ (n_56 : Nat), ∀ (u0 : St) (x1 : Int32) (x2 : Int32) (x3 : Int32) (x4 : Int32) (x5 : Int32) (x6 : Int32) (x7 : Int32) (x8 : Int32), f_X10_shortOf_L56 k_28 fu n_56 u0 x1 x2 x3 x4 x5 x6 x7 x8 = some out → ∀ (H : Heap) (locs : List Loc) (ls : Array Slot), va_P D vwCl (w10 cy h0 a0 u0) H → va_D A (w10 cy h0 a0 u0) → va_S A s.heap H locs → lv_has ls 12 [(0, .ref h0), (1, .int x1), (2, .int x2), (3, .int x3), (4, .int x4), (5, .int x5), (6, .int x6), (7, .int x7), (8, .int x8)] → W p l e ({ frames := 6, cells := 0, slots := 0, locals := 153 } : Room) s m args below meth c H locs 0 0 (MQ below (gQi D cy A out.1 (w10 cy h0 a0 out.2)) args s 0 0 A) (F0 m 56 ls []) := by
  obtain ⟨hx, hb, hr, hml, hown, hts, hlk⟩ := id C
  have hown : s.vm.findClass RX10 = some m.cls := hown
  intro n_56
  induction n_56 with
  | zero => intro u0 x1 x2 x3 x4 x5 x6 x7 x8 hf; exact op_no hf
  | succ n_56 ih_56 =>
    intro u0 x1 x2 x3 x4 x5 x6 x7 x8 hf H locs ls hP hD hS hl
    rw [f_X10_shortOf_L56] at hf
    refine lv_iload hx hb dX10_shortOf_56 (lv_at hl 8 rfl) ?_
    refine lv_iload hx hb dX10_shortOf_58 (lv_at hl 6 rfl) ?_
    refine lv_icmp_ge (tgt := 231) hx hb dX10_shortOf_60 (by decide) (fun c_60 => ?_) (fun c_60 => ?_)
    · have hf := op_pos c_60 hf
      refine lv_iinc (v := x5 + 1) (lv' := [(5, .int (x5 + 1)), (0, .ref h0), (1, .int x1), (2, .int x2), (3, .int x3), (4, .int x4), (6, .int x6), (7, .int x7), (8, .int x8)]) hx hb dX10_shortOf_231 hl (k := 5) rfl rfl (by decide) rfl (fun ls hl => ?_)
      refine lv_goto (tgt := 28) hx hb dX10_shortOf_234 (by decide) ?_
      exact hk_28 u0 x1 x2 x3 x4 (x5 + 1) hf _ _ ls hP hD hS (lv_sub hl [1, 2, 3, 4, 5, 0] rfl)
    · have hf := op_neg c_60 hf
      refine lv_iconst (v := 0) hx hb dX10_shortOf_63 (by decide) ?_
      refine lv_istore (lv' := [(9, .int 0), (0, .ref h0), (1, .int x1), (2, .int x2), (3, .int x3), (4, .int x4), (5, .int x5), (6, .int x6), (7, .int x7), (8, .int x8)]) hx hb dX10_shortOf_64 hl (by decide) rfl (fun ls hl => ?_)
      refine lv_iconst (v := 2) hx hb dX10_shortOf_66 (by decide) ?_
      refine lv_iload hx hb dX10_shortOf_67 (lv_at hl 9 rfl) ?_
      refine lv_imul hx hb dX10_shortOf_69 ?_
      refine lv_istore (lv' := [(10, .int (2 * x8)), (9, .int 0), (0, .ref h0), (1, .int x1), (2, .int x2), (3, .int x3), (4, .int x4), (5, .int x5), (6, .int x6), (7, .int x7), (8, .int x8)]) hx hb dX10_shortOf_70 hl (by decide) rfl (fun ls hl => ?_)
      exact b_X10_shortOf_L72 l D cy h0 a0 fu out C hA hK k_28 hk_28 (f_X10_shortOf_L56 k_28 fu n_56) ih_56 fu u0 x1 x2 x3 x4 x5 x6 x7 x8 0 (2 * x8) hf _ _ ls hP hD hS (lv_sub hl [2, 3, 4, 5, 6, 7, 8, 9, 10, 1, 0] rfl)
def f_X10_shortOf_L28  (fu : Nat)  : Nat → St → Int32 → Int32 → Int32 → Int32 → Int32 → Option (Int32 × St)
  | 0, _, _, _, _, _, _ => none
  | n_28 + 1, u0, x1, x2, x3, x4, x5 => if (u0.1 3) ≤ x5 then (some (x4, u0)) else ((f_X10_layTongue fu u0 x1 x5).bind (fun q_41 => f_X10_shortOf_L56 (f_X10_shortOf_L28 fu n_28) fu fu q_41 x1 x2 x3 x4 x5 (q_41.1 32) 0 0))
set_option maxHeartbeats 4000000 in
set_option maxRecDepth 100000 in
theorem b_X10_shortOf_L28 {p : Program} {e : Env} {s : State} {m : MethodId} {args : Array Value} {below : List Frame} {meth : Method} {c : Code} {A : Nat → Prop} (l : Launch) (D : va_G) (cy : Nat → ClassId) (h0 : Nat) (a0 : Nat → Nat) (fu : Nat) (out : Int32 × St) (C : gC p s m args meth c (WS yX10_shortOf cX10_shortOf 12 (some .int)) cX10_shortOf 12 (some .int) RX10) (hA : ∀ q : Nat, s.heap.size ≤ q → A q) (hK : va_K D vwCl (TY cy) s)  :
    ∀ (n_28 : Nat), ∀ (u0 : St) (x1 : Int32) (x2 : Int32) (x3 : Int32) (x4 : Int32) (x5 : Int32), f_X10_shortOf_L28 fu n_28 u0 x1 x2 x3 x4 x5 = some out → ∀ (H : Heap) (locs : List Loc) (ls : Array Slot), va_P D vwCl (w10 cy h0 a0 u0) H → va_D A (w10 cy h0 a0 u0) → va_S A s.heap H locs → lv_has ls 12 [(0, .ref h0), (1, .int x1), (2, .int x2), (3, .int x3), (4, .int x4), (5, .int x5)] → W p l e ({ frames := 6, cells := 0, slots := 0, locals := 153 } : Room) s m args below meth c H locs 0 0 (MQ below (gQi D cy A out.1 (w10 cy h0 a0 out.2)) args s 0 0 A) (F0 m 28 ls []) := by
  obtain ⟨hx, hb, hr, hml, hown, hts, hlk⟩ := id C
  have hown : s.vm.findClass RX10 = some m.cls := hown
  have hk_13 := hts _ (List.mem_cons_of_mem _ fl_RX10_13)
  have hk_133 := hts _ (List.mem_cons_of_mem _ fl_RX10_133)
  intro n_28
  induction n_28 with
  | zero => intro u0 x1 x2 x3 x4 x5 hf; exact op_no hf
  | succ n_28 ih_28 =>
    intro u0 x1 x2 x3 x4 x5 hf H locs ls hP hD hS hl
    rw [f_X10_shortOf_L28] at hf
    refine lv_iload hx hb dX10_shortOf_28 (lv_at hl 5 rfl) ?_
    refine lv_aload_n hx hb dX10_shortOf_30 rfl (lv_at hl 0 rfl) ?_
    refine va_get (ci := 9) (v := .int (u0.1 3)) (C := RX10) (T := TX10) (N := 56) hx hb hts (fun w h => List.mem_cons_of_mem _ (inX10 w h)) hown hK hP 0 rfl rfl 3 (by decide) hk_13 (fun _ h9 => h9) rfl dX10_shortOf_31 ?_
    refine lv_icmp_ge (tgt := 237) hx hb dX10_shortOf_34 (by decide) (fun c_34 => ?_) (fun c_34 => ?_)
    · have hf := op_pos c_34 hf
      refine lv_iload hx hb dX10_shortOf_237 (lv_at hl 4 rfl) ?_
      rw [← Option.some.inj hf]
      exact g_iret hx hb hr hlk hK hP hD hS dX10_shortOf_239
    · have hf := op_neg c_34 hf
      refine lv_aload_n hx hb dX10_shortOf_37 rfl (lv_at hl 0 rfl) ?_
      refine lv_iload_n hx hb dX10_shortOf_38 rfl (lv_at hl 1 rfl) ?_
      refine lv_iload hx hb dX10_shortOf_39 (lv_at hl 5 rfl) ?_
      obtain ⟨q_41, hc_41, hf⟩ := op_bind hf
      refine g_callVv (As := [.int x1, .int x5]) (rest := []) (w2 := w10 cy h0 a0 q_41) ⟨hx, hb, hml, hown, hts⟩ (c_X10_layTongue l D cy h0 a0 u0 _ fu x1 x5 _ hc_41) (cwV 2 hts (gi_V ml_RX10_268 im_X10_layTongue se_X10_layTongue in_RX10 cd_X10_layTongue) rfl rfl rfl hdX10_layTongue ⟨Nat.le_of_ble_eq_true rfl, Nat.le_of_ble_eq_true rfl⟩) (va_recv hK hP (ci := 9) (q0 := 0) rfl rfl) rfl hl.1 rfl (Nat.le_of_ble_eq_true rfl) dX10_shortOf_41 hK hP hD hS hA [0, 1, 2, 3, 4, 5, 6, 7, 8, 9, 10, 11, 12, 13, 14, 15, 16, 17, 18, 19, 20, 21, 22, 23, 24, 25, 26, 27, 28, 29] [] [0, 1, 2, 3, 4, 5, 6, 7, 8, 9, 10, 11, 12, 13, 14, 15, 16, 17, 18, 19, 20, 21, 22, 23, 24, 25, 26, 27, 28, 29] rfl rfl rfl rfl (by decide) rfl rfl (fun H locs hP hD hS => ?_)
      refine lv_aload_n hx hb dX10_shortOf_44 rfl (lv_at hl 0 rfl) ?_
      refine va_get (ci := 9) (v := .int (q_41.1 32)) (C := RX10) (T := TX10) (N := 56) hx hb hts (fun w h => List.mem_cons_of_mem _ (inX10 w h)) hown hK hP 0 rfl rfl 32 (by decide) hk_133 (fun _ h9 => h9) rfl dX10_shortOf_45 ?_
      refine lv_istore (lv' := [(6, .int (q_41.1 32)), (0, .ref h0), (1, .int x1), (2, .int x2), (3, .int x3), (4, .int x4), (5, .int x5)]) hx hb dX10_shortOf_48 hl (by decide) rfl (fun ls hl => ?_)
      refine lv_iconst (v := 0) hx hb dX10_shortOf_50 (by decide) ?_
      refine lv_istore (lv' := [(7, .int 0), (6, .int (q_41.1 32)), (0, .ref h0), (1, .int x1), (2, .int x2), (3, .int x3), (4, .int x4), (5, .int x5)]) hx hb dX10_shortOf_51 hl (by decide) rfl (fun ls hl => ?_)
      refine lv_iconst (v := 0) hx hb dX10_shortOf_53 (by decide) ?_
      refine lv_istore (lv' := [(8, .int 0), (7, .int 0), (6, .int (q_41.1 32)), (0, .ref h0), (1, .int x1), (2, .int x2), (3, .int x3), (4, .int x4), (5, .int x5)]) hx hb dX10_shortOf_54 hl (by decide) rfl (fun ls hl => ?_)
      exact b_X10_shortOf_L56 l D cy h0 a0 fu out C hA hK (f_X10_shortOf_L28 fu n_28) ih_28 fu q_41 x1 x2 x3 x4 x5 (q_41.1 32) 0 0 hf _ _ ls hP hD hS (lv_sub hl [3, 4, 5, 6, 7, 8, 2, 1, 0] rfl)
def f_X10_shortOf (fu : Nat)  (s0 : St) (p1 : Int32) : Option (Int32 × St) := (f_X10_steps fu s0 p1).bind (fun q_2 => if inb p1 40 = true then ((f_X10_endOf fu q_2.2 (q_2.2.2 11 p1.toNatClampNeg)).bind (fun q_15 => (f_X10_bars fu q_2.2 p1 q_15).bind (fun q_18 => f_X10_shortOf_L28 fu fu q_2.2 p1 q_2.1 q_18 0 0))) else none)
theorem hdX10_shortOf : yX10_shortOf.cls = RX10 ∧ yX10_shortOf.cls ≠ "java/lang/invoke/MethodHandle" ∧ yX10_shortOf.cls ≠ "java/lang/invoke/VarHandle" ∧ (parseMethodDescriptor yX10_shortOf.desc).map (fun d => d.parameters.length) = some 1 := by decide +kernel
set_option maxHeartbeats 4000000 in
set_option maxRecDepth 100000 in
theorem c_X10_shortOf (l : Launch) (D : va_G) (cy : Nat → ClassId) (h0 : Nat) (a0 : Nat → Nat) (s0 : St) (sz fu : Nat) (p1 : Int32) (out : Int32 × St) (hf : f_X10_shortOf fu s0 p1 = some out) :
    Met l yX10_shortOf (WS yX10_shortOf cX10_shortOf 12 (some .int)) ({ frames := 6, cells := 0, slots := 0, locals := 153 } : Room) (va_Pc [.ref h0, .int p1] (gP D cy sz (w10 cy h0 a0 s0))) ((fun A : Nat → Prop => gQi D cy A out.1 (w10 cy h0 a0 out.2)) (va_A (w10 cy h0 a0 s0) sz)) 0 0 (va_A (w10 cy h0 a0 s0) sz) := by
  refine g_met (cc := cX10_shortOf) (maxL := 12) (ret := (some .int)) (fun A : Nat → Prop => gQi D cy A out.1 (w10 cy h0 a0 out.2)) (by decide +kernel) rfl (Nat.le_of_ble_eq_true rfl) ?_
  intro p e s m below meth c A C hA hK hP hD ls hl
  obtain ⟨hx, hb, hr, hml, hown, hts, hlk⟩ := id C
  have hown : s.vm.findClass RX10 = some m.cls := hown
  have hS : va_S A s.heap s.heap [] := va_S.rf
  have hl : lv_has ls 12 [(0, .ref h0), (1, .int p1)] := hl
  have hk_32 := hts _ (List.mem_cons_of_mem _ fl_RX10_32)
  unfold f_X10_shortOf at hf
  refine lv_aload_n hx hb dX10_shortOf_0 rfl (lv_at hl 0 rfl) ?_
  refine lv_iload_n hx hb dX10_shortOf_1 rfl (lv_at hl 1 rfl) ?_
  obtain ⟨q_2, hc_2, hf⟩ := op_bind hf
  refine g_callVi (As := [.int p1]) (rest := []) (w2 := w10 cy h0 a0 q_2.2) ⟨hx, hb, hml, hown, hts⟩ (c_X10_steps l D cy h0 a0 s0 _ fu p1 _ hc_2) (cwV 1 hts (gi_V ml_RX10_272 im_X10_steps se_X10_steps in_RX10 cd_X10_steps) rfl rfl rfl hdX10_steps ⟨Nat.le_of_ble_eq_true rfl, Nat.le_of_ble_eq_true rfl⟩) (va_recv hK hP (ci := 9) (q0 := 0) rfl rfl) rfl hl.1 rfl (Nat.le_of_ble_eq_true rfl) dX10_shortOf_2 hK hP hD hS hA [0, 1, 2, 3, 4, 5, 6, 7, 8, 9, 10, 11, 12, 13, 14, 15, 16, 17, 18, 19, 20, 21, 22, 23, 24, 25, 26, 27, 28, 29] [] [0, 1, 2, 3, 4, 5, 6, 7, 8, 9, 10, 11, 12, 13, 14, 15, 16, 17, 18, 19, 20, 21, 22, 23, 24, 25, 26, 27, 28, 29] rfl rfl rfl rfl (by decide) rfl rfl (fun H locs hP hD hS => ?_)
  refine lv_istore_n (lv' := [(2, .int q_2.1), (0, .ref h0), (1, .int p1)]) hx hb dX10_shortOf_5 rfl hl (by decide) rfl (fun ls hl => ?_)
  refine lv_aload_n hx hb dX10_shortOf_6 rfl (lv_at hl 1 rfl) ?_
  refine lv_iload_n hx hb dX10_shortOf_7 rfl (lv_at hl 2 rfl) ?_
  refine lv_aload_n hx hb dX10_shortOf_8 rfl (lv_at hl 1 rfl) ?_
  refine lv_aload_n hx hb dX10_shortOf_9 rfl (lv_at hl 1 rfl) ?_
  refine va_get (ci := 9) (v := .ref (a0 11)) (C := RX10) (T := TX10) (N := 56) hx hb hts (fun w h => List.mem_cons_of_mem _ (inX10 w h)) hown hK hP 0 rfl rfl 11 (by decide) hk_32 (fun _ h9 => h9) rfl dX10_shortOf_10 ?_
  refine lv_iload_n hx hb dX10_shortOf_13 rfl (lv_at hl 2 rfl) ?_
  obtain ⟨hg_14, hf⟩ := op_if hf
  refine va_iald (f := q_2.2.2 11) hx hb hK hP 6 0 rfl rfl (inb_in hg_14) dX10_shortOf_14 ?_
  obtain ⟨q_15, hc_15, hf⟩ := op_bind hf
  refine g_callVi (As := [.int (q_2.2.2 11 p1.toNatClampNeg)]) (rest := [.int p1, .ref h0]) (w2 := w10 cy h0 a0 q_2.2) ⟨hx, hb, hml, hown, hts⟩ (c_X10_endOf l D cy h0 a0 q_2.2 _ fu (q_2.2.2 11 p1.toNatClampNeg) _ hc_15) (cwV 1 hts (gi_V ml_RX10_276 im_X10_endOf se_X10_endOf in_RX10 cd_X10_endOf) rfl rfl rfl hdX10_endOf ⟨Nat.le_of_ble_eq_true rfl, Nat.le_of_ble_eq_true rfl⟩) (va_recv hK hP (ci := 9) (q0 := 0) rfl rfl) rfl hl.1 rfl (Nat.le_of_ble_eq_true rfl) dX10_shortOf_15 hK hP hD hS hA [0, 1, 2, 3, 4, 5, 6, 7, 8, 9, 10, 11, 12, 13, 14, 15, 16, 17, 18, 19, 20, 21, 22, 23, 24, 25, 26, 27, 28, 29] [] [0, 1, 2, 3, 4, 5, 6, 7, 8, 9, 10, 11, 12, 13, 14, 15, 16, 17, 18, 19, 20, 21, 22, 23, 24, 25, 26, 27, 28, 29] rfl rfl rfl rfl (by decide) rfl rfl (fun H locs hP hD hS => ?_)
  obtain ⟨q_18, hc_18, hf⟩ := op_bind hf
  refine g_callVi (As := [.int p1, .int q_15]) (rest := []) (w2 := w10 cy h0 a0 q_2.2) ⟨hx, hb, hml, hown, hts⟩ (c_X10_bars l D cy h0 a0 q_2.2 _ fu p1 q_15 _ hc_18) (cwV 2 hts (gi_V ml_RX10_279 im_X10_bars se_X10_bars in_RX10 cd_X10_bars) rfl rfl rfl hdX10_bars ⟨Nat.le_of_ble_eq_true rfl, Nat.le_of_ble_eq_true rfl⟩) (va_recv hK hP (ci := 9) (q0 := 0) rfl rfl) rfl hl.1 rfl (Nat.le_of_ble_eq_true rfl) dX10_shortOf_18 hK hP hD hS hA [0, 1, 2, 3, 4, 5, 6, 7, 8, 9, 10, 11, 12, 13, 14, 15, 16, 17, 18, 19, 20, 21, 22, 23, 24, 25, 26, 27, 28, 29] [] [0, 1, 2, 3, 4, 5, 6, 7, 8, 9, 10, 11, 12, 13, 14, 15, 16, 17, 18, 19, 20, 21, 22, 23, 24, 25, 26, 27, 28, 29] rfl rfl rfl rfl (by decide) rfl rfl (fun H locs hP hD hS => ?_)
  refine lv_istore_n (lv' := [(3, .int q_18), (2, .int q_2.1), (0, .ref h0), (1, .int p1)]) hx hb dX10_shortOf_21 rfl hl (by decide) rfl (fun ls hl => ?_)
  refine lv_iconst (v := 0) hx hb dX10_shortOf_22 (by decide) ?_
  refine lv_istore (lv' := [(4, .int 0), (3, .int q_18), (2, .int q_2.1), (0, .ref h0), (1, .int p1)]) hx hb dX10_shortOf_23 hl (by decide) rfl (fun ls hl => ?_)
  refine lv_iconst (v := 0) hx hb dX10_shortOf_25 (by decide) ?_
  refine lv_istore (lv' := [(5, .int 0), (4, .int 0), (3, .int q_18), (2, .int q_2.1), (0, .ref h0), (1, .int p1)]) hx hb dX10_shortOf_26 hl (by decide) rfl (fun ls hl => ?_)
  exact b_X10_shortOf_L28 l D cy h0 a0 fu out C hA hK fu q_2.2 p1 q_2.1 q_18 0 0 hf _ _ ls hP hD hS (lv_sub hl [4, 5, 3, 2, 1, 0] rfl)
def f_X10_fails (fu : Nat)  (s0 : St) (p1 : Int32) : Option (Int32 × St) := some (0, sF s0 2 p1)
theorem hdX10_fails : yX10_fails.cls = RX10 ∧ yX10_fails.cls ≠ "java/lang/invoke/MethodHandle" ∧ yX10_fails.cls ≠ "java/lang/invoke/VarHandle" ∧ (parseMethodDescriptor yX10_fails.desc).map (fun d => d.parameters.length) = some 1 := by decide +kernel
set_option maxHeartbeats 4000000 in
set_option maxRecDepth 100000 in
theorem c_X10_fails (l : Launch) (D : va_G) (cy : Nat → ClassId) (h0 : Nat) (a0 : Nat → Nat) (s0 : St) (sz fu : Nat) (p1 : Int32) (out : Int32 × St) (hf : f_X10_fails fu s0 p1 = some out) :
    Met l yX10_fails (WS yX10_fails cX10_fails 2 (some .int)) ({ frames := 0, cells := 0, slots := 0, locals := 0 } : Room) (va_Pc [.ref h0, .int p1] (gP D cy sz (w10 cy h0 a0 s0))) ((fun A : Nat → Prop => gQi D cy A out.1 (w10 cy h0 a0 out.2)) (va_A (w10 cy h0 a0 s0) sz)) 0 0 (va_A (w10 cy h0 a0 s0) sz) := by
  refine g_met (cc := cX10_fails) (maxL := 2) (ret := (some .int)) (fun A : Nat → Prop => gQi D cy A out.1 (w10 cy h0 a0 out.2)) (by decide +kernel) rfl (Nat.le_of_ble_eq_true rfl) ?_
  intro p e s m below meth c A C hA hK hP hD ls hl
  obtain ⟨hx, hb, hr, hml, hown, hts, hlk⟩ := id C
  have hown : s.vm.findClass RX10 = some m.cls := hown
  have hS : va_S A s.heap s.heap [] := va_S.rf
  have hl : lv_has ls 2 [(0, .ref h0), (1, .int p1)] := hl
  have hk_113 := hts _ (List.mem_cons_of_mem _ fl_RX10_113)
  unfold f_X10_fails at hf
  refine lv_aload_n hx hb dX10_fails_0 rfl (lv_at hl 0 rfl) ?_
  refine lv_iload_n hx hb dX10_fails_1 rfl (lv_at hl 1 rfl) ?_
  refine va_put (ci := 9) (v := .int p1) (ty := tyX10 2) (C := RX10) (T := TX10) (N := 56) hx hb hts (fun w h => List.mem_cons_of_mem _ (inX10 w h)) tyX10 tyX10_ok nmX10 hown hK hP hD hS 0 rfl rfl 2 (by decide) hk_113 (fun _ h9 => h9) rfl (tyX10_ok 2 (by decide)) rfl rfl (Nat.le_of_ble_eq_true rfl) dX10_fails_2 (fun H locs hP hD hS => ?_)
  have hP : va_P D vwCl (w10 cy h0 a0 (sF s0 2 p1)) H := pP10_2 hP
  have hD : va_D A (w10 cy h0 a0 (sF s0 2 p1)) := pD10_2 hD
  refine lv_iconst (v := 0) hx hb dX10_fails_5 (by decide) ?_
  rw [← Option.some.inj hf]
  exact g_iret hx hb hr hlk hK hP hD hS dX10_fails_6
def f_X10_title_ (fu : Nat)  (s0 : St) (p1 : Int32) (p2 : Int32) : Option (Int32 × St) := (f_X10_isTitle fu (sF s0 2 0) p1).bind (fun q_7 => if q_7 = 0 then ((f_X10_fails fu (sF s0 2 0) 1).bind (fun q_15 => some (q_15.1, q_15.2))) else (if p2 = 0 then (if inb p1 40 = true then (if inb (s0.2 11 p1.toNatClampNeg) 40 = true then (some (s0.2 9 (s0.2 11 p1.toNatClampNeg).toNatClampNeg, sF s0 2 0)) else none) else none) else (if p2 = 1 then ((f_X10_steps fu (sF s0 2 0) p1).bind (fun q_70 => some (q_70.1, q_70.2))) else (if p2 = 2 then (if inb p1 40 = true then ((f_X10_endOf fu (sF s0 2 0) (s0.2 11 p1.toNatClampNeg)).bind (fun q_83 => (f_X10_bars fu (sF s0 2 0) p1 q_83).bind (fun q_86 => some (q_86, sF s0 2 0)))) else none) else (if p2 = 3 then ((f_X10_shortOf fu (sF s0 2 0) p1).bind (fun q_92 => some (q_92.1, q_92.2))) else (if p2 = 4 then (if inb (4 * p1) 160 = true then (if (s0.2 19 (4 * p1).toNatClampNeg) = 0 then (if inb ((4 * p1) + 1) 160 = true then (if (s0.2 19 ((4 * p1) + 1).toNatClampNeg) = 0 then (if inb ((4 * p1) + 2) 160 = true then (if (s0.2 19 ((4 * p1) + 2).toNatClampNeg) = 0 then (if inb ((4 * p1) + 3) 160 = true then (if (s0.2 19 ((4 * p1) + 3).toNatClampNeg) = 0 then (some (0, sF s0 2 0)) else (some (1, sF s0 2 0))) else none) else (some (1, sF s0 2 0))) else none) else (some (1, sF s0 2 0))) else none) else (some (1, sF s0 2 0))) else none) else ((f_X10_fails fu (sF s0 2 0) 2).bind (fun q_154 => some (q_154.1, q_154.2)))))))))
theorem hdX10_title_ : yX10_title_.cls = RX10 ∧ yX10_title_.cls ≠ "java/lang/invoke/MethodHandle" ∧ yX10_title_.cls ≠ "java/lang/invoke/VarHandle" ∧ (parseMethodDescriptor yX10_title_.desc).map (fun d => d.parameters.length) = some 2 := by decide +kernel
set_option maxHeartbeats 4000000 in
set_option maxRecDepth 100000 in
theorem c_X10_title_ (l : Launch) (D : va_G) (cy : Nat → ClassId) (h0 : Nat) (a0 : Nat → Nat) (s0 : St) (sz fu : Nat) (p1 : Int32) (p2 : Int32) (out : Int32 × St) (hf : f_X10_title_ fu s0 p1 p2 = some out) :
    Met l yX10_title_ (WS yX10_title_ cX10_title_ 3 (some .int)) ({ frames := 7, cells := 0, slots := 0, locals := 184 } : Room) (va_Pc [.ref h0, .int p1, .int p2] (gP D cy sz (w10 cy h0 a0 s0))) ((fun A : Nat → Prop => gQi D cy A out.1 (w10 cy h0 a0 out.2)) (va_A (w10 cy h0 a0 s0) sz)) 0 0 (va_A (w10 cy h0 a0 s0) sz) := by
  refine g_met (cc := cX10_title_) (maxL := 3) (ret := (some .int)) (fun A : Nat → Prop => gQi D cy A out.1 (w10 cy h0 a0 out.2)) (by decide +kernel) rfl (Nat.le_of_ble_eq_true rfl) ?_
  intro p e s m below meth c A C hA hK hP hD ls hl
  obtain ⟨hx, hb, hr, hml, hown, hts, hlk⟩ := id C
  have hown : s.vm.findClass RX10 = some m.cls := hown
  have hS : va_S A s.heap s.heap [] := va_S.rf
  have hl : lv_has ls 3 [(0, .ref h0), (1, .int p1), (2, .int p2)] := hl
  have hk_113 := hts _ (List.mem_cons_of_mem _ fl_RX10_113)
  have hk_26 := hts _ (List.mem_cons_of_mem _ fl_RX10_26)
  have hk_32 := hts _ (List.mem_cons_of_mem _ fl_RX10_32)
  have hk_55 := hts _ (List.mem_cons_of_mem _ fl_RX10_55)
  unfold f_X10_title_ at hf
  refine lv_aload_n hx hb dX10_title__0 rfl (lv_at hl 0 rfl) ?_
  refine lv_iconst (v := 0) hx hb dX10_title__1 (by decide) ?_
  refine va_put (ci := 9) (v := .int 0) (ty := tyX10 2) (C := RX10) (T := TX10) (N := 56) hx hb hts (fun w h => List.mem_cons_of_mem _ (inX10 w h)) tyX10 tyX10_ok nmX10 hown hK hP hD hS 0 rfl rfl 2 (by decide) hk_113 (fun _ h9 => h9) rfl (tyX10_ok 2 (by decide)) rfl rfl (Nat.le_of_ble_eq_true rfl) dX10_title__2 (fun H locs hP hD hS => ?_)
  have hP : va_P D vwCl (w10 cy h0 a0 (sF s0 2 0)) H := pP10_2 hP
  have hD : va_D A (w10 cy h0 a0 (sF s0 2 0)) := pD10_2 hD
  refine lv_aload_n hx hb dX10_title__5 rfl (lv_at hl 0 rfl) ?_
  refine lv_iload_n hx hb dX10_title__6 rfl (lv_at hl 1 rfl) ?_
  obtain ⟨q_7, hc_7, hf⟩ := op_bind hf
  refine g_callVi (As := [.int p1]) (rest := []) (w2 := w10 cy h0 a0 (sF s0 2 0)) ⟨hx, hb, hml, hown, hts⟩ (c_X10_isTitle l D cy h0 a0 (sF s0 2 0) _ fu p1 _ hc_7) (cwV 1 hts (gi_V ml_RX10_259 im_X10_isTitle se_X10_isTitle in_RX10 cd_X10_isTitle) rfl rfl rfl hdX10_isTitle ⟨Nat.le_of_ble_eq_true rfl, Nat.le_of_ble_eq_true rfl⟩) (va_recv hK hP (ci := 9) (q0 := 0) rfl rfl) rfl hl.1 rfl (Nat.le_of_ble_eq_true rfl) dX10_title__7 hK hP hD hS hA [0, 1, 2, 3, 4, 5, 6, 7, 8, 9, 10, 11, 12, 13, 14, 15, 16, 17, 18, 19, 20, 21, 22, 23, 24, 25, 26, 27, 28, 29] [] [0, 1, 2, 3, 4, 5, 6, 7, 8, 9, 10, 11, 12, 13, 14, 15, 16, 17, 18, 19, 20, 21, 22, 23, 24, 25, 26, 27, 28, 29] rfl rfl rfl rfl (by decide) rfl rfl (fun H locs hP hD hS => ?_)
  refine lv_if_ne (tgt := 19) hx hb dX10_title__10 (by decide) (fun c_10 => ?_) (fun c_10 => ?_)
  · have hf := op_neg c_10 hf
    refine lv_iload_n hx hb dX10_title__19 rfl (lv_at hl 2 rfl) ?_
    by_cases c_20_0 : p2 = 0
    · have hf := op_pos c_20_0 hf
      refine lv_tableIn (tgt := 56) (off := 36) hx hb dX10_title__20 (by rw [c_20_0]; decide) (by rw [c_20_0]; decide) (by rw [c_20_0]; decide) (by decide) ?_
      refine lv_aload_n hx hb dX10_title__56 rfl (lv_at hl 0 rfl) ?_
      refine va_get (ci := 9) (v := .ref (a0 9)) (C := RX10) (T := TX10) (N := 56) hx hb hts (fun w h => List.mem_cons_of_mem _ (inX10 w h)) hown hK hP 0 rfl rfl 9 (by decide) hk_26 (fun _ h9 => h9) rfl dX10_title__57 ?_
      refine lv_aload_n hx hb dX10_title__60 rfl (lv_at hl 0 rfl) ?_
      refine va_get (ci := 9) (v := .ref (a0 11)) (C := RX10) (T := TX10) (N := 56) hx hb hts (fun w h => List.mem_cons_of_mem _ (inX10 w h)) hown hK hP 0 rfl rfl 11 (by decide) hk_32 (fun _ h9 => h9) rfl dX10_title__61 ?_
      refine lv_iload_n hx hb dX10_title__64 rfl (lv_at hl 1 rfl) ?_
      obtain ⟨hg_65, hf⟩ := op_if hf
      refine va_iald (f := s0.2 11) hx hb hK hP 6 0 rfl rfl (inb_in hg_65) dX10_title__65 ?_
      obtain ⟨hg_66, hf⟩ := op_if hf
      refine va_iald (f := s0.2 9) hx hb hK hP 4 0 rfl rfl (inb_in hg_66) dX10_title__66 ?_
      rw [← Option.some.inj hf]
      exact g_iret hx hb hr hlk hK hP hD hS dX10_title__67
    · have hf := op_neg c_20_0 hf
      by_cases c_20_1 : p2 = 1
      · have hf := op_pos c_20_1 hf
        refine lv_tableIn (tgt := 68) (off := 48) hx hb dX10_title__20 (by rw [c_20_1]; decide) (by rw [c_20_1]; decide) (by rw [c_20_1]; decide) (by decide) ?_
        refine lv_aload_n hx hb dX10_title__68 rfl (lv_at hl 0 rfl) ?_
        refine lv_iload_n hx hb dX10_title__69 rfl (lv_at hl 1 rfl) ?_
        obtain ⟨q_70, hc_70, hf⟩ := op_bind hf
        refine g_callVi (As := [.int p1]) (rest := []) (w2 := w10 cy h0 a0 q_70.2) ⟨hx, hb, hml, hown, hts⟩ (c_X10_steps l D cy h0 a0 (sF s0 2 0) _ fu p1 _ hc_70) (cwV 1 hts (gi_V ml_RX10_272 im_X10_steps se_X10_steps in_RX10 cd_X10_steps) rfl rfl rfl hdX10_steps ⟨Nat.le_of_ble_eq_true rfl, Nat.le_of_ble_eq_true rfl⟩) (va_recv hK hP (ci := 9) (q0 := 0) rfl rfl) rfl hl.1 rfl (Nat.le_of_ble_eq_true rfl) dX10_title__70 hK hP hD hS hA [0, 1, 2, 3, 4, 5, 6, 7, 8, 9, 10, 11, 12, 13, 14, 15, 16, 17, 18, 19, 20, 21, 22, 23, 24, 25, 26, 27, 28, 29] [] [0, 1, 2, 3, 4, 5, 6, 7, 8, 9, 10, 11, 12, 13, 14, 15, 16, 17, 18, 19, 20, 21, 22, 23, 24, 25, 26, 27, 28, 29] rfl rfl rfl rfl (by decide) rfl rfl (fun H locs hP hD hS => ?_)
        rw [← Option.some.inj hf]
        exact g_iret hx hb hr hlk hK hP hD hS dX10_title__73
      · have hf := op_neg c_20_1 hf
        by_cases c_20_2 : p2 = 2
        · have hf := op_pos c_20_2 hf
          refine lv_tableIn (tgt := 74) (off := 54) hx hb dX10_title__20 (by rw [c_20_2]; decide) (by rw [c_20_2]; decide) (by rw [c_20_2]; decide) (by decide) ?_
          refine lv_aload_n hx hb dX10_title__74 rfl (lv_at hl 0 rfl) ?_
          refine lv_iload_n hx hb dX10_title__75 rfl (lv_at hl 1 rfl) ?_
          refine lv_aload_n hx hb dX10_title__76 rfl (lv_at hl 0 rfl) ?_
          refine lv_aload_n hx hb dX10_title__77 rfl (lv_at hl 0 rfl) ?_
          refine va_get (ci := 9) (v := .ref (a0 11)) (C := RX10) (T := TX10) (N := 56) hx hb hts (fun w h => List.mem_cons_of_mem _ (inX10 w h)) hown hK hP 0 rfl rfl 11 (by decide) hk_32 (fun _ h9 => h9) rfl dX10_title__78 ?_
          refine lv_iload_n hx hb dX10_title__81 rfl (lv_at hl 1 rfl) ?_
          obtain ⟨hg_82, hf⟩ := op_if hf
          refine va_iald (f := s0.2 11) hx hb hK hP 6 0 rfl rfl (inb_in hg_82) dX10_title__82 ?_
          obtain ⟨q_83, hc_83, hf⟩ := op_bind hf
          refine g_callVi (As := [.int (s0.2 11 p1.toNatClampNeg)]) (rest := [.int p1, .ref h0]) (w2 := w10 cy h0 a0 (sF s0 2 0)) ⟨hx, hb, hml, hown, hts⟩ (c_X10_endOf l D cy h0 a0 (sF s0 2 0) _ fu (s0.2 11 p1.toNatClampNeg) _ hc_83) (cwV 1 hts (gi_V ml_RX10_276 im_X10_endOf se_X10_endOf in_RX10 cd_X10_endOf) rfl rfl rfl hdX10_endOf ⟨Nat.le_of_ble_eq_true rfl, Nat.le_of_ble_eq_true rfl⟩) (va_recv hK hP (ci := 9) (q0 := 0) rfl rfl) rfl hl.1 rfl (Nat.le_of_ble_eq_true rfl) dX10_title__83 hK hP hD hS hA [0, 1, 2, 3, 4, 5, 6, 7, 8, 9, 10, 11, 12, 13, 14, 15, 16, 17, 18, 19, 20, 21, 22, 23, 24, 25, 26, 27, 28, 29] [] [0, 1, 2, 3, 4, 5, 6, 7, 8, 9, 10, 11, 12, 13, 14, 15, 16, 17, 18, 19, 20, 21, 22, 23, 24, 25, 26, 27, 28, 29] rfl rfl rfl rfl (by decide) rfl rfl (fun H locs hP hD hS => ?_)
          obtain ⟨q_86, hc_86, hf⟩ := op_bind hf
          refine g_callVi (As := [.int p1, .int q_83]) (rest := []) (w2 := w10 cy h0 a0 (sF s0 2 0)) ⟨hx, hb, hml, hown, hts⟩ (c_X10_bars l D cy h0 a0 (sF s0 2 0) _ fu p1 q_83 _ hc_86) (cwV 2 hts (gi_V ml_RX10_279 im_X10_bars se_X10_bars in_RX10 cd_X10_bars) rfl rfl rfl hdX10_bars ⟨Nat.le_of_ble_eq_true rfl, Nat.le_of_ble_eq_true rfl⟩) (va_recv hK hP (ci := 9) (q0 := 0) rfl rfl) rfl hl.1 rfl (Nat.le_of_ble_eq_true rfl) dX10_title__86 hK hP hD hS hA [0, 1, 2, 3, 4, 5, 6, 7, 8, 9, 10, 11, 12, 13, 14, 15, 16, 17, 18, 19, 20, 21, 22, 23, 24, 25, 26, 27, 28, 29] [] [0, 1, 2, 3, 4, 5, 6, 7, 8, 9, 10, 11, 12, 13, 14, 15, 16, 17, 18, 19, 20, 21, 22, 23, 24, 25, 26, 27, 28, 29] rfl rfl rfl rfl (by decide) rfl rfl (fun H locs hP hD hS => ?_)
          rw [← Option.some.inj hf]
          exact g_iret hx hb hr hlk hK hP hD hS dX10_title__89
        · have hf := op_neg c_20_2 hf
          by_cases c_20_3 : p2 = 3
          · have hf := op_pos c_20_3 hf
            refine lv_tableIn (tgt := 90) (off := 70) hx hb dX10_title__20 (by rw [c_20_3]; decide) (by rw [c_20_3]; decide) (by rw [c_20_3]; decide) (by decide) ?_
            refine lv_aload_n hx hb dX10_title__90 rfl (lv_at hl 0 rfl) ?_
            refine lv_iload_n hx hb dX10_title__91 rfl (lv_at hl 1 rfl) ?_
            obtain ⟨q_92, hc_92, hf⟩ := op_bind hf
            refine g_callVi (As := [.int p1]) (rest := []) (w2 := w10 cy h0 a0 q_92.2) ⟨hx, hb, hml, hown, hts⟩ (c_X10_shortOf l D cy h0 a0 (sF s0 2 0) _ fu p1 _ hc_92) (cwV 1 hts (gi_V ml_RX10_288 im_X10_shortOf se_X10_shortOf in_RX10 cd_X10_shortOf) rfl rfl rfl hdX10_shortOf ⟨Nat.le_of_ble_eq_true rfl, Nat.le_of_ble_eq_true rfl⟩) (va_recv hK hP (ci := 9) (q0 := 0) rfl rfl) rfl hl.1 rfl (Nat.le_of_ble_eq_true rfl) dX10_title__92 hK hP hD hS hA [0, 1, 2, 3, 4, 5, 6, 7, 8, 9, 10, 11, 12, 13, 14, 15, 16, 17, 18, 19, 20, 21, 22, 23, 24, 25, 26, 27, 28, 29] [] [0, 1, 2, 3, 4, 5, 6, 7, 8, 9, 10, 11, 12, 13, 14, 15, 16, 17, 18, 19, 20, 21, 22, 23, 24, 25, 26, 27, 28, 29] rfl rfl rfl rfl (by decide) rfl rfl (fun H locs hP hD hS => ?_)
            rw [← Option.some.inj hf]
            exact g_iret hx hb hr hlk hK hP hD hS dX10_title__95
          · have hf := op_neg c_20_3 hf
            by_cases c_20_4 : p2 = 4
            · have hf := op_pos c_20_4 hf
              refine lv_tableIn (tgt := 96) (off := 76) hx hb dX10_title__20 (by rw [c_20_4]; decide) (by rw [c_20_4]; decide) (by rw [c_20_4]; decide) (by decide) ?_
              refine lv_aload_n hx hb dX10_title__96 rfl (lv_at hl 0 rfl) ?_
              refine va_get (ci := 9) (v := .ref (a0 19)) (C := RX10) (T := TX10) (N := 56) hx hb hts (fun w h => List.mem_cons_of_mem _ (inX10 w h)) hown hK hP 0 rfl rfl 19 (by decide) hk_55 (fun _ h9 => h9) rfl dX10_title__97 ?_
              refine lv_iconst (v := 4) hx hb dX10_title__100 (by decide) ?_
              refine lv_iload_n hx hb dX10_title__101 rfl (lv_at hl 1 rfl) ?_
              refine lv_imul hx hb dX10_title__102 ?_
              obtain ⟨hg_103, hf⟩ := op_if hf
              refine va_zald (f := s0.2 19) hx hb hK hP 13 2 rfl rfl (inb_in hg_103) dX10_title__103 ?_
              refine lv_if_ne (tgt := 146) hx hb dX10_title__104 (by decide) (fun c_104 => ?_) (fun c_104 => ?_)
              · have hf := op_neg c_104 hf
                refine lv_iconst (v := 1) hx hb dX10_title__146 (by decide) ?_
                refine lv_goto (tgt := 151) hx hb dX10_title__147 (by decide) ?_
                rw [← Option.some.inj hf]
                exact g_iret hx hb hr hlk hK hP hD hS dX10_title__151
              · have hf := op_pos c_104 hf
                refine lv_aload_n hx hb dX10_title__107 rfl (lv_at hl 0 rfl) ?_
                refine va_get (ci := 9) (v := .ref (a0 19)) (C := RX10) (T := TX10) (N := 56) hx hb hts (fun w h => List.mem_cons_of_mem _ (inX10 w h)) hown hK hP 0 rfl rfl 19 (by decide) hk_55 (fun _ h9 => h9) rfl dX10_title__108 ?_
                refine lv_iconst (v := 4) hx hb dX10_title__111 (by decide) ?_
                refine lv_iload_n hx hb dX10_title__112 rfl (lv_at hl 1 rfl) ?_
                refine lv_imul hx hb dX10_title__113 ?_
                refine lv_iconst (v := 1) hx hb dX10_title__114 (by decide) ?_
                refine lv_iadd hx hb dX10_title__115 ?_
                obtain ⟨hg_116, hf⟩ := op_if hf
                refine va_zald (f := s0.2 19) hx hb hK hP 13 2 rfl rfl (inb_in hg_116) dX10_title__116 ?_
                refine lv_if_ne (tgt := 146) hx hb dX10_title__117 (by decide) (fun c_117 => ?_) (fun c_117 => ?_)
                · have hf := op_neg c_117 hf
                  refine lv_iconst (v := 1) hx hb dX10_title__146 (by decide) ?_
                  refine lv_goto (tgt := 151) hx hb dX10_title__147 (by decide) ?_
                  rw [← Option.some.inj hf]
                  exact g_iret hx hb hr hlk hK hP hD hS dX10_title__151
                · have hf := op_pos c_117 hf
                  refine lv_aload_n hx hb dX10_title__120 rfl (lv_at hl 0 rfl) ?_
                  refine va_get (ci := 9) (v := .ref (a0 19)) (C := RX10) (T := TX10) (N := 56) hx hb hts (fun w h => List.mem_cons_of_mem _ (inX10 w h)) hown hK hP 0 rfl rfl 19 (by decide) hk_55 (fun _ h9 => h9) rfl dX10_title__121 ?_
                  refine lv_iconst (v := 4) hx hb dX10_title__124 (by decide) ?_
                  refine lv_iload_n hx hb dX10_title__125 rfl (lv_at hl 1 rfl) ?_
                  refine lv_imul hx hb dX10_title__126 ?_
                  refine lv_iconst (v := 2) hx hb dX10_title__127 (by decide) ?_
                  refine lv_iadd hx hb dX10_title__128 ?_
                  obtain ⟨hg_129, hf⟩ := op_if hf
                  refine va_zald (f := s0.2 19) hx hb hK hP 13 2 rfl rfl (inb_in hg_129) dX10_title__129 ?_
                  refine lv_if_ne (tgt := 146) hx hb dX10_title__130 (by decide) (fun c_130 => ?_) (fun c_130 => ?_)
                  · have hf := op_neg c_130 hf
                    refine lv_iconst (v := 1) hx hb dX10_title__146 (by decide) ?_
                    refine lv_goto (tgt := 151) hx hb dX10_title__147 (by decide) ?_
                    rw [← Option.some.inj hf]
                    exact g_iret hx hb hr hlk hK hP hD hS dX10_title__151
                  · have hf := op_pos c_130 hf
                    refine lv_aload_n hx hb dX10_title__133 rfl (lv_at hl 0 rfl) ?_
                    refine va_get (ci := 9) (v := .ref (a0 19)) (C := RX10) (T := TX10) (N := 56) hx hb hts (fun w h => List.mem_cons_of_mem _ (inX10 w h)) hown hK hP 0 rfl rfl 19 (by decide) hk_55 (fun _ h9 => h9) rfl dX10_title__134 ?_
                    refine lv_iconst (v := 4) hx hb dX10_title__137 (by decide) ?_
                    refine lv_iload_n hx hb dX10_title__138 rfl (lv_at hl 1 rfl) ?_
                    refine lv_imul hx hb dX10_title__139 ?_
                    refine lv_iconst (v := 3) hx hb dX10_title__140 (by decide) ?_
                    refine lv_iadd hx hb dX10_title__141 ?_
                    obtain ⟨hg_142, hf⟩ := op_if hf
                    refine va_zald (f := s0.2 19) hx hb hK hP 13 2 rfl rfl (inb_in hg_142) dX10_title__142 ?_
                    refine lv_if_eq (tgt := 150) hx hb dX10_title__143 (by decide) (fun c_143 => ?_) (fun c_143 => ?_)
                    · have hf := op_pos c_143 hf
                      refine lv_iconst (v := 0) hx hb dX10_title__150 (by decide) ?_
                      rw [← Option.some.inj hf]
                      exact g_iret hx hb hr hlk hK hP hD hS dX10_title__151
                    · have hf := op_neg c_143 hf
                      refine lv_iconst (v := 1) hx hb dX10_title__146 (by decide) ?_
                      refine lv_goto (tgt := 151) hx hb dX10_title__147 (by decide) ?_
                      rw [← Option.some.inj hf]
                      exact g_iret hx hb hr hlk hK hP hD hS dX10_title__151
            · have hf := op_neg c_20_4 hf
              have e_0 : ¬ (p2).toInt = 0 := fun h => c_20_0 (Int32.toInt_inj.mp (h.trans (by decide)))
              have e_1 : ¬ (p2).toInt = 1 := fun h => c_20_1 (Int32.toInt_inj.mp (h.trans (by decide)))
              have e_2 : ¬ (p2).toInt = 2 := fun h => c_20_2 (Int32.toInt_inj.mp (h.trans (by decide)))
              have e_3 : ¬ (p2).toInt = 3 := fun h => c_20_3 (Int32.toInt_inj.mp (h.trans (by decide)))
              have e_4 : ¬ (p2).toInt = 4 := fun h => c_20_4 (Int32.toInt_inj.mp (h.trans (by decide)))
              refine lv_tableOut (tgt := 152) hx hb dX10_title__20 (by omega) (by decide) ?_
              refine lv_aload_n hx hb dX10_title__152 rfl (lv_at hl 0 rfl) ?_
              refine lv_iconst (v := 2) hx hb dX10_title__153 (by decide) ?_
              obtain ⟨q_154, hc_154, hf⟩ := op_bind hf
              refine g_callVi (As := [.int 2]) (rest := []) (w2 := w10 cy h0 a0 q_154.2) ⟨hx, hb, hml, hown, hts⟩ (c_X10_fails l D cy h0 a0 (sF s0 2 0) _ fu 2 _ hc_154) (cwV 1 hts (gi_V ml_RX10_285 im_X10_fails se_X10_fails in_RX10 cd_X10_fails) rfl rfl rfl hdX10_fails ⟨Nat.le_of_ble_eq_true rfl, Nat.le_of_ble_eq_true rfl⟩) (va_recv hK hP (ci := 9) (q0 := 0) rfl rfl) rfl hl.1 rfl (Nat.le_of_ble_eq_true rfl) dX10_title__154 hK hP hD hS hA [0, 1, 2, 3, 4, 5, 6, 7, 8, 9, 10, 11, 12, 13, 14, 15, 16, 17, 18, 19, 20, 21, 22, 23, 24, 25, 26, 27, 28, 29] [] [0, 1, 2, 3, 4, 5, 6, 7, 8, 9, 10, 11, 12, 13, 14, 15, 16, 17, 18, 19, 20, 21, 22, 23, 24, 25, 26, 27, 28, 29] rfl rfl rfl rfl (by decide) rfl rfl (fun H locs hP hD hS => ?_)
              rw [← Option.some.inj hf]
              exact g_iret hx hb hr hlk hK hP hD hS dX10_title__157
  · have hf := op_pos c_10 hf
    refine lv_aload_n hx hb dX10_title__13 rfl (lv_at hl 0 rfl) ?_
    refine lv_iconst (v := 1) hx hb dX10_title__14 (by decide) ?_
    obtain ⟨q_15, hc_15, hf⟩ := op_bind hf
    refine g_callVi (As := [.int 1]) (rest := []) (w2 := w10 cy h0 a0 q_15.2) ⟨hx, hb, hml, hown, hts⟩ (c_X10_fails l D cy h0 a0 (sF s0 2 0) _ fu 1 _ hc_15) (cwV 1 hts (gi_V ml_RX10_285 im_X10_fails se_X10_fails in_RX10 cd_X10_fails) rfl rfl rfl hdX10_fails ⟨Nat.le_of_ble_eq_true rfl, Nat.le_of_ble_eq_true rfl⟩) (va_recv hK hP (ci := 9) (q0 := 0) rfl rfl) rfl hl.1 rfl (Nat.le_of_ble_eq_true rfl) dX10_title__15 hK hP hD hS hA [0, 1, 2, 3, 4, 5, 6, 7, 8, 9, 10, 11, 12, 13, 14, 15, 16, 17, 18, 19, 20, 21, 22, 23, 24, 25, 26, 27, 28, 29] [] [0, 1, 2, 3, 4, 5, 6, 7, 8, 9, 10, 11, 12, 13, 14, 15, 16, 17, 18, 19, 20, 21, 22, 23, 24, 25, 26, 27, 28, 29] rfl rfl rfl rfl (by decide) rfl rfl (fun H locs hP hD hS => ?_)
    rw [← Option.some.inj hf]
    exact g_iret hx hb hr hlk hK hP hD hS dX10_title__18
def f_X10_pages (fu : Nat)  (s0 : St) (p1 : Int32) (p2 : Int32) : Option (Int32 × St) := (f_X10_isTitle fu (sF s0 2 0) p1).bind (fun q_7 => if q_7 = 0 then ((f_X10_fails fu (sF s0 2 0) 1).bind (fun q_15 => some (q_15.1, q_15.2))) else ((f_X10_isTongue fu (sF s0 2 0) p2).bind (fun q_21 => if q_21 = 0 then ((f_X10_fails fu (sF s0 2 0) 2).bind (fun q_29 => some (q_29.1, q_29.2))) else ((f_X10_layTongue fu (sF s0 2 0) p1 p2).bind (fun q_36 => some (q_36.1 32, q_36))))))
theorem hdX10_pages : yX10_pages.cls = RX10 ∧ yX10_pages.cls ≠ "java/lang/invoke/MethodHandle" ∧ yX10_pages.cls ≠ "java/lang/invoke/VarHandle" ∧ (parseMethodDescriptor yX10_pages.desc).map (fun d => d.parameters.length) = some 2 := by decide +kernel
set_option maxHeartbeats 4000000 in
set_option maxRecDepth 100000 in
theorem c_X10_pages (l : Launch) (D : va_G) (cy : Nat → ClassId) (h0 : Nat) (a0 : Nat → Nat) (s0 : St) (sz fu : Nat) (p1 : Int32) (p2 : Int32) (out : Int32 × St) (hf : f_X10_pages fu s0 p1 p2 = some out) :
    Met l yX10_pages (WS yX10_pages cX10_pages 3 (some .int)) ({ frames := 5, cells := 0, slots := 0, locals := 130 } : Room) (va_Pc [.ref h0, .int p1, .int p2] (gP D cy sz (w10 cy h0 a0 s0))) ((fun A : Nat → Prop => gQi D cy A out.1 (w10 cy h0 a0 out.2)) (va_A (w10 cy h0 a0 s0) sz)) 0 0 (va_A (w10 cy h0 a0 s0) sz) := by
  refine g_met (cc := cX10_pages) (maxL := 3) (ret := (some .int)) (fun A : Nat → Prop => gQi D cy A out.1 (w10 cy h0 a0 out.2)) (by decide +kernel) rfl (Nat.le_of_ble_eq_true rfl) ?_
  intro p e s m below meth c A C hA hK hP hD ls hl
  obtain ⟨hx, hb, hr, hml, hown, hts, hlk⟩ := id C
  have hown : s.vm.findClass RX10 = some m.cls := hown
  have hS : va_S A s.heap s.heap [] := va_S.rf
  have hl : lv_has ls 3 [(0, .ref h0), (1, .int p1), (2, .int p2)] := hl
  have hk_113 := hts _ (List.mem_cons_of_mem _ fl_RX10_113)
  have hk_133 := hts _ (List.mem_cons_of_mem _ fl_RX10_133)
  unfold f_X10_pages at hf
  refine lv_aload_n hx hb dX10_pages_0 rfl (lv_at hl 0 rfl) ?_
  refine lv_iconst (v := 0) hx hb dX10_pages_1 (by decide) ?_
  refine va_put (ci := 9) (v := .int 0) (ty := tyX10 2) (C := RX10) (T := TX10) (N := 56) hx hb hts (fun w h => List.mem_cons_of_mem _ (inX10 w h)) tyX10 tyX10_ok nmX10 hown hK hP hD hS 0 rfl rfl 2 (by decide) hk_113 (fun _ h9 => h9) rfl (tyX10_ok 2 (by decide)) rfl rfl (Nat.le_of_ble_eq_true rfl) dX10_pages_2 (fun H locs hP hD hS => ?_)
  have hP : va_P D vwCl (w10 cy h0 a0 (sF s0 2 0)) H := pP10_2 hP
  have hD : va_D A (w10 cy h0 a0 (sF s0 2 0)) := pD10_2 hD
  refine lv_aload_n hx hb dX10_pages_5 rfl (lv_at hl 0 rfl) ?_
  refine lv_iload_n hx hb dX10_pages_6 rfl (lv_at hl 1 rfl) ?_
  obtain ⟨q_7, hc_7, hf⟩ := op_bind hf
  refine g_callVi (As := [.int p1]) (rest := []) (w2 := w10 cy h0 a0 (sF s0 2 0)) ⟨hx, hb, hml, hown, hts⟩ (c_X10_isTitle l D cy h0 a0 (sF s0 2 0) _ fu p1 _ hc_7) (cwV 1 hts (gi_V ml_RX10_259 im_X10_isTitle se_X10_isTitle in_RX10 cd_X10_isTitle) rfl rfl rfl hdX10_isTitle ⟨Nat.le_of_ble_eq_true rfl, Nat.le_of_ble_eq_true rfl⟩) (va_recv hK hP (ci := 9) (q0 := 0) rfl rfl) rfl hl.1 rfl (Nat.le_of_ble_eq_true rfl) dX10_pages_7 hK hP hD hS hA [0, 1, 2, 3, 4, 5, 6, 7, 8, 9, 10, 11, 12, 13, 14, 15, 16, 17, 18, 19, 20, 21, 22, 23, 24, 25, 26, 27, 28, 29] [] [0, 1, 2, 3, 4, 5, 6, 7, 8, 9, 10, 11, 12, 13, 14, 15, 16, 17, 18, 19, 20, 21, 22, 23, 24, 25, 26, 27, 28, 29] rfl rfl rfl rfl (by decide) rfl rfl (fun H locs hP hD hS => ?_)
  refine lv_if_ne (tgt := 19) hx hb dX10_pages_10 (by decide) (fun c_10 => ?_) (fun c_10 => ?_)
  · have hf := op_neg c_10 hf
    refine lv_aload_n hx hb dX10_pages_19 rfl (lv_at hl 0 rfl) ?_
    refine lv_iload_n hx hb dX10_pages_20 rfl (lv_at hl 2 rfl) ?_
    obtain ⟨q_21, hc_21, hf⟩ := op_bind hf
    refine g_callVi (As := [.int p2]) (rest := []) (w2 := w10 cy h0 a0 (sF s0 2 0)) ⟨hx, hb, hml, hown, hts⟩ (c_X10_isTongue l D cy h0 a0 (sF s0 2 0) _ fu p2 _ hc_21) (cwV 1 hts (gi_V ml_RX10_262 im_X10_isTongue se_X10_isTongue in_RX10 cd_X10_isTongue) rfl rfl rfl hdX10_isTongue ⟨Nat.le_of_ble_eq_true rfl, Nat.le_of_ble_eq_true rfl⟩) (va_recv hK hP (ci := 9) (q0 := 0) rfl rfl) rfl hl.1 rfl (Nat.le_of_ble_eq_true rfl) dX10_pages_21 hK hP hD hS hA [0, 1, 2, 3, 4, 5, 6, 7, 8, 9, 10, 11, 12, 13, 14, 15, 16, 17, 18, 19, 20, 21, 22, 23, 24, 25, 26, 27, 28, 29] [] [0, 1, 2, 3, 4, 5, 6, 7, 8, 9, 10, 11, 12, 13, 14, 15, 16, 17, 18, 19, 20, 21, 22, 23, 24, 25, 26, 27, 28, 29] rfl rfl rfl rfl (by decide) rfl rfl (fun H locs hP hD hS => ?_)
    refine lv_if_ne (tgt := 33) hx hb dX10_pages_24 (by decide) (fun c_24 => ?_) (fun c_24 => ?_)
    · have hf := op_neg c_24 hf
      refine lv_aload_n hx hb dX10_pages_33 rfl (lv_at hl 0 rfl) ?_
      refine lv_iload_n hx hb dX10_pages_34 rfl (lv_at hl 1 rfl) ?_
      refine lv_iload_n hx hb dX10_pages_35 rfl (lv_at hl 2 rfl) ?_
      obtain ⟨q_36, hc_36, hf⟩ := op_bind hf
      refine g_callVv (As := [.int p1, .int p2]) (rest := []) (w2 := w10 cy h0 a0 q_36) ⟨hx, hb, hml, hown, hts⟩ (c_X10_layTongue l D cy h0 a0 (sF s0 2 0) _ fu p1 p2 _ hc_36) (cwV 2 hts (gi_V ml_RX10_268 im_X10_layTongue se_X10_layTongue in_RX10 cd_X10_layTongue) rfl rfl rfl hdX10_layTongue ⟨Nat.le_of_ble_eq_true rfl, Nat.le_of_ble_eq_true rfl⟩) (va_recv hK hP (ci := 9) (q0 := 0) rfl rfl) rfl hl.1 rfl (Nat.le_of_ble_eq_true rfl) dX10_pages_36 hK hP hD hS hA [0, 1, 2, 3, 4, 5, 6, 7, 8, 9, 10, 11, 12, 13, 14, 15, 16, 17, 18, 19, 20, 21, 22, 23, 24, 25, 26, 27, 28, 29] [] [0, 1, 2, 3, 4, 5, 6, 7, 8, 9, 10, 11, 12, 13, 14, 15, 16, 17, 18, 19, 20, 21, 22, 23, 24, 25, 26, 27, 28, 29] rfl rfl rfl rfl (by decide) rfl rfl (fun H locs hP hD hS => ?_)
      refine lv_aload_n hx hb dX10_pages_39 rfl (lv_at hl 0 rfl) ?_
      refine va_get (ci := 9) (v := .int (q_36.1 32)) (C := RX10) (T := TX10) (N := 56) hx hb hts (fun w h => List.mem_cons_of_mem _ (inX10 w h)) hown hK hP 0 rfl rfl 32 (by decide) hk_133 (fun _ h9 => h9) rfl dX10_pages_40 ?_
      rw [← Option.some.inj hf]
      exact g_iret hx hb hr hlk hK hP hD hS dX10_pages_43
    · have hf := op_pos c_24 hf
      refine lv_aload_n hx hb dX10_pages_27 rfl (lv_at hl 0 rfl) ?_
      refine lv_iconst (v := 2) hx hb dX10_pages_28 (by decide) ?_
      obtain ⟨q_29, hc_29, hf⟩ := op_bind hf
      refine g_callVi (As := [.int 2]) (rest := []) (w2 := w10 cy h0 a0 q_29.2) ⟨hx, hb, hml, hown, hts⟩ (c_X10_fails l D cy h0 a0 (sF s0 2 0) _ fu 2 _ hc_29) (cwV 1 hts (gi_V ml_RX10_285 im_X10_fails se_X10_fails in_RX10 cd_X10_fails) rfl rfl rfl hdX10_fails ⟨Nat.le_of_ble_eq_true rfl, Nat.le_of_ble_eq_true rfl⟩) (va_recv hK hP (ci := 9) (q0 := 0) rfl rfl) rfl hl.1 rfl (Nat.le_of_ble_eq_true rfl) dX10_pages_29 hK hP hD hS hA [0, 1, 2, 3, 4, 5, 6, 7, 8, 9, 10, 11, 12, 13, 14, 15, 16, 17, 18, 19, 20, 21, 22, 23, 24, 25, 26, 27, 28, 29] [] [0, 1, 2, 3, 4, 5, 6, 7, 8, 9, 10, 11, 12, 13, 14, 15, 16, 17, 18, 19, 20, 21, 22, 23, 24, 25, 26, 27, 28, 29] rfl rfl rfl rfl (by decide) rfl rfl (fun H locs hP hD hS => ?_)
      rw [← Option.some.inj hf]
      exact g_iret hx hb hr hlk hK hP hD hS dX10_pages_32
  · have hf := op_pos c_10 hf
    refine lv_aload_n hx hb dX10_pages_13 rfl (lv_at hl 0 rfl) ?_
    refine lv_iconst (v := 1) hx hb dX10_pages_14 (by decide) ?_
    obtain ⟨q_15, hc_15, hf⟩ := op_bind hf
    refine g_callVi (As := [.int 1]) (rest := []) (w2 := w10 cy h0 a0 q_15.2) ⟨hx, hb, hml, hown, hts⟩ (c_X10_fails l D cy h0 a0 (sF s0 2 0) _ fu 1 _ hc_15) (cwV 1 hts (gi_V ml_RX10_285 im_X10_fails se_X10_fails in_RX10 cd_X10_fails) rfl rfl rfl hdX10_fails ⟨Nat.le_of_ble_eq_true rfl, Nat.le_of_ble_eq_true rfl⟩) (va_recv hK hP (ci := 9) (q0 := 0) rfl rfl) rfl hl.1 rfl (Nat.le_of_ble_eq_true rfl) dX10_pages_15 hK hP hD hS hA [0, 1, 2, 3, 4, 5, 6, 7, 8, 9, 10, 11, 12, 13, 14, 15, 16, 17, 18, 19, 20, 21, 22, 23, 24, 25, 26, 27, 28, 29] [] [0, 1, 2, 3, 4, 5, 6, 7, 8, 9, 10, 11, 12, 13, 14, 15, 16, 17, 18, 19, 20, 21, 22, 23, 24, 25, 26, 27, 28, 29] rfl rfl rfl rfl (by decide) rfl rfl (fun H locs hP hD hS => ?_)
    rw [← Option.some.inj hf]
    exact g_iret hx hb hr hlk hK hP hD hS dX10_pages_18
def f_X10_price (fu : Nat)  (s0 : St) (p1 : Int32) (p2 : Int32) : Option (Int32 × St) := (f_X10_isTitle fu (sF s0 2 0) p1).bind (fun q_7 => if q_7 = 0 then ((f_X10_fails fu (sF s0 2 0) 1).bind (fun q_15 => some (q_15.1, q_15.2))) else ((f_X10_isTongue fu (sF s0 2 0) p2).bind (fun q_21 => if q_21 = 0 then ((f_X10_fails fu (sF s0 2 0) 2).bind (fun q_29 => some (q_29.1, q_29.2))) else ((f_X10_layTongue fu (sF s0 2 0) p1 p2).bind (fun q_36 => some (q_36.1 33, q_36))))))
theorem hdX10_price : yX10_price.cls = RX10 ∧ yX10_price.cls ≠ "java/lang/invoke/MethodHandle" ∧ yX10_price.cls ≠ "java/lang/invoke/VarHandle" ∧ (parseMethodDescriptor yX10_price.desc).map (fun d => d.parameters.length) = some 2 := by decide +kernel
set_option maxHeartbeats 4000000 in
set_option maxRecDepth 100000 in
theorem c_X10_price (l : Launch) (D : va_G) (cy : Nat → ClassId) (h0 : Nat) (a0 : Nat → Nat) (s0 : St) (sz fu : Nat) (p1 : Int32) (p2 : Int32) (out : Int32 × St) (hf : f_X10_price fu s0 p1 p2 = some out) :
    Met l yX10_price (WS yX10_price cX10_price 3 (some .int)) ({ frames := 5, cells := 0, slots := 0, locals := 130 } : Room) (va_Pc [.ref h0, .int p1, .int p2] (gP D cy sz (w10 cy h0 a0 s0))) ((fun A : Nat → Prop => gQi D cy A out.1 (w10 cy h0 a0 out.2)) (va_A (w10 cy h0 a0 s0) sz)) 0 0 (va_A (w10 cy h0 a0 s0) sz) := by
  refine g_met (cc := cX10_price) (maxL := 3) (ret := (some .int)) (fun A : Nat → Prop => gQi D cy A out.1 (w10 cy h0 a0 out.2)) (by decide +kernel) rfl (Nat.le_of_ble_eq_true rfl) ?_
  intro p e s m below meth c A C hA hK hP hD ls hl
  obtain ⟨hx, hb, hr, hml, hown, hts, hlk⟩ := id C
  have hown : s.vm.findClass RX10 = some m.cls := hown
  have hS : va_S A s.heap s.heap [] := va_S.rf
  have hl : lv_has ls 3 [(0, .ref h0), (1, .int p1), (2, .int p2)] := hl
  have hk_113 := hts _ (List.mem_cons_of_mem _ fl_RX10_113)
  have hk_141 := hts _ (List.mem_cons_of_mem _ fl_RX10_141)
  unfold f_X10_price at hf
  refine lv_aload_n hx hb dX10_price_0 rfl (lv_at hl 0 rfl) ?_
  refine lv_iconst (v := 0) hx hb dX10_price_1 (by decide) ?_
  refine va_put (ci := 9) (v := .int 0) (ty := tyX10 2) (C := RX10) (T := TX10) (N := 56) hx hb hts (fun w h => List.mem_cons_of_mem _ (inX10 w h)) tyX10 tyX10_ok nmX10 hown hK hP hD hS 0 rfl rfl 2 (by decide) hk_113 (fun _ h9 => h9) rfl (tyX10_ok 2 (by decide)) rfl rfl (Nat.le_of_ble_eq_true rfl) dX10_price_2 (fun H locs hP hD hS => ?_)
  have hP : va_P D vwCl (w10 cy h0 a0 (sF s0 2 0)) H := pP10_2 hP
  have hD : va_D A (w10 cy h0 a0 (sF s0 2 0)) := pD10_2 hD
  refine lv_aload_n hx hb dX10_price_5 rfl (lv_at hl 0 rfl) ?_
  refine lv_iload_n hx hb dX10_price_6 rfl (lv_at hl 1 rfl) ?_
  obtain ⟨q_7, hc_7, hf⟩ := op_bind hf
  refine g_callVi (As := [.int p1]) (rest := []) (w2 := w10 cy h0 a0 (sF s0 2 0)) ⟨hx, hb, hml, hown, hts⟩ (c_X10_isTitle l D cy h0 a0 (sF s0 2 0) _ fu p1 _ hc_7) (cwV 1 hts (gi_V ml_RX10_259 im_X10_isTitle se_X10_isTitle in_RX10 cd_X10_isTitle) rfl rfl rfl hdX10_isTitle ⟨Nat.le_of_ble_eq_true rfl, Nat.le_of_ble_eq_true rfl⟩) (va_recv hK hP (ci := 9) (q0 := 0) rfl rfl) rfl hl.1 rfl (Nat.le_of_ble_eq_true rfl) dX10_price_7 hK hP hD hS hA [0, 1, 2, 3, 4, 5, 6, 7, 8, 9, 10, 11, 12, 13, 14, 15, 16, 17, 18, 19, 20, 21, 22, 23, 24, 25, 26, 27, 28, 29] [] [0, 1, 2, 3, 4, 5, 6, 7, 8, 9, 10, 11, 12, 13, 14, 15, 16, 17, 18, 19, 20, 21, 22, 23, 24, 25, 26, 27, 28, 29] rfl rfl rfl rfl (by decide) rfl rfl (fun H locs hP hD hS => ?_)
  refine lv_if_ne (tgt := 19) hx hb dX10_price_10 (by decide) (fun c_10 => ?_) (fun c_10 => ?_)
  · have hf := op_neg c_10 hf
    refine lv_aload_n hx hb dX10_price_19 rfl (lv_at hl 0 rfl) ?_
    refine lv_iload_n hx hb dX10_price_20 rfl (lv_at hl 2 rfl) ?_
    obtain ⟨q_21, hc_21, hf⟩ := op_bind hf
    refine g_callVi (As := [.int p2]) (rest := []) (w2 := w10 cy h0 a0 (sF s0 2 0)) ⟨hx, hb, hml, hown, hts⟩ (c_X10_isTongue l D cy h0 a0 (sF s0 2 0) _ fu p2 _ hc_21) (cwV 1 hts (gi_V ml_RX10_262 im_X10_isTongue se_X10_isTongue in_RX10 cd_X10_isTongue) rfl rfl rfl hdX10_isTongue ⟨Nat.le_of_ble_eq_true rfl, Nat.le_of_ble_eq_true rfl⟩) (va_recv hK hP (ci := 9) (q0 := 0) rfl rfl) rfl hl.1 rfl (Nat.le_of_ble_eq_true rfl) dX10_price_21 hK hP hD hS hA [0, 1, 2, 3, 4, 5, 6, 7, 8, 9, 10, 11, 12, 13, 14, 15, 16, 17, 18, 19, 20, 21, 22, 23, 24, 25, 26, 27, 28, 29] [] [0, 1, 2, 3, 4, 5, 6, 7, 8, 9, 10, 11, 12, 13, 14, 15, 16, 17, 18, 19, 20, 21, 22, 23, 24, 25, 26, 27, 28, 29] rfl rfl rfl rfl (by decide) rfl rfl (fun H locs hP hD hS => ?_)
    refine lv_if_ne (tgt := 33) hx hb dX10_price_24 (by decide) (fun c_24 => ?_) (fun c_24 => ?_)
    · have hf := op_neg c_24 hf
      refine lv_aload_n hx hb dX10_price_33 rfl (lv_at hl 0 rfl) ?_
      refine lv_iload_n hx hb dX10_price_34 rfl (lv_at hl 1 rfl) ?_
      refine lv_iload_n hx hb dX10_price_35 rfl (lv_at hl 2 rfl) ?_
      obtain ⟨q_36, hc_36, hf⟩ := op_bind hf
      refine g_callVv (As := [.int p1, .int p2]) (rest := []) (w2 := w10 cy h0 a0 q_36) ⟨hx, hb, hml, hown, hts⟩ (c_X10_layTongue l D cy h0 a0 (sF s0 2 0) _ fu p1 p2 _ hc_36) (cwV 2 hts (gi_V ml_RX10_268 im_X10_layTongue se_X10_layTongue in_RX10 cd_X10_layTongue) rfl rfl rfl hdX10_layTongue ⟨Nat.le_of_ble_eq_true rfl, Nat.le_of_ble_eq_true rfl⟩) (va_recv hK hP (ci := 9) (q0 := 0) rfl rfl) rfl hl.1 rfl (Nat.le_of_ble_eq_true rfl) dX10_price_36 hK hP hD hS hA [0, 1, 2, 3, 4, 5, 6, 7, 8, 9, 10, 11, 12, 13, 14, 15, 16, 17, 18, 19, 20, 21, 22, 23, 24, 25, 26, 27, 28, 29] [] [0, 1, 2, 3, 4, 5, 6, 7, 8, 9, 10, 11, 12, 13, 14, 15, 16, 17, 18, 19, 20, 21, 22, 23, 24, 25, 26, 27, 28, 29] rfl rfl rfl rfl (by decide) rfl rfl (fun H locs hP hD hS => ?_)
      refine lv_aload_n hx hb dX10_price_39 rfl (lv_at hl 0 rfl) ?_
      refine va_get (ci := 9) (v := .int (q_36.1 33)) (C := RX10) (T := TX10) (N := 56) hx hb hts (fun w h => List.mem_cons_of_mem _ (inX10 w h)) hown hK hP 0 rfl rfl 33 (by decide) hk_141 (fun _ h9 => h9) rfl dX10_price_40 ?_
      rw [← Option.some.inj hf]
      exact g_iret hx hb hr hlk hK hP hD hS dX10_price_43
    · have hf := op_pos c_24 hf
      refine lv_aload_n hx hb dX10_price_27 rfl (lv_at hl 0 rfl) ?_
      refine lv_iconst (v := 2) hx hb dX10_price_28 (by decide) ?_
      obtain ⟨q_29, hc_29, hf⟩ := op_bind hf
      refine g_callVi (As := [.int 2]) (rest := []) (w2 := w10 cy h0 a0 q_29.2) ⟨hx, hb, hml, hown, hts⟩ (c_X10_fails l D cy h0 a0 (sF s0 2 0) _ fu 2 _ hc_29) (cwV 1 hts (gi_V ml_RX10_285 im_X10_fails se_X10_fails in_RX10 cd_X10_fails) rfl rfl rfl hdX10_fails ⟨Nat.le_of_ble_eq_true rfl, Nat.le_of_ble_eq_true rfl⟩) (va_recv hK hP (ci := 9) (q0 := 0) rfl rfl) rfl hl.1 rfl (Nat.le_of_ble_eq_true rfl) dX10_price_29 hK hP hD hS hA [0, 1, 2, 3, 4, 5, 6, 7, 8, 9, 10, 11, 12, 13, 14, 15, 16, 17, 18, 19, 20, 21, 22, 23, 24, 25, 26, 27, 28, 29] [] [0, 1, 2, 3, 4, 5, 6, 7, 8, 9, 10, 11, 12, 13, 14, 15, 16, 17, 18, 19, 20, 21, 22, 23, 24, 25, 26, 27, 28, 29] rfl rfl rfl rfl (by decide) rfl rfl (fun H locs hP hD hS => ?_)
      rw [← Option.some.inj hf]
      exact g_iret hx hb hr hlk hK hP hD hS dX10_price_32
  · have hf := op_pos c_10 hf
    refine lv_aload_n hx hb dX10_price_13 rfl (lv_at hl 0 rfl) ?_
    refine lv_iconst (v := 1) hx hb dX10_price_14 (by decide) ?_
    obtain ⟨q_15, hc_15, hf⟩ := op_bind hf
    refine g_callVi (As := [.int 1]) (rest := []) (w2 := w10 cy h0 a0 q_15.2) ⟨hx, hb, hml, hown, hts⟩ (c_X10_fails l D cy h0 a0 (sF s0 2 0) _ fu 1 _ hc_15) (cwV 1 hts (gi_V ml_RX10_285 im_X10_fails se_X10_fails in_RX10 cd_X10_fails) rfl rfl rfl hdX10_fails ⟨Nat.le_of_ble_eq_true rfl, Nat.le_of_ble_eq_true rfl⟩) (va_recv hK hP (ci := 9) (q0 := 0) rfl rfl) rfl hl.1 rfl (Nat.le_of_ble_eq_true rfl) dX10_price_15 hK hP hD hS hA [0, 1, 2, 3, 4, 5, 6, 7, 8, 9, 10, 11, 12, 13, 14, 15, 16, 17, 18, 19, 20, 21, 22, 23, 24, 25, 26, 27, 28, 29] [] [0, 1, 2, 3, 4, 5, 6, 7, 8, 9, 10, 11, 12, 13, 14, 15, 16, 17, 18, 19, 20, 21, 22, 23, 24, 25, 26, 27, 28, 29] rfl rfl rfl rfl (by decide) rfl rfl (fun H locs hP hD hS => ?_)
    rw [← Option.some.inj hf]
    exact g_iret hx hb hr hlk hK hP hD hS dX10_price_18
def f_X10_signOf_L60  (fu : Nat)  : Nat → St → Int32 → Int32 → Int32 → Int32 → Int32 → Option (Int32 × St)
  | 0, _, _, _, _, _, _ => none
  | n_60 + 1, u0, x3, x4, x5, x6, x7 => if ((2 * x3) + x4) ≤ x7 then (if inb ((2 * x3) + x4) 12 = true then (if (u0.2 31 ((2 * x3) + x4).toNatClampNeg) = 0 then (some ((-1), u0)) else ((f_X10_rowLength fu u0 x6 (u0.2 31 ((2 * x3) + x4).toNatClampNeg)).bind (fun q_114 => if x5 < q_114 then (if inb x6 760 = true then (if inb ((u0.2 27 x6.toNatClampNeg) + x5) 1500 = true then (some (u0.2 26 ((u0.2 27 x6.toNatClampNeg) + x5).toNatClampNeg, u0)) else none) else none) else (some ((-1), u0))))) else none) else (if inb x7 12 = true then (f_X10_signOf_L60 fu n_60 u0 x3 x4 x5 (x6 + (u0.2 31 x7.toNatClampNeg)) (x7 + 1)) else none)
set_option maxHeartbeats 4000000 in
set_option maxRecDepth 100000 in
theorem b_X10_signOf_L60 {p : Program} {e : Env} {s : State} {m : MethodId} {args : Array Value} {below : List Frame} {meth : Method} {c : Code} {A : Nat → Prop} (l : Launch) (D : va_G) (cy : Nat → ClassId) (h0 : Nat) (a0 : Nat → Nat) (fu : Nat) (out : Int32 × St) (C : gC p s m args meth c (WS yX10_signOf cX10_signOf 8 (some .int)) cX10_signOf 8 (some .int) RX10) (hA : ∀ q : Nat, s.heap.size ≤ q → A q) (hK : va_K D vwCl (TY cy) s)  :
    ∀ (n_60 : Nat), ∀ (u0 : St) (x3 : Int32) (x4 : Int32) (x5 : Int32) (x6 : Int32) (x7 : Int32), f_X10_signOf_L60 fu n_60 u0 x3 x4 x5 x6 x7 = some out → ∀ (H : Heap) (locs : List Loc) (ls : Array Slot), va_P D vwCl (w10 cy h0 a0 u0) H → va_D A (w10 cy h0 a0 u0) → va_S A s.heap H locs → lv_has ls 8 [(0, .ref h0), (3, .int x3), (4, .int x4), (5, .int x5), (6, .int x6), (7, .int x7)] → W p l e ({ frames := 5, cells := 0, slots := 0, locals := 130 } : Room) s m args below meth c H locs 0 0 (MQ below (gQi D cy A out.1 (w10 cy h0 a0 out.2)) args s 0 0 A) (F0 m 60 ls []) := by
  obtain ⟨hx, hb, hr, hml, hown, hts, hlk⟩ := id C
  have hown : s.vm.findClass RX10 = some m.cls := hown
  have hk_80 := hts _ (List.mem_cons_of_mem _ fl_RX10_80)
  have hk_68 := hts _ (List.mem_cons_of_mem _ fl_RX10_68)
  have hk_71 := hts _ (List.mem_cons_of_mem _ fl_RX10_71)
  intro n_60
  induction n_60 with
  | zero => intro u0 x3 x4 x5 x6 x7 hf; exact op_no hf
  | succ n_60 ih_60 =>
    intro u0 x3 x4 x5 x6 x7 hf H locs ls hP hD hS hl
    rw [f_X10_signOf_L60] at hf
    refine lv_iload hx hb dX10_signOf_60 (lv_at hl 5 rfl) ?_
    refine lv_iconst (v := 2) hx hb dX10_signOf_62 (by decide) ?_
    refine lv_iload_n hx hb dX10_signOf_63 rfl (lv_at hl 1 rfl) ?_
    refine lv_imul hx hb dX10_signOf_64 ?_
    refine lv_iload hx hb dX10_signOf_65 (lv_at hl 2 rfl) ?_
    refine lv_iadd hx hb dX10_signOf_67 ?_
    refine lv_icmp_ge (tgt := 89) hx hb dX10_signOf_68 (by decide) (fun c_68 => ?_) (fun c_68 => ?_)
    · have hf := op_pos c_68 hf
      refine lv_aload_n hx hb dX10_signOf_89 rfl (lv_at hl 0 rfl) ?_
      refine va_get (ci := 9) (v := .ref (a0 31)) (C := RX10) (T := TX10) (N := 56) hx hb hts (fun w h => List.mem_cons_of_mem _ (inX10 w h)) hown hK hP 0 rfl rfl 31 (by decide) hk_80 (fun _ h9 => h9) rfl dX10_signOf_90 ?_
      refine lv_iconst (v := 2) hx hb dX10_signOf_93 (by decide) ?_
      refine lv_iload_n hx hb dX10_signOf_94 rfl (lv_at hl 1 rfl) ?_
      refine lv_imul hx hb dX10_signOf_95 ?_
      refine lv_iload hx hb dX10_signOf_96 (lv_at hl 2 rfl) ?_
      refine lv_iadd hx hb dX10_signOf_98 ?_
      obtain ⟨hg_99, hf⟩ := op_if hf
      refine va_iald (f := u0.2 31) hx hb hK hP 20 0 rfl rfl (inb_in hg_99) dX10_signOf_99 ?_
      refine lv_istore (lv' := [(7, .int (u0.2 31 ((2 * x3) + x4).toNatClampNeg)), (0, .ref h0), (3, .int x3), (4, .int x4), (5, .int x5), (6, .int x6)]) hx hb dX10_signOf_100 hl (by decide) rfl (fun ls hl => ?_)
      refine lv_iload hx hb dX10_signOf_102 (lv_at hl 0 rfl) ?_
      refine lv_if_eq (tgt := 120) hx hb dX10_signOf_104 (by decide) (fun c_104 => ?_) (fun c_104 => ?_)
      · have hf := op_pos c_104 hf
        refine lv_iconst (v := (-1)) hx hb dX10_signOf_120 (by decide) ?_
        refine lv_goto (tgt := 139) hx hb dX10_signOf_121 (by decide) ?_
        rw [← Option.some.inj hf]
        exact g_iret hx hb hr hlk hK hP hD hS dX10_signOf_139
      · have hf := op_neg c_104 hf
        refine lv_iload hx hb dX10_signOf_107 (lv_at hl 4 rfl) ?_
        refine lv_aload_n hx hb dX10_signOf_109 rfl (lv_at hl 1 rfl) ?_
        refine lv_iload hx hb dX10_signOf_110 (lv_at hl 5 rfl) ?_
        refine lv_iload hx hb dX10_signOf_112 (lv_at hl 0 rfl) ?_
        obtain ⟨q_114, hc_114, hf⟩ := op_bind hf
        refine g_callVi (As := [.int x6, .int (u0.2 31 ((2 * x3) + x4).toNatClampNeg)]) (rest := [.int x5]) (w2 := w10 cy h0 a0 u0) ⟨hx, hb, hml, hown, hts⟩ (c_X10_rowLength l D cy h0 a0 u0 _ fu x6 (u0.2 31 ((2 * x3) + x4).toNatClampNeg) _ hc_114) (cwV 2 hts (gi_V ml_RX10_122 im_X10_rowLength se_X10_rowLength in_RX10 cd_X10_rowLength) rfl rfl rfl hdX10_rowLength ⟨Nat.le_of_ble_eq_true rfl, Nat.le_of_ble_eq_true rfl⟩) (va_recv hK hP (ci := 9) (q0 := 0) rfl rfl) rfl hl.1 rfl (Nat.le_of_ble_eq_true rfl) dX10_signOf_114 hK hP hD hS hA [0, 1, 2, 3, 4, 5, 6, 7, 8, 9, 10, 11, 12, 13, 14, 15, 16, 17, 18, 19, 20, 21, 22, 23, 24, 25, 26, 27, 28, 29] [] [0, 1, 2, 3, 4, 5, 6, 7, 8, 9, 10, 11, 12, 13, 14, 15, 16, 17, 18, 19, 20, 21, 22, 23, 24, 25, 26, 27, 28, 29] rfl rfl rfl rfl (by decide) rfl rfl (fun H locs hP hD hS => ?_)
        refine lv_icmp_lt (tgt := 124) hx hb dX10_signOf_117 (by decide) (fun c_117 => ?_) (fun c_117 => ?_)
        · have hf := op_pos c_117 hf
          refine lv_aload_n hx hb dX10_signOf_124 rfl (lv_at hl 1 rfl) ?_
          refine va_get (ci := 9) (v := .ref (a0 26)) (C := RX10) (T := TX10) (N := 56) hx hb hts (fun w h => List.mem_cons_of_mem _ (inX10 w h)) hown hK hP 0 rfl rfl 26 (by decide) hk_68 (fun _ h9 => h9) rfl dX10_signOf_125 ?_
          refine lv_aload_n hx hb dX10_signOf_128 rfl (lv_at hl 1 rfl) ?_
          refine va_get (ci := 9) (v := .ref (a0 27)) (C := RX10) (T := TX10) (N := 56) hx hb hts (fun w h => List.mem_cons_of_mem _ (inX10 w h)) hown hK hP 0 rfl rfl 27 (by decide) hk_71 (fun _ h9 => h9) rfl dX10_signOf_129 ?_
          refine lv_iload hx hb dX10_signOf_132 (lv_at hl 5 rfl) ?_
          obtain ⟨hg_134, hf⟩ := op_if hf
          refine va_iald (f := u0.2 27) hx hb hK hP 17 0 rfl rfl (inb_in hg_134) dX10_signOf_134 ?_
          refine lv_iload hx hb dX10_signOf_135 (lv_at hl 4 rfl) ?_
          refine lv_iadd hx hb dX10_signOf_137 ?_
          obtain ⟨hg_138, hf⟩ := op_if hf
          refine va_iald (f := u0.2 26) hx hb hK hP 16 0 rfl rfl (inb_in hg_138) dX10_signOf_138 ?_
          rw [← Option.some.inj hf]
          exact g_iret hx hb hr hlk hK hP hD hS dX10_signOf_139
        · have hf := op_neg c_117 hf
          refine lv_iconst (v := (-1)) hx hb dX10_signOf_120 (by decide) ?_
          refine lv_goto (tgt := 139) hx hb dX10_signOf_121 (by decide) ?_
          rw [← Option.some.inj hf]
          exact g_iret hx hb hr hlk hK hP hD hS dX10_signOf_139
    · have hf := op_neg c_68 hf
      refine lv_iload hx hb dX10_signOf_71 (lv_at hl 4 rfl) ?_
      refine lv_aload_n hx hb dX10_signOf_73 rfl (lv_at hl 0 rfl) ?_
      refine va_get (ci := 9) (v := .ref (a0 31)) (C := RX10) (T := TX10) (N := 56) hx hb hts (fun w h => List.mem_cons_of_mem _ (inX10 w h)) hown hK hP 0 rfl rfl 31 (by decide) hk_80 (fun _ h9 => h9) rfl dX10_signOf_74 ?_
      refine lv_iload hx hb dX10_signOf_77 (lv_at hl 5 rfl) ?_
      obtain ⟨hg_79, hf⟩ := op_if hf
      refine va_iald (f := u0.2 31) hx hb hK hP 20 0 rfl rfl (inb_in hg_79) dX10_signOf_79 ?_
      refine lv_iadd hx hb dX10_signOf_80 ?_
      refine lv_istore (lv' := [(6, .int (x6 + (u0.2 31 x7.toNatClampNeg))), (0, .ref h0), (3, .int x3), (4, .int x4), (5, .int x5), (7, .int x7)]) hx hb dX10_signOf_81 hl (by decide) rfl (fun ls hl => ?_)
      refine lv_iinc (v := x7 + 1) (lv' := [(7, .int (x7 + 1)), (6, .int (x6 + (u0.2 31 x7.toNatClampNeg))), (0, .ref h0), (3, .int x3), (4, .int x4), (5, .int x5)]) hx hb dX10_signOf_83 hl (k := 5) rfl rfl (by decide) rfl (fun ls hl => ?_)
      refine lv_goto (tgt := 60) hx hb dX10_signOf_86 (by decide) ?_
      exact ih_60 u0 x3 x4 x5 (x6 + (u0.2 31 x7.toNatClampNeg)) (x7 + 1) hf _ _ ls hP hD hS (lv_sub hl [2, 3, 4, 5, 1, 0] rfl)
def f_X10_signOf (fu : Nat)  (s0 : St) (p1 : Int32) (p2 : Int32) (p3 : Int32) (p4 : Int32) (p5 : Int32) : Option (Int32 × St) := (f_X10_isTitle fu s0 p1).bind (fun q_2 => if q_2 = 0 then (some ((-1), s0)) else ((f_X10_isTongue fu s0 p2).bind (fun q_10 => if q_10 = 0 then (some ((-1), s0)) else (if p3 < 0 then (some ((-1), s0)) else (if p4 < 0 then (some ((-1), s0)) else (if 1 < p4 then (some ((-1), s0)) else (if 0 ≤ p5 then ((f_X10_layTongue fu s0 p1 p2).bind (fun q_41 => if p3 < (q_41.1 32) then (f_X10_signOf_L60 fu fu q_41 p3 p4 p5 0 0) else (some ((-1), q_41)))) else (some ((-1), s0)))))))))
theorem hdX10_signOf : yX10_signOf.cls = RX10 ∧ yX10_signOf.cls ≠ "java/lang/invoke/MethodHandle" ∧ yX10_signOf.cls ≠ "java/lang/invoke/VarHandle" ∧ (parseMethodDescriptor yX10_signOf.desc).map (fun d => d.parameters.length) = some 5 := by decide +kernel
set_option maxHeartbeats 4000000 in
set_option maxRecDepth 100000 in
theorem c_X10_signOf (l : Launch) (D : va_G) (cy : Nat → ClassId) (h0 : Nat) (a0 : Nat → Nat) (s0 : St) (sz fu : Nat) (p1 : Int32) (p2 : Int32) (p3 : Int32) (p4 : Int32) (p5 : Int32) (out : Int32 × St) (hf : f_X10_signOf fu s0 p1 p2 p3 p4 p5 = some out) :
    Met l yX10_signOf (WS yX10_signOf cX10_signOf 8 (some .int)) ({ frames := 5, cells := 0, slots := 0, locals := 130 } : Room) (va_Pc [.ref h0, .int p1, .int p2, .int p3, .int p4, .int p5] (gP D cy sz (w10 cy h0 a0 s0))) ((fun A : Nat → Prop => gQi D cy A out.1 (w10 cy h0 a0 out.2)) (va_A (w10 cy h0 a0 s0) sz)) 0 0 (va_A (w10 cy h0 a0 s0) sz) := by
  refine g_met (cc := cX10_signOf) (maxL := 8) (ret := (some .int)) (fun A : Nat → Prop => gQi D cy A out.1 (w10 cy h0 a0 out.2)) (by decide +kernel) rfl (Nat.le_of_ble_eq_true rfl) ?_
  intro p e s m below meth c A C hA hK hP hD ls hl
  obtain ⟨hx, hb, hr, hml, hown, hts, hlk⟩ := id C
  have hown : s.vm.findClass RX10 = some m.cls := hown
  have hS : va_S A s.heap s.heap [] := va_S.rf
  have hl : lv_has ls 8 [(0, .ref h0), (1, .int p1), (2, .int p2), (3, .int p3), (4, .int p4), (5, .int p5)] := hl
  have hk_133 := hts _ (List.mem_cons_of_mem _ fl_RX10_133)
  unfold f_X10_signOf at hf
  refine lv_aload_n hx hb dX10_signOf_0 rfl (lv_at hl 0 rfl) ?_
  refine lv_iload_n hx hb dX10_signOf_1 rfl (lv_at hl 1 rfl) ?_
  obtain ⟨q_2, hc_2, hf⟩ := op_bind hf
  refine g_callVi (As := [.int p1]) (rest := []) (w2 := w10 cy h0 a0 s0) ⟨hx, hb, hml, hown, hts⟩ (c_X10_isTitle l D cy h0 a0 s0 _ fu p1 _ hc_2) (cwV 1 hts (gi_V ml_RX10_259 im_X10_isTitle se_X10_isTitle in_RX10 cd_X10_isTitle) rfl rfl rfl hdX10_isTitle ⟨Nat.le_of_ble_eq_true rfl, Nat.le_of_ble_eq_true rfl⟩) (va_recv hK hP (ci := 9) (q0 := 0) rfl rfl) rfl hl.1 rfl (Nat.le_of_ble_eq_true rfl) dX10_signOf_2 hK hP hD hS hA [0, 1, 2, 3, 4, 5, 6, 7, 8, 9, 10, 11, 12, 13, 14, 15, 16, 17, 18, 19, 20, 21, 22, 23, 24, 25, 26, 27, 28, 29] [] [0, 1, 2, 3, 4, 5, 6, 7, 8, 9, 10, 11, 12, 13, 14, 15, 16, 17, 18, 19, 20, 21, 22, 23, 24, 25, 26, 27, 28, 29] rfl rfl rfl rfl (by decide) rfl rfl (fun H locs hP hD hS => ?_)
  refine lv_if_eq (tgt := 36) hx hb dX10_signOf_5 (by decide) (fun c_5 => ?_) (fun c_5 => ?_)
  · have hf := op_pos c_5 hf
    refine lv_iconst (v := (-1)) hx hb dX10_signOf_36 (by decide) ?_
    rw [← Option.some.inj hf]
    exact g_iret hx hb hr hlk hK hP hD hS dX10_signOf_37
  · have hf := op_neg c_5 hf
    refine lv_aload_n hx hb dX10_signOf_8 rfl (lv_at hl 0 rfl) ?_
    refine lv_iload_n hx hb dX10_signOf_9 rfl (lv_at hl 2 rfl) ?_
    obtain ⟨q_10, hc_10, hf⟩ := op_bind hf
    refine g_callVi (As := [.int p2]) (rest := []) (w2 := w10 cy h0 a0 s0) ⟨hx, hb, hml, hown, hts⟩ (c_X10_isTongue l D cy h0 a0 s0 _ fu p2 _ hc_10) (cwV 1 hts (gi_V ml_RX10_262 im_X10_isTongue se_X10_isTongue in_RX10 cd_X10_isTongue) rfl rfl rfl hdX10_isTongue ⟨Nat.le_of_ble_eq_true rfl, Nat.le_of_ble_eq_true rfl⟩) (va_recv hK hP (ci := 9) (q0 := 0) rfl rfl) rfl hl.1 rfl (Nat.le_of_ble_eq_true rfl) dX10_signOf_10 hK hP hD hS hA [0, 1, 2, 3, 4, 5, 6, 7, 8, 9, 10, 11, 12, 13, 14, 15, 16, 17, 18, 19, 20, 21, 22, 23, 24, 25, 26, 27, 28, 29] [] [0, 1, 2, 3, 4, 5, 6, 7, 8, 9, 10, 11, 12, 13, 14, 15, 16, 17, 18, 19, 20, 21, 22, 23, 24, 25, 26, 27, 28, 29] rfl rfl rfl rfl (by decide) rfl rfl (fun H locs hP hD hS => ?_)
    refine lv_if_eq (tgt := 36) hx hb dX10_signOf_13 (by decide) (fun c_13 => ?_) (fun c_13 => ?_)
    · have hf := op_pos c_13 hf
      refine lv_iconst (v := (-1)) hx hb dX10_signOf_36 (by decide) ?_
      rw [← Option.some.inj hf]
      exact g_iret hx hb hr hlk hK hP hD hS dX10_signOf_37
    · have hf := op_neg c_13 hf
      refine lv_iload_n hx hb dX10_signOf_16 rfl (lv_at hl 3 rfl) ?_
      refine lv_if_lt (tgt := 36) hx hb dX10_signOf_17 (by decide) (fun c_17 => ?_) (fun c_17 => ?_)
      · have hf := op_pos c_17 hf
        refine lv_iconst (v := (-1)) hx hb dX10_signOf_36 (by decide) ?_
        rw [← Option.some.inj hf]
        exact g_iret hx hb hr hlk hK hP hD hS dX10_signOf_37
      · have hf := op_neg c_17 hf
        refine lv_iload hx hb dX10_signOf_20 (lv_at hl 4 rfl) ?_
        refine lv_if_lt (tgt := 36) hx hb dX10_signOf_22 (by decide) (fun c_22 => ?_) (fun c_22 => ?_)
        · have hf := op_pos c_22 hf
          refine lv_iconst (v := (-1)) hx hb dX10_signOf_36 (by decide) ?_
          rw [← Option.some.inj hf]
          exact g_iret hx hb hr hlk hK hP hD hS dX10_signOf_37
        · have hf := op_neg c_22 hf
          refine lv_iload hx hb dX10_signOf_25 (lv_at hl 4 rfl) ?_
          refine lv_iconst (v := 1) hx hb dX10_signOf_27 (by decide) ?_
          refine lv_icmp_gt (tgt := 36) hx hb dX10_signOf_28 (by decide) (fun c_28 => ?_) (fun c_28 => ?_)
          · have hf := op_pos c_28 hf
            refine lv_iconst (v := (-1)) hx hb dX10_signOf_36 (by decide) ?_
            rw [← Option.some.inj hf]
            exact g_iret hx hb hr hlk hK hP hD hS dX10_signOf_37
          · have hf := op_neg c_28 hf
            refine lv_iload hx hb dX10_signOf_31 (lv_at hl 5 rfl) ?_
            refine lv_if_ge (tgt := 38) hx hb dX10_signOf_33 (by decide) (fun c_33 => ?_) (fun c_33 => ?_)
            · have hf := op_pos c_33 hf
              refine lv_aload_n hx hb dX10_signOf_38 rfl (lv_at hl 0 rfl) ?_
              refine lv_iload_n hx hb dX10_signOf_39 rfl (lv_at hl 1 rfl) ?_
              refine lv_iload_n hx hb dX10_signOf_40 rfl (lv_at hl 2 rfl) ?_
              obtain ⟨q_41, hc_41, hf⟩ := op_bind hf
              refine g_callVv (As := [.int p1, .int p2]) (rest := []) (w2 := w10 cy h0 a0 q_41) ⟨hx, hb, hml, hown, hts⟩ (c_X10_layTongue l D cy h0 a0 s0 _ fu p1 p2 _ hc_41) (cwV 2 hts (gi_V ml_RX10_268 im_X10_layTongue se_X10_layTongue in_RX10 cd_X10_layTongue) rfl rfl rfl hdX10_layTongue ⟨Nat.le_of_ble_eq_true rfl, Nat.le_of_ble_eq_true rfl⟩) (va_recv hK hP (ci := 9) (q0 := 0) rfl rfl) rfl hl.1 rfl (Nat.le_of_ble_eq_true rfl) dX10_signOf_41 hK hP hD hS hA [0, 1, 2, 3, 4, 5, 6, 7, 8, 9, 10, 11, 12, 13, 14, 15, 16, 17, 18, 19, 20, 21, 22, 23, 24, 25, 26, 27, 28, 29] [] [0, 1, 2, 3, 4, 5, 6, 7, 8, 9, 10, 11, 12, 13, 14, 15, 16, 17, 18, 19, 20, 21, 22, 23, 24, 25, 26, 27, 28, 29] rfl rfl rfl rfl (by decide) rfl rfl (fun H locs hP hD hS => ?_)
              refine lv_iload_n hx hb dX10_signOf_44 rfl (lv_at hl 3 rfl) ?_
              refine lv_aload_n hx hb dX10_signOf_45 rfl (lv_at hl 0 rfl) ?_
              refine va_get (ci := 9) (v := .int (q_41.1 32)) (C := RX10) (T := TX10) (N := 56) hx hb hts (fun w h => List.mem_cons_of_mem _ (inX10 w h)) hown hK hP 0 rfl rfl 32 (by decide) hk_133 (fun _ h9 => h9) rfl dX10_signOf_46 ?_
              refine lv_icmp_lt (tgt := 54) hx hb dX10_signOf_49 (by decide) (fun c_49 => ?_) (fun c_49 => ?_)
              · have hf := op_pos c_49 hf
                refine lv_iconst (v := 0) hx hb dX10_signOf_54 (by decide) ?_
                refine lv_istore (lv' := [(6, .int 0), (0, .ref h0), (1, .int p1), (2, .int p2), (3, .int p3), (4, .int p4), (5, .int p5)]) hx hb dX10_signOf_55 hl (by decide) rfl (fun ls hl => ?_)
                refine lv_iconst (v := 0) hx hb dX10_signOf_57 (by decide) ?_
                refine lv_istore (lv' := [(7, .int 0), (6, .int 0), (0, .ref h0), (1, .int p1), (2, .int p2), (3, .int p3), (4, .int p4), (5, .int p5)]) hx hb dX10_signOf_58 hl (by decide) rfl (fun ls hl => ?_)
                exact b_X10_signOf_L60 l D cy h0 a0 fu out C hA hK fu q_41 p3 p4 p5 0 0 hf _ _ ls hP hD hS (lv_sub hl [2, 5, 6, 7, 1, 0] rfl)
              · have hf := op_neg c_49 hf
                refine lv_iconst (v := (-1)) hx hb dX10_signOf_52 (by decide) ?_
                rw [← Option.some.inj hf]
                exact g_iret hx hb hr hlk hK hP hD hS dX10_signOf_53
            · have hf := op_neg c_33 hf
              refine lv_iconst (v := (-1)) hx hb dX10_signOf_36 (by decide) ?_
              rw [← Option.some.inj hf]
              exact g_iret hx hb hr hlk hK hP hD hS dX10_signOf_37
def f_X10_sign (fu : Nat)  (s0 : St) (p1 : Int32) (p2 : Int32) (p3 : Int32) (p4 : Int32) (p5 : Int32) : Option (Int32 × St) := (f_X10_signOf fu (sF s0 2 0) p1 p2 p3 p4 p5).bind (fun q_13 => some (q_13.1, q_13.2))
theorem hdX10_sign : yX10_sign.cls = RX10 ∧ yX10_sign.cls ≠ "java/lang/invoke/MethodHandle" ∧ yX10_sign.cls ≠ "java/lang/invoke/VarHandle" ∧ (parseMethodDescriptor yX10_sign.desc).map (fun d => d.parameters.length) = some 5 := by decide +kernel
set_option maxHeartbeats 4000000 in
set_option maxRecDepth 100000 in
theorem c_X10_sign (l : Launch) (D : va_G) (cy : Nat → ClassId) (h0 : Nat) (a0 : Nat → Nat) (s0 : St) (sz fu : Nat) (p1 : Int32) (p2 : Int32) (p3 : Int32) (p4 : Int32) (p5 : Int32) (out : Int32 × St) (hf : f_X10_sign fu s0 p1 p2 p3 p4 p5 = some out) :
    Met l yX10_sign (WS yX10_sign cX10_sign 6 (some .int)) ({ frames := 6, cells := 0, slots := 0, locals := 157 } : Room) (va_Pc [.ref h0, .int p1, .int p2, .int p3, .int p4, .int p5] (gP D cy sz (w10 cy h0 a0 s0))) ((fun A : Nat → Prop => gQi D cy A out.1 (w10 cy h0 a0 out.2)) (va_A (w10 cy h0 a0 s0) sz)) 0 0 (va_A (w10 cy h0 a0 s0) sz) := by
  refine g_met (cc := cX10_sign) (maxL := 6) (ret := (some .int)) (fun A : Nat → Prop => gQi D cy A out.1 (w10 cy h0 a0 out.2)) (by decide +kernel) rfl (Nat.le_of_ble_eq_true rfl) ?_
  intro p e s m below meth c A C hA hK hP hD ls hl
  obtain ⟨hx, hb, hr, hml, hown, hts, hlk⟩ := id C
  have hown : s.vm.findClass RX10 = some m.cls := hown
  have hS : va_S A s.heap s.heap [] := va_S.rf
  have hl : lv_has ls 6 [(0, .ref h0), (1, .int p1), (2, .int p2), (3, .int p3), (4, .int p4), (5, .int p5)] := hl
  have hk_113 := hts _ (List.mem_cons_of_mem _ fl_RX10_113)
  unfold f_X10_sign at hf
  refine lv_aload_n hx hb dX10_sign_0 rfl (lv_at hl 0 rfl) ?_
  refine lv_iconst (v := 0) hx hb dX10_sign_1 (by decide) ?_
  refine va_put (ci := 9) (v := .int 0) (ty := tyX10 2) (C := RX10) (T := TX10) (N := 56) hx hb hts (fun w h => List.mem_cons_of_mem _ (inX10 w h)) tyX10 tyX10_ok nmX10 hown hK hP hD hS 0 rfl rfl 2 (by decide) hk_113 (fun _ h9 => h9) rfl (tyX10_ok 2 (by decide)) rfl rfl (Nat.le_of_ble_eq_true rfl) dX10_sign_2 (fun H locs hP hD hS => ?_)
  have hP : va_P D vwCl (w10 cy h0 a0 (sF s0 2 0)) H := pP10_2 hP
  have hD : va_D A (w10 cy h0 a0 (sF s0 2 0)) := pD10_2 hD
  refine lv_aload_n hx hb dX10_sign_5 rfl (lv_at hl 0 rfl) ?_
  refine lv_iload_n hx hb dX10_sign_6 rfl (lv_at hl 1 rfl) ?_
  refine lv_iload_n hx hb dX10_sign_7 rfl (lv_at hl 2 rfl) ?_
  refine lv_iload_n hx hb dX10_sign_8 rfl (lv_at hl 3 rfl) ?_
  refine lv_iload hx hb dX10_sign_9 (lv_at hl 4 rfl) ?_
  refine lv_iload hx hb dX10_sign_11 (lv_at hl 5 rfl) ?_
  obtain ⟨q_13, hc_13, hf⟩ := op_bind hf
  refine g_callVi (As := [.int p1, .int p2, .int p3, .int p4, .int p5]) (rest := []) (w2 := w10 cy h0 a0 q_13.2) ⟨hx, hb, hml, hown, hts⟩ (c_X10_signOf l D cy h0 a0 (sF s0 2 0) _ fu p1 p2 p3 p4 p5 _ hc_13) (cwV 5 hts (gi_V ml_RX10_291 im_X10_signOf se_X10_signOf in_RX10 cd_X10_signOf) rfl rfl rfl hdX10_signOf ⟨Nat.le_of_ble_eq_true rfl, Nat.le_of_ble_eq_true rfl⟩) (va_recv hK hP (ci := 9) (q0 := 0) rfl rfl) rfl hl.1 rfl (Nat.le_of_ble_eq_true rfl) dX10_sign_13 hK hP hD hS hA [0, 1, 2, 3, 4, 5, 6, 7, 8, 9, 10, 11, 12, 13, 14, 15, 16, 17, 18, 19, 20, 21, 22, 23, 24, 25, 26, 27, 28, 29] [] [0, 1, 2, 3, 4, 5, 6, 7, 8, 9, 10, 11, 12, 13, 14, 15, 16, 17, 18, 19, 20, 21, 22, 23, 24, 25, 26, 27, 28, 29] rfl rfl rfl rfl (by decide) rfl rfl (fun H locs hP hD hS => ?_)
  rw [← Option.some.inj hf]
  exact g_iret hx hb hr hlk hK hP hD hS dX10_sign_16
def f_X10_standing_L4  (fu : Nat) (s0 : St) : Nat → Int32 → Int32 → Option (Int32)
  | 0, _, _ => none
  | n_4 + 1, x1, x2 => if (s0.1 7) ≤ x2 then (some x1) else (if inb x2 40 = true then (if (s0.1 22) < (s0.2 9 x2.toNatClampNeg) then (f_X10_standing_L4 fu s0 n_4 x1 (x2 + 1)) else (if inb x2 40 = true then (f_X10_standing_L4 fu s0 n_4 (s0.2 10 x2.toNatClampNeg) (x2 + 1)) else none)) else none)
set_option maxHeartbeats 4000000 in
set_option maxRecDepth 100000 in
theorem b_X10_standing_L4 {p : Program} {e : Env} {s : State} {m : MethodId} {args : Array Value} {below : List Frame} {meth : Method} {c : Code} {A : Nat → Prop} (l : Launch) (D : va_G) (cy : Nat → ClassId) (h0 : Nat) (a0 : Nat → Nat) (s0 : St) (fu : Nat) (out : Int32) (C : gC p s m args meth c (WS yX10_standing cX10_standing 3 (some .int)) cX10_standing 3 (some .int) RX10) (hA : ∀ q : Nat, s.heap.size ≤ q → A q) (hK : va_K D vwCl (TY cy) s)  :
    ∀ (n_4 : Nat), ∀ (x1 : Int32) (x2 : Int32), f_X10_standing_L4 fu s0 n_4 x1 x2 = some out → ∀ (H : Heap) (locs : List Loc) (ls : Array Slot), va_P D vwCl (w10 cy h0 a0 s0) H → va_D A (w10 cy h0 a0 s0) → va_S A s.heap H locs → lv_has ls 3 [(0, .ref h0), (1, .int x1), (2, .int x2)] → W p l e ({ frames := 0, cells := 0, slots := 0, locals := 0 } : Room) s m args below meth c H locs 0 0 (MQ below (gQi D cy A out (w10 cy h0 a0 s0)) args s 0 0 A) (F0 m 4 ls []) := by
  obtain ⟨hx, hb, hr, hml, hown, hts, hlk⟩ := id C
  have hown : s.vm.findClass RX10 = some m.cls := hown
  have hk_235 := hts _ (List.mem_cons_of_mem _ fl_RX10_235)
  have hk_26 := hts _ (List.mem_cons_of_mem _ fl_RX10_26)
  have hk_247 := hts _ (List.mem_cons_of_mem _ fl_RX10_247)
  have hk_29 := hts _ (List.mem_cons_of_mem _ fl_RX10_29)
  intro n_4
  induction n_4 with
  | zero => intro x1 x2 hf; exact op_no hf
  | succ n_4 ih_4 =>
    intro x1 x2 hf H locs ls hP hD hS hl
    rw [f_X10_standing_L4] at hf
    refine lv_iload_n hx hb dX10_standing_4 rfl (lv_at hl 2 rfl) ?_
    refine lv_aload_n hx hb dX10_standing_5 rfl (lv_at hl 0 rfl) ?_
    refine va_get (ci := 9) (v := .int (s0.1 7)) (C := RX10) (T := TX10) (N := 56) hx hb hts (fun w h => List.mem_cons_of_mem _ (inX10 w h)) hown hK hP 0 rfl rfl 7 (by decide) hk_235 (fun _ h9 => h9) rfl dX10_standing_6 ?_
    refine lv_icmp_ge (tgt := 42) hx hb dX10_standing_9 (by decide) (fun c_9 => ?_) (fun c_9 => ?_)
    · have hf := op_pos c_9 hf
      refine lv_iload_n hx hb dX10_standing_42 rfl (lv_at hl 1 rfl) ?_
      rw [← Option.some.inj hf]
      exact g_iret hx hb hr hlk hK hP hD hS dX10_standing_43
    · have hf := op_neg c_9 hf
      refine lv_aload_n hx hb dX10_standing_12 rfl (lv_at hl 0 rfl) ?_
      refine va_get (ci := 9) (v := .ref (a0 9)) (C := RX10) (T := TX10) (N := 56) hx hb hts (fun w h => List.mem_cons_of_mem _ (inX10 w h)) hown hK hP 0 rfl rfl 9 (by decide) hk_26 (fun _ h9 => h9) rfl dX10_standing_13 ?_
      refine lv_iload_n hx hb dX10_standing_16 rfl (lv_at hl 2 rfl) ?_
      obtain ⟨hg_17, hf⟩ := op_if hf
      refine va_iald (f := s0.2 9) hx hb hK hP 4 0 rfl rfl (inb_in hg_17) dX10_standing_17 ?_
      refine lv_aload_n hx hb dX10_standing_18 rfl (lv_at hl 0 rfl) ?_
      refine va_get (ci := 9) (v := .int (s0.1 22)) (C := RX10) (T := TX10) (N := 56) hx hb hts (fun w h => List.mem_cons_of_mem _ (inX10 w h)) hown hK hP 0 rfl rfl 22 (by decide) hk_247 (fun _ h9 => h9) rfl dX10_standing_19 ?_
      refine lv_icmp_gt (tgt := 34) hx hb dX10_standing_22 (by decide) (fun c_22 => ?_) (fun c_22 => ?_)
      · have hf := op_pos c_22 hf
        refine lv_iload_n hx hb dX10_standing_34 rfl (lv_at hl 1 rfl) ?_
        refine lv_istore_n (lv' := [(1, .int x1), (0, .ref h0), (2, .int x2)]) hx hb dX10_standing_35 rfl hl (by decide) rfl (fun ls hl => ?_)
        refine lv_iinc (v := x2 + 1) (lv' := [(2, .int (x2 + 1)), (1, .int x1), (0, .ref h0)]) hx hb dX10_standing_36 hl (k := 2) rfl rfl (by decide) rfl (fun ls hl => ?_)
        refine lv_goto (tgt := 4) hx hb dX10_standing_39 (by decide) ?_
        exact ih_4 x1 (x2 + 1) hf _ _ ls hP hD hS (lv_sub hl [2, 1, 0] rfl)
      · have hf := op_neg c_22 hf
        refine lv_aload_n hx hb dX10_standing_25 rfl (lv_at hl 0 rfl) ?_
        refine va_get (ci := 9) (v := .ref (a0 10)) (C := RX10) (T := TX10) (N := 56) hx hb hts (fun w h => List.mem_cons_of_mem _ (inX10 w h)) hown hK hP 0 rfl rfl 10 (by decide) hk_29 (fun _ h9 => h9) rfl dX10_standing_26 ?_
        refine lv_iload_n hx hb dX10_standing_29 rfl (lv_at hl 2 rfl) ?_
        obtain ⟨hg_30, hf⟩ := op_if hf
        refine va_iald (f := s0.2 10) hx hb hK hP 5 0 rfl rfl (inb_in hg_30) dX10_standing_30 ?_
        refine lv_goto (tgt := 35) hx hb dX10_standing_31 (by decide) ?_
        refine lv_istore_n (lv' := [(1, .int (s0.2 10 x2.toNatClampNeg)), (0, .ref h0), (2, .int x2)]) hx hb dX10_standing_35 rfl hl (by decide) rfl (fun ls hl => ?_)
        refine lv_iinc (v := x2 + 1) (lv' := [(2, .int (x2 + 1)), (1, .int (s0.2 10 x2.toNatClampNeg)), (0, .ref h0)]) hx hb dX10_standing_36 hl (k := 2) rfl rfl (by decide) rfl (fun ls hl => ?_)
        refine lv_goto (tgt := 4) hx hb dX10_standing_39 (by decide) ?_
        exact ih_4 (s0.2 10 x2.toNatClampNeg) (x2 + 1) hf _ _ ls hP hD hS (lv_sub hl [2, 1, 0] rfl)
def f_X10_standing (fu : Nat) (s0 : St)   : Option (Int32) := f_X10_standing_L4 fu s0 fu (-1) 0
theorem hdX10_standing : yX10_standing.cls = RX10 ∧ yX10_standing.cls ≠ "java/lang/invoke/MethodHandle" ∧ yX10_standing.cls ≠ "java/lang/invoke/VarHandle" ∧ (parseMethodDescriptor yX10_standing.desc).map (fun d => d.parameters.length) = some 0 := by decide +kernel
set_option maxHeartbeats 4000000 in
set_option maxRecDepth 100000 in
theorem c_X10_standing (l : Launch) (D : va_G) (cy : Nat → ClassId) (h0 : Nat) (a0 : Nat → Nat) (s0 : St) (sz fu : Nat)  (out : Int32) (hf : f_X10_standing fu s0 = some out) :
    Met l yX10_standing (WS yX10_standing cX10_standing 3 (some .int)) ({ frames := 0, cells := 0, slots := 0, locals := 0 } : Room) (va_Pc [.ref h0] (gP D cy sz (w10 cy h0 a0 s0))) ((fun A : Nat → Prop => gQi D cy A out (w10 cy h0 a0 s0)) (va_A (w10 cy h0 a0 s0) sz)) 0 0 (va_A (w10 cy h0 a0 s0) sz) := by
  refine g_met (cc := cX10_standing) (maxL := 3) (ret := (some .int)) (fun A : Nat → Prop => gQi D cy A out (w10 cy h0 a0 s0)) (by decide +kernel) rfl (Nat.le_of_ble_eq_true rfl) ?_
  intro p e s m below meth c A C hA hK hP hD ls hl
  obtain ⟨hx, hb, hr, hml, hown, hts, hlk⟩ := id C
  have hown : s.vm.findClass RX10 = some m.cls := hown
  have hS : va_S A s.heap s.heap [] := va_S.rf
  have hl : lv_has ls 3 [(0, .ref h0)] := hl
  unfold f_X10_standing at hf
  refine lv_iconst (v := (-1)) hx hb dX10_standing_0 (by decide) ?_
  refine lv_istore_n (lv' := [(1, .int (-1)), (0, .ref h0)]) hx hb dX10_standing_1 rfl hl (by decide) rfl (fun ls hl => ?_)
  refine lv_iconst (v := 0) hx hb dX10_standing_2 (by decide) ?_
  refine lv_istore_n (lv' := [(2, .int 0), (1, .int (-1)), (0, .ref h0)]) hx hb dX10_standing_3 rfl hl (by decide) rfl (fun ls hl => ?_)
  exact b_X10_standing_L4 l D cy h0 a0 s0 fu out C hA hK fu (-1) 0 hf _ _ ls hP hD hS (lv_sub hl [2, 1, 0] rfl)
def f_X10_stepNow (fu : Nat)  (s0 : St) (p1 : Int32) : Option (Int32 × St) := (f_X10_bars fu s0 p1 (s0.1 22)).bind (fun q_7 => if inb p1 40 = true then ((f_X10_endOf fu s0 (s0.2 11 p1.toNatClampNeg)).bind (fun q_19 => (f_X10_bars fu s0 p1 q_19).bind (fun q_22 => (f_X10_steps fu s0 p1).bind (fun q_27 => (f_X10_stepAt fu q_27.2 q_7 q_22 q_27.1).bind (fun q_30 => some (q_30, q_27.2)))))) else none)
theorem hdX10_stepNow : yX10_stepNow.cls = RX10 ∧ yX10_stepNow.cls ≠ "java/lang/invoke/MethodHandle" ∧ yX10_stepNow.cls ≠ "java/lang/invoke/VarHandle" ∧ (parseMethodDescriptor yX10_stepNow.desc).map (fun d => d.parameters.length) = some 1 := by decide +kernel
set_option maxHeartbeats 4000000 in
set_option maxRecDepth 100000 in
theorem c_X10_stepNow (l : Launch) (D : va_G) (cy : Nat → ClassId) (h0 : Nat) (a0 : Nat → Nat) (s0 : St) (sz fu : Nat) (p1 : Int32) (out : Int32 × St) (hf : f_X10_stepNow fu s0 p1 = some out) :
    Met l yX10_stepNow (WS yX10_stepNow cX10_stepNow 2 (some .int)) ({ frames := 6, cells := 0, slots := 0, locals := 153 } : Room) (va_Pc [.ref h0, .int p1] (gP D cy sz (w10 cy h0 a0 s0))) ((fun A : Nat → Prop => gQi D cy A out.1 (w10 cy h0 a0 out.2)) (va_A (w10 cy h0 a0 s0) sz)) 0 0 (va_A (w10 cy h0 a0 s0) sz) := by
  refine g_met (cc := cX10_stepNow) (maxL := 2) (ret := (some .int)) (fun A : Nat → Prop => gQi D cy A out.1 (w10 cy h0 a0 out.2)) (by decide +kernel) rfl (Nat.le_of_ble_eq_true rfl) ?_
  intro p e s m below meth c A C hA hK hP hD ls hl
  obtain ⟨hx, hb, hr, hml, hown, hts, hlk⟩ := id C
  have hown : s.vm.findClass RX10 = some m.cls := hown
  have hS : va_S A s.heap s.heap [] := va_S.rf
  have hl : lv_has ls 2 [(0, .ref h0), (1, .int p1)] := hl
  have hk_247 := hts _ (List.mem_cons_of_mem _ fl_RX10_247)
  have hk_32 := hts _ (List.mem_cons_of_mem _ fl_RX10_32)
  unfold f_X10_stepNow at hf
  refine lv_aload_n hx hb dX10_stepNow_0 rfl (lv_at hl 0 rfl) ?_
  refine lv_aload_n hx hb dX10_stepNow_1 rfl (lv_at hl 0 rfl) ?_
  refine lv_iload_n hx hb dX10_stepNow_2 rfl (lv_at hl 1 rfl) ?_
  refine lv_aload_n hx hb dX10_stepNow_3 rfl (lv_at hl 0 rfl) ?_
  refine va_get (ci := 9) (v := .int (s0.1 22)) (C := RX10) (T := TX10) (N := 56) hx hb hts (fun w h => List.mem_cons_of_mem _ (inX10 w h)) hown hK hP 0 rfl rfl 22 (by decide) hk_247 (fun _ h9 => h9) rfl dX10_stepNow_4 ?_
  obtain ⟨q_7, hc_7, hf⟩ := op_bind hf
  refine g_callVi (As := [.int p1, .int (s0.1 22)]) (rest := [.ref h0]) (w2 := w10 cy h0 a0 s0) ⟨hx, hb, hml, hown, hts⟩ (c_X10_bars l D cy h0 a0 s0 _ fu p1 (s0.1 22) _ hc_7) (cwV 2 hts (gi_V ml_RX10_279 im_X10_bars se_X10_bars in_RX10 cd_X10_bars) rfl rfl rfl hdX10_bars ⟨Nat.le_of_ble_eq_true rfl, Nat.le_of_ble_eq_true rfl⟩) (va_recv hK hP (ci := 9) (q0 := 0) rfl rfl) rfl hl.1 rfl (Nat.le_of_ble_eq_true rfl) dX10_stepNow_7 hK hP hD hS hA [0, 1, 2, 3, 4, 5, 6, 7, 8, 9, 10, 11, 12, 13, 14, 15, 16, 17, 18, 19, 20, 21, 22, 23, 24, 25, 26, 27, 28, 29] [] [0, 1, 2, 3, 4, 5, 6, 7, 8, 9, 10, 11, 12, 13, 14, 15, 16, 17, 18, 19, 20, 21, 22, 23, 24, 25, 26, 27, 28, 29] rfl rfl rfl rfl (by decide) rfl rfl (fun H locs hP hD hS => ?_)
  refine lv_aload_n hx hb dX10_stepNow_10 rfl (lv_at hl 0 rfl) ?_
  refine lv_iload_n hx hb dX10_stepNow_11 rfl (lv_at hl 1 rfl) ?_
  refine lv_aload_n hx hb dX10_stepNow_12 rfl (lv_at hl 0 rfl) ?_
  refine lv_aload_n hx hb dX10_stepNow_13 rfl (lv_at hl 0 rfl) ?_
  refine va_get (ci := 9) (v := .ref (a0 11)) (C := RX10) (T := TX10) (N := 56) hx hb hts (fun w h => List.mem_cons_of_mem _ (inX10 w h)) hown hK hP 0 rfl rfl 11 (by decide) hk_32 (fun _ h9 => h9) rfl dX10_stepNow_14 ?_
  refine lv_iload_n hx hb dX10_stepNow_17 rfl (lv_at hl 1 rfl) ?_
  obtain ⟨hg_18, hf⟩ := op_if hf
  refine va_iald (f := s0.2 11) hx hb hK hP 6 0 rfl rfl (inb_in hg_18) dX10_stepNow_18 ?_
  obtain ⟨q_19, hc_19, hf⟩ := op_bind hf
  refine g_callVi (As := [.int (s0.2 11 p1.toNatClampNeg)]) (rest := [.int p1, .ref h0, .int q_7, .ref h0]) (w2 := w10 cy h0 a0 s0) ⟨hx, hb, hml, hown, hts⟩ (c_X10_endOf l D cy h0 a0 s0 _ fu (s0.2 11 p1.toNatClampNeg) _ hc_19) (cwV 1 hts (gi_V ml_RX10_276 im_X10_endOf se_X10_endOf in_RX10 cd_X10_endOf) rfl rfl rfl hdX10_endOf ⟨Nat.le_of_ble_eq_true rfl, Nat.le_of_ble_eq_true rfl⟩) (va_recv hK hP (ci := 9) (q0 := 0) rfl rfl) rfl hl.1 rfl (Nat.le_of_ble_eq_true rfl) dX10_stepNow_19 hK hP hD hS hA [0, 1, 2, 3, 4, 5, 6, 7, 8, 9, 10, 11, 12, 13, 14, 15, 16, 17, 18, 19, 20, 21, 22, 23, 24, 25, 26, 27, 28, 29] [] [0, 1, 2, 3, 4, 5, 6, 7, 8, 9, 10, 11, 12, 13, 14, 15, 16, 17, 18, 19, 20, 21, 22, 23, 24, 25, 26, 27, 28, 29] rfl rfl rfl rfl (by decide) rfl rfl (fun H locs hP hD hS => ?_)
  obtain ⟨q_22, hc_22, hf⟩ := op_bind hf
  refine g_callVi (As := [.int p1, .int q_19]) (rest := [.int q_7, .ref h0]) (w2 := w10 cy h0 a0 s0) ⟨hx, hb, hml, hown, hts⟩ (c_X10_bars l D cy h0 a0 s0 _ fu p1 q_19 _ hc_22) (cwV 2 hts (gi_V ml_RX10_279 im_X10_bars se_X10_bars in_RX10 cd_X10_bars) rfl rfl rfl hdX10_bars ⟨Nat.le_of_ble_eq_true rfl, Nat.le_of_ble_eq_true rfl⟩) (va_recv hK hP (ci := 9) (q0 := 0) rfl rfl) rfl hl.1 rfl (Nat.le_of_ble_eq_true rfl) dX10_stepNow_22 hK hP hD hS hA [0, 1, 2, 3, 4, 5, 6, 7, 8, 9, 10, 11, 12, 13, 14, 15, 16, 17, 18, 19, 20, 21, 22, 23, 24, 25, 26, 27, 28, 29] [] [0, 1, 2, 3, 4, 5, 6, 7, 8, 9, 10, 11, 12, 13, 14, 15, 16, 17, 18, 19, 20, 21, 22, 23, 24, 25, 26, 27, 28, 29] rfl rfl rfl rfl (by decide) rfl rfl (fun H locs hP hD hS => ?_)
  refine lv_aload_n hx hb dX10_stepNow_25 rfl (lv_at hl 0 rfl) ?_
  refine lv_iload_n hx hb dX10_stepNow_26 rfl (lv_at hl 1 rfl) ?_
  obtain ⟨q_27, hc_27, hf⟩ := op_bind hf
  refine g_callVi (As := [.int p1]) (rest := [.int q_22, .int q_7, .ref h0]) (w2 := w10 cy h0 a0 q_27.2) ⟨hx, hb, hml, hown, hts⟩ (c_X10_steps l D cy h0 a0 s0 _ fu p1 _ hc_27) (cwV 1 hts (gi_V ml_RX10_272 im_X10_steps se_X10_steps in_RX10 cd_X10_steps) rfl rfl rfl hdX10_steps ⟨Nat.le_of_ble_eq_true rfl, Nat.le_of_ble_eq_true rfl⟩) (va_recv hK hP (ci := 9) (q0 := 0) rfl rfl) rfl hl.1 rfl (Nat.le_of_ble_eq_true rfl) dX10_stepNow_27 hK hP hD hS hA [0, 1, 2, 3, 4, 5, 6, 7, 8, 9, 10, 11, 12, 13, 14, 15, 16, 17, 18, 19, 20, 21, 22, 23, 24, 25, 26, 27, 28, 29] [] [0, 1, 2, 3, 4, 5, 6, 7, 8, 9, 10, 11, 12, 13, 14, 15, 16, 17, 18, 19, 20, 21, 22, 23, 24, 25, 26, 27, 28, 29] rfl rfl rfl rfl (by decide) rfl rfl (fun H locs hP hD hS => ?_)
  obtain ⟨q_30, hc_30, hf⟩ := op_bind hf
  refine g_callVi (As := [.int q_7, .int q_22, .int q_27.1]) (rest := []) (w2 := w10 cy h0 a0 q_27.2) ⟨hx, hb, hml, hown, hts⟩ (c_X10_stepAt l D cy h0 a0 q_27.2 _ fu q_7 q_22 q_27.1 _ hc_30) (cwV 3 hts (gi_V ml_RX10_282 im_X10_stepAt se_X10_stepAt in_RX10 cd_X10_stepAt) rfl rfl rfl hdX10_stepAt ⟨Nat.le_of_ble_eq_true rfl, Nat.le_of_ble_eq_true rfl⟩) (va_recv hK hP (ci := 9) (q0 := 0) rfl rfl) rfl hl.1 rfl (Nat.le_of_ble_eq_true rfl) dX10_stepNow_30 hK hP hD hS hA [0, 1, 2, 3, 4, 5, 6, 7, 8, 9, 10, 11, 12, 13, 14, 15, 16, 17, 18, 19, 20, 21, 22, 23, 24, 25, 26, 27, 28, 29] [] [0, 1, 2, 3, 4, 5, 6, 7, 8, 9, 10, 11, 12, 13, 14, 15, 16, 17, 18, 19, 20, 21, 22, 23, 24, 25, 26, 27, 28, 29] rfl rfl rfl rfl (by decide) rfl rfl (fun H locs hP hD hS => ?_)
  rw [← Option.some.inj hf]
  exact g_iret hx hb hr hlk hK hP hD hS dX10_stepNow_33
def f_X10_pageNow (fu : Nat)  (s0 : St) (p1 : Int32) (p2 : Int32) : Option (Int32 × St) := (f_X10_steps fu s0 p1).bind (fun q_2 => (f_X10_stepNow fu q_2.2 p1).bind (fun q_8 => (f_X10_layTongue fu q_8.2 p1 p2).bind (fun q_16 => if nz q_2.1 = true then (some ((q_8.1 * (q_16.1 32)) / q_2.1, q_16)) else none)))
theorem hdX10_pageNow : yX10_pageNow.cls = RX10 ∧ yX10_pageNow.cls ≠ "java/lang/invoke/MethodHandle" ∧ yX10_pageNow.cls ≠ "java/lang/invoke/VarHandle" ∧ (parseMethodDescriptor yX10_pageNow.desc).map (fun d => d.parameters.length) = some 2 := by decide +kernel
set_option maxHeartbeats 4000000 in
set_option maxRecDepth 100000 in
theorem c_X10_pageNow (l : Launch) (D : va_G) (cy : Nat → ClassId) (h0 : Nat) (a0 : Nat → Nat) (s0 : St) (sz fu : Nat) (p1 : Int32) (p2 : Int32) (out : Int32 × St) (hf : f_X10_pageNow fu s0 p1 p2 = some out) :
    Met l yX10_pageNow (WS yX10_pageNow cX10_pageNow 5 (some .int)) ({ frames := 7, cells := 0, slots := 0, locals := 174 } : Room) (va_Pc [.ref h0, .int p1, .int p2] (gP D cy sz (w10 cy h0 a0 s0))) ((fun A : Nat → Prop => gQi D cy A out.1 (w10 cy h0 a0 out.2)) (va_A (w10 cy h0 a0 s0) sz)) 0 0 (va_A (w10 cy h0 a0 s0) sz) := by
  refine g_met (cc := cX10_pageNow) (maxL := 5) (ret := (some .int)) (fun A : Nat → Prop => gQi D cy A out.1 (w10 cy h0 a0 out.2)) (by decide +kernel) rfl (Nat.le_of_ble_eq_true rfl) ?_
  intro p e s m below meth c A C hA hK hP hD ls hl
  obtain ⟨hx, hb, hr, hml, hown, hts, hlk⟩ := id C
  have hown : s.vm.findClass RX10 = some m.cls := hown
  have hS : va_S A s.heap s.heap [] := va_S.rf
  have hl : lv_has ls 5 [(0, .ref h0), (1, .int p1), (2, .int p2)] := hl
  have hk_133 := hts _ (List.mem_cons_of_mem _ fl_RX10_133)
  unfold f_X10_pageNow at hf
  refine lv_aload_n hx hb dX10_pageNow_0 rfl (lv_at hl 0 rfl) ?_
  refine lv_iload_n hx hb dX10_pageNow_1 rfl (lv_at hl 1 rfl) ?_
  obtain ⟨q_2, hc_2, hf⟩ := op_bind hf
  refine g_callVi (As := [.int p1]) (rest := []) (w2 := w10 cy h0 a0 q_2.2) ⟨hx, hb, hml, hown, hts⟩ (c_X10_steps l D cy h0 a0 s0 _ fu p1 _ hc_2) (cwV 1 hts (gi_V ml_RX10_272 im_X10_steps se_X10_steps in_RX10 cd_X10_steps) rfl rfl rfl hdX10_steps ⟨Nat.le_of_ble_eq_true rfl, Nat.le_of_ble_eq_true rfl⟩) (va_recv hK hP (ci := 9) (q0 := 0) rfl rfl) rfl hl.1 rfl (Nat.le_of_ble_eq_true rfl) dX10_pageNow_2 hK hP hD hS hA [0, 1, 2, 3, 4, 5, 6, 7, 8, 9, 10, 11, 12, 13, 14, 15, 16, 17, 18, 19, 20, 21, 22, 23, 24, 25, 26, 27, 28, 29] [] [0, 1, 2, 3, 4, 5, 6, 7, 8, 9, 10, 11, 12, 13, 14, 15, 16, 17, 18, 19, 20, 21, 22, 23, 24, 25, 26, 27, 28, 29] rfl rfl rfl rfl (by decide) rfl rfl (fun H locs hP hD hS => ?_)
  refine lv_istore_n (lv' := [(3, .int q_2.1), (0, .ref h0), (1, .int p1), (2, .int p2)]) hx hb dX10_pageNow_5 rfl hl (by decide) rfl (fun ls hl => ?_)
  refine lv_aload_n hx hb dX10_pageNow_6 rfl (lv_at hl 1 rfl) ?_
  refine lv_iload_n hx hb dX10_pageNow_7 rfl (lv_at hl 2 rfl) ?_
  obtain ⟨q_8, hc_8, hf⟩ := op_bind hf
  refine g_callVi (As := [.int p1]) (rest := []) (w2 := w10 cy h0 a0 q_8.2) ⟨hx, hb, hml, hown, hts⟩ (c_X10_stepNow l D cy h0 a0 q_2.2 _ fu p1 _ hc_8) (cwV 1 hts (gi_V ml_RX10_295 im_X10_stepNow se_X10_stepNow in_RX10 cd_X10_stepNow) rfl rfl rfl hdX10_stepNow ⟨Nat.le_of_ble_eq_true rfl, Nat.le_of_ble_eq_true rfl⟩) (va_recv hK hP (ci := 9) (q0 := 0) rfl rfl) rfl hl.1 rfl (Nat.le_of_ble_eq_true rfl) dX10_pageNow_8 hK hP hD hS hA [0, 1, 2, 3, 4, 5, 6, 7, 8, 9, 10, 11, 12, 13, 14, 15, 16, 17, 18, 19, 20, 21, 22, 23, 24, 25, 26, 27, 28, 29] [] [0, 1, 2, 3, 4, 5, 6, 7, 8, 9, 10, 11, 12, 13, 14, 15, 16, 17, 18, 19, 20, 21, 22, 23, 24, 25, 26, 27, 28, 29] rfl rfl rfl rfl (by decide) rfl rfl (fun H locs hP hD hS => ?_)
  refine lv_istore (lv' := [(4, .int q_8.1), (3, .int q_2.1), (0, .ref h0), (1, .int p1), (2, .int p2)]) hx hb dX10_pageNow_11 hl (by decide) rfl (fun ls hl => ?_)
  refine lv_aload_n hx hb dX10_pageNow_13 rfl (lv_at hl 2 rfl) ?_
  refine lv_iload_n hx hb dX10_pageNow_14 rfl (lv_at hl 3 rfl) ?_
  refine lv_iload_n hx hb dX10_pageNow_15 rfl (lv_at hl 4 rfl) ?_
  obtain ⟨q_16, hc_16, hf⟩ := op_bind hf
  refine g_callVv (As := [.int p1, .int p2]) (rest := []) (w2 := w10 cy h0 a0 q_16) ⟨hx, hb, hml, hown, hts⟩ (c_X10_layTongue l D cy h0 a0 q_8.2 _ fu p1 p2 _ hc_16) (cwV 2 hts (gi_V ml_RX10_268 im_X10_layTongue se_X10_layTongue in_RX10 cd_X10_layTongue) rfl rfl rfl hdX10_layTongue ⟨Nat.le_of_ble_eq_true rfl, Nat.le_of_ble_eq_true rfl⟩) (va_recv hK hP (ci := 9) (q0 := 0) rfl rfl) rfl hl.1 rfl (Nat.le_of_ble_eq_true rfl) dX10_pageNow_16 hK hP hD hS hA [0, 1, 2, 3, 4, 5, 6, 7, 8, 9, 10, 11, 12, 13, 14, 15, 16, 17, 18, 19, 20, 21, 22, 23, 24, 25, 26, 27, 28, 29] [] [0, 1, 2, 3, 4, 5, 6, 7, 8, 9, 10, 11, 12, 13, 14, 15, 16, 17, 18, 19, 20, 21, 22, 23, 24, 25, 26, 27, 28, 29] rfl rfl rfl rfl (by decide) rfl rfl (fun H locs hP hD hS => ?_)
  refine lv_iload hx hb dX10_pageNow_19 (lv_at hl 0 rfl) ?_
  refine lv_aload_n hx hb dX10_pageNow_21 rfl (lv_at hl 2 rfl) ?_
  refine va_get (ci := 9) (v := .int (q_16.1 32)) (C := RX10) (T := TX10) (N := 56) hx hb hts (fun w h => List.mem_cons_of_mem _ (inX10 w h)) hown hK hP 0 rfl rfl 32 (by decide) hk_133 (fun _ h9 => h9) rfl dX10_pageNow_22 ?_
  refine lv_imul hx hb dX10_pageNow_25 ?_
  refine lv_iload_n hx hb dX10_pageNow_26 rfl (lv_at hl 1 rfl) ?_
  obtain ⟨hg_27, hf⟩ := op_if hf
  refine lv_idiv hx hb dX10_pageNow_27 (nz_ne hg_27) ?_
  rw [← Option.some.inj hf]
  exact g_iret hx hb hr hlk hK hP hD hS dX10_pageNow_28
def f_X10_shown (fu : Nat)  (s0 : St) (p1 : Int32) : Option (Int32 × St) := (f_X10_standing fu (sF s0 2 0)).bind (fun q_6 => if p1 < 0 then (some ((-1), sF s0 2 0)) else (if 5 < p1 then (some ((-1), sF s0 2 0)) else (if 0 ≤ q_6 then (if p1 = 0 then (some (q_6, sF s0 2 0)) else (if p1 = 1 then ((f_X10_stepNow fu (sF s0 2 0) q_6).bind (fun q_38 => some (q_38.1, q_38.2))) else ((f_X10_isTongue fu (sF s0 2 0) (p1 - 2)).bind (fun q_46 => if q_46 = 0 then (some ((-1), sF s0 2 0)) else ((f_X10_pageNow fu (sF s0 2 0) q_6 (p1 - 2)).bind (fun q_57 => some (q_57.1, q_57.2))))))) else (some ((-1), sF s0 2 0)))))
theorem hdX10_shown : yX10_shown.cls = RX10 ∧ yX10_shown.cls ≠ "java/lang/invoke/MethodHandle" ∧ yX10_shown.cls ≠ "java/lang/invoke/VarHandle" ∧ (parseMethodDescriptor yX10_shown.desc).map (fun d => d.parameters.length) = some 1 := by decide +kernel
set_option maxHeartbeats 4000000 in
set_option maxRecDepth 100000 in
theorem c_X10_shown (l : Launch) (D : va_G) (cy : Nat → ClassId) (h0 : Nat) (a0 : Nat → Nat) (s0 : St) (sz fu : Nat) (p1 : Int32) (out : Int32 × St) (hf : f_X10_shown fu s0 p1 = some out) :
    Met l yX10_shown (WS yX10_shown cX10_shown 3 (some .int)) ({ frames := 8, cells := 0, slots := 0, locals := 198 } : Room) (va_Pc [.ref h0, .int p1] (gP D cy sz (w10 cy h0 a0 s0))) ((fun A : Nat → Prop => gQi D cy A out.1 (w10 cy h0 a0 out.2)) (va_A (w10 cy h0 a0 s0) sz)) 0 0 (va_A (w10 cy h0 a0 s0) sz) := by
  refine g_met (cc := cX10_shown) (maxL := 3) (ret := (some .int)) (fun A : Nat → Prop => gQi D cy A out.1 (w10 cy h0 a0 out.2)) (by decide +kernel) rfl (Nat.le_of_ble_eq_true rfl) ?_
  intro p e s m below meth c A C hA hK hP hD ls hl
  obtain ⟨hx, hb, hr, hml, hown, hts, hlk⟩ := id C
  have hown : s.vm.findClass RX10 = some m.cls := hown
  have hS : va_S A s.heap s.heap [] := va_S.rf
  have hl : lv_has ls 3 [(0, .ref h0), (1, .int p1)] := hl
  have hk_113 := hts _ (List.mem_cons_of_mem _ fl_RX10_113)
  unfold f_X10_shown at hf
  refine lv_aload_n hx hb dX10_shown_0 rfl (lv_at hl 0 rfl) ?_
  refine lv_iconst (v := 0) hx hb dX10_shown_1 (by decide) ?_
  refine va_put (ci := 9) (v := .int 0) (ty := tyX10 2) (C := RX10) (T := TX10) (N := 56) hx hb hts (fun w h => List.mem_cons_of_mem _ (inX10 w h)) tyX10 tyX10_ok nmX10 hown hK hP hD hS 0 rfl rfl 2 (by decide) hk_113 (fun _ h9 => h9) rfl (tyX10_ok 2 (by decide)) rfl rfl (Nat.le_of_ble_eq_true rfl) dX10_shown_2 (fun H locs hP hD hS => ?_)
  have hP : va_P D vwCl (w10 cy h0 a0 (sF s0 2 0)) H := pP10_2 hP
  have hD : va_D A (w10 cy h0 a0 (sF s0 2 0)) := pD10_2 hD
  refine lv_aload_n hx hb dX10_shown_5 rfl (lv_at hl 0 rfl) ?_
  obtain ⟨q_6, hc_6, hf⟩ := op_bind hf
  refine g_callVi (As := []) (rest := []) (w2 := w10 cy h0 a0 (sF s0 2 0)) ⟨hx, hb, hml, hown, hts⟩ (c_X10_standing l D cy h0 a0 (sF s0 2 0) _ fu _ hc_6) (cwV 0 hts (gi_V ml_RX10_298 im_X10_standing se_X10_standing in_RX10 cd_X10_standing) rfl rfl rfl hdX10_standing ⟨Nat.le_of_ble_eq_true rfl, Nat.le_of_ble_eq_true rfl⟩) (va_recv hK hP (ci := 9) (q0 := 0) rfl rfl) rfl hl.1 rfl (Nat.le_of_ble_eq_true rfl) dX10_shown_6 hK hP hD hS hA [0, 1, 2, 3, 4, 5, 6, 7, 8, 9, 10, 11, 12, 13, 14, 15, 16, 17, 18, 19, 20, 21, 22, 23, 24, 25, 26, 27, 28, 29] [] [0, 1, 2, 3, 4, 5, 6, 7, 8, 9, 10, 11, 12, 13, 14, 15, 16, 17, 18, 19, 20, 21, 22, 23, 24, 25, 26, 27, 28, 29] rfl rfl rfl rfl (by decide) rfl rfl (fun H locs hP hD hS => ?_)
  refine lv_istore_n (lv' := [(2, .int q_6), (0, .ref h0), (1, .int p1)]) hx hb dX10_shown_9 rfl hl (by decide) rfl (fun ls hl => ?_)
  refine lv_iload_n hx hb dX10_shown_10 rfl (lv_at hl 2 rfl) ?_
  refine lv_if_lt (tgt := 23) hx hb dX10_shown_11 (by decide) (fun c_11 => ?_) (fun c_11 => ?_)
  · have hf := op_pos c_11 hf
    refine lv_iconst (v := (-1)) hx hb dX10_shown_23 (by decide) ?_
    rw [← Option.some.inj hf]
    exact g_iret hx hb hr hlk hK hP hD hS dX10_shown_24
  · have hf := op_neg c_11 hf
    refine lv_iload_n hx hb dX10_shown_14 rfl (lv_at hl 2 rfl) ?_
    refine lv_iconst (v := 5) hx hb dX10_shown_15 (by decide) ?_
    refine lv_icmp_gt (tgt := 23) hx hb dX10_shown_16 (by decide) (fun c_16 => ?_) (fun c_16 => ?_)
    · have hf := op_pos c_16 hf
      refine lv_iconst (v := (-1)) hx hb dX10_shown_23 (by decide) ?_
      rw [← Option.some.inj hf]
      exact g_iret hx hb hr hlk hK hP hD hS dX10_shown_24
    · have hf := op_neg c_16 hf
      refine lv_iload_n hx hb dX10_shown_19 rfl (lv_at hl 0 rfl) ?_
      refine lv_if_ge (tgt := 25) hx hb dX10_shown_20 (by decide) (fun c_20 => ?_) (fun c_20 => ?_)
      · have hf := op_pos c_20 hf
        refine lv_iload_n hx hb dX10_shown_25 rfl (lv_at hl 2 rfl) ?_
        refine lv_if_ne (tgt := 31) hx hb dX10_shown_26 (by decide) (fun c_26 => ?_) (fun c_26 => ?_)
        · have hf := op_neg c_26 hf
          refine lv_iload_n hx hb dX10_shown_31 rfl (lv_at hl 2 rfl) ?_
          refine lv_iconst (v := 1) hx hb dX10_shown_32 (by decide) ?_
          refine lv_icmp_ne (tgt := 42) hx hb dX10_shown_33 (by decide) (fun c_33 => ?_) (fun c_33 => ?_)
          · have hf := op_neg c_33 hf
            refine lv_aload_n hx hb dX10_shown_42 rfl (lv_at hl 1 rfl) ?_
            refine lv_iload_n hx hb dX10_shown_43 rfl (lv_at hl 2 rfl) ?_
            refine lv_iconst (v := 2) hx hb dX10_shown_44 (by decide) ?_
            refine lv_isub hx hb dX10_shown_45 ?_
            obtain ⟨q_46, hc_46, hf⟩ := op_bind hf
            refine g_callVi (As := [.int (p1 - 2)]) (rest := []) (w2 := w10 cy h0 a0 (sF s0 2 0)) ⟨hx, hb, hml, hown, hts⟩ (c_X10_isTongue l D cy h0 a0 (sF s0 2 0) _ fu (p1 - 2) _ hc_46) (cwV 1 hts (gi_V ml_RX10_262 im_X10_isTongue se_X10_isTongue in_RX10 cd_X10_isTongue) rfl rfl rfl hdX10_isTongue ⟨Nat.le_of_ble_eq_true rfl, Nat.le_of_ble_eq_true rfl⟩) (va_recv hK hP (ci := 9) (q0 := 0) rfl rfl) rfl hl.1 rfl (Nat.le_of_ble_eq_true rfl) dX10_shown_46 hK hP hD hS hA [0, 1, 2, 3, 4, 5, 6, 7, 8, 9, 10, 11, 12, 13, 14, 15, 16, 17, 18, 19, 20, 21, 22, 23, 24, 25, 26, 27, 28, 29] [] [0, 1, 2, 3, 4, 5, 6, 7, 8, 9, 10, 11, 12, 13, 14, 15, 16, 17, 18, 19, 20, 21, 22, 23, 24, 25, 26, 27, 28, 29] rfl rfl rfl rfl (by decide) rfl rfl (fun H locs hP hD hS => ?_)
            refine lv_if_eq (tgt := 63) hx hb dX10_shown_49 (by decide) (fun c_49 => ?_) (fun c_49 => ?_)
            · have hf := op_pos c_49 hf
              refine lv_iconst (v := (-1)) hx hb dX10_shown_63 (by decide) ?_
              rw [← Option.some.inj hf]
              exact g_iret hx hb hr hlk hK hP hD hS dX10_shown_64
            · have hf := op_neg c_49 hf
              refine lv_aload_n hx hb dX10_shown_52 rfl (lv_at hl 1 rfl) ?_
              refine lv_iload_n hx hb dX10_shown_53 rfl (lv_at hl 0 rfl) ?_
              refine lv_iload_n hx hb dX10_shown_54 rfl (lv_at hl 2 rfl) ?_
              refine lv_iconst (v := 2) hx hb dX10_shown_55 (by decide) ?_
              refine lv_isub hx hb dX10_shown_56 ?_
              obtain ⟨q_57, hc_57, hf⟩ := op_bind hf
              refine g_callVi (As := [.int q_6, .int (p1 - 2)]) (rest := []) (w2 := w10 cy h0 a0 q_57.2) ⟨hx, hb, hml, hown, hts⟩ (c_X10_pageNow l D cy h0 a0 (sF s0 2 0) _ fu q_6 (p1 - 2) _ hc_57) (cwV 2 hts (gi_V ml_RX10_302 im_X10_pageNow se_X10_pageNow in_RX10 cd_X10_pageNow) rfl rfl rfl hdX10_pageNow ⟨Nat.le_of_ble_eq_true rfl, Nat.le_of_ble_eq_true rfl⟩) (va_recv hK hP (ci := 9) (q0 := 0) rfl rfl) rfl hl.1 rfl (Nat.le_of_ble_eq_true rfl) dX10_shown_57 hK hP hD hS hA [0, 1, 2, 3, 4, 5, 6, 7, 8, 9, 10, 11, 12, 13, 14, 15, 16, 17, 18, 19, 20, 21, 22, 23, 24, 25, 26, 27, 28, 29] [] [0, 1, 2, 3, 4, 5, 6, 7, 8, 9, 10, 11, 12, 13, 14, 15, 16, 17, 18, 19, 20, 21, 22, 23, 24, 25, 26, 27, 28, 29] rfl rfl rfl rfl (by decide) rfl rfl (fun H locs hP hD hS => ?_)
              refine lv_goto (tgt := 64) hx hb dX10_shown_60 (by decide) ?_
              rw [← Option.some.inj hf]
              exact g_iret hx hb hr hlk hK hP hD hS dX10_shown_64
          · have hf := op_pos c_33 hf
            refine lv_aload_n hx hb dX10_shown_36 rfl (lv_at hl 1 rfl) ?_
            refine lv_iload_n hx hb dX10_shown_37 rfl (lv_at hl 0 rfl) ?_
            obtain ⟨q_38, hc_38, hf⟩ := op_bind hf
            refine g_callVi (As := [.int q_6]) (rest := []) (w2 := w10 cy h0 a0 q_38.2) ⟨hx, hb, hml, hown, hts⟩ (c_X10_stepNow l D cy h0 a0 (sF s0 2 0) _ fu q_6 _ hc_38) (cwV 1 hts (gi_V ml_RX10_295 im_X10_stepNow se_X10_stepNow in_RX10 cd_X10_stepNow) rfl rfl rfl hdX10_stepNow ⟨Nat.le_of_ble_eq_true rfl, Nat.le_of_ble_eq_true rfl⟩) (va_recv hK hP (ci := 9) (q0 := 0) rfl rfl) rfl hl.1 rfl (Nat.le_of_ble_eq_true rfl) dX10_shown_38 hK hP hD hS hA [0, 1, 2, 3, 4, 5, 6, 7, 8, 9, 10, 11, 12, 13, 14, 15, 16, 17, 18, 19, 20, 21, 22, 23, 24, 25, 26, 27, 28, 29] [] [0, 1, 2, 3, 4, 5, 6, 7, 8, 9, 10, 11, 12, 13, 14, 15, 16, 17, 18, 19, 20, 21, 22, 23, 24, 25, 26, 27, 28, 29] rfl rfl rfl rfl (by decide) rfl rfl (fun H locs hP hD hS => ?_)
            rw [← Option.some.inj hf]
            exact g_iret hx hb hr hlk hK hP hD hS dX10_shown_41
        · have hf := op_pos c_26 hf
          refine lv_iload_n hx hb dX10_shown_29 rfl (lv_at hl 0 rfl) ?_
          rw [← Option.some.inj hf]
          exact g_iret hx hb hr hlk hK hP hD hS dX10_shown_30
      · have hf := op_neg c_20 hf
        refine lv_iconst (v := (-1)) hx hb dX10_shown_23 (by decide) ?_
        rw [← Option.some.inj hf]
        exact g_iret hx hb hr hlk hK hP hD hS dX10_shown_24
def f_X10_now (fu : Nat)  (s0 : St) (p1 : Int32) (p2 : Int32) (p3 : Int32) : Option (Int32 × St) := (f_X10_standing fu (sF s0 2 0)).bind (fun q_6 => if q_6 < 0 then (some ((-1), sF s0 2 0)) else ((f_X10_isTongue fu (sF s0 2 0) p1).bind (fun q_18 => if q_18 = 0 then (some ((-1), sF s0 2 0)) else ((f_X10_pageNow fu (sF s0 2 0) q_6 p1).bind (fun q_34 => (f_X10_signOf fu q_34.2 q_6 p1 q_34.1 p2 p3).bind (fun q_39 => some (q_39.1, q_39.2)))))))
theorem hdX10_now : yX10_now.cls = RX10 ∧ yX10_now.cls ≠ "java/lang/invoke/MethodHandle" ∧ yX10_now.cls ≠ "java/lang/invoke/VarHandle" ∧ (parseMethodDescriptor yX10_now.desc).map (fun d => d.parameters.length) = some 3 := by decide +kernel
set_option maxHeartbeats 4000000 in
set_option maxRecDepth 100000 in
theorem c_X10_now (l : Launch) (D : va_G) (cy : Nat → ClassId) (h0 : Nat) (a0 : Nat → Nat) (s0 : St) (sz fu : Nat) (p1 : Int32) (p2 : Int32) (p3 : Int32) (out : Int32 × St) (hf : f_X10_now fu s0 p1 p2 p3 = some out) :
    Met l yX10_now (WS yX10_now cX10_now 5 (some .int)) ({ frames := 8, cells := 0, slots := 0, locals := 198 } : Room) (va_Pc [.ref h0, .int p1, .int p2, .int p3] (gP D cy sz (w10 cy h0 a0 s0))) ((fun A : Nat → Prop => gQi D cy A out.1 (w10 cy h0 a0 out.2)) (va_A (w10 cy h0 a0 s0) sz)) 0 0 (va_A (w10 cy h0 a0 s0) sz) := by
  refine g_met (cc := cX10_now) (maxL := 5) (ret := (some .int)) (fun A : Nat → Prop => gQi D cy A out.1 (w10 cy h0 a0 out.2)) (by decide +kernel) rfl (Nat.le_of_ble_eq_true rfl) ?_
  intro p e s m below meth c A C hA hK hP hD ls hl
  obtain ⟨hx, hb, hr, hml, hown, hts, hlk⟩ := id C
  have hown : s.vm.findClass RX10 = some m.cls := hown
  have hS : va_S A s.heap s.heap [] := va_S.rf
  have hl : lv_has ls 5 [(0, .ref h0), (1, .int p1), (2, .int p2), (3, .int p3)] := hl
  have hk_113 := hts _ (List.mem_cons_of_mem _ fl_RX10_113)
  unfold f_X10_now at hf
  refine lv_aload_n hx hb dX10_now_0 rfl (lv_at hl 0 rfl) ?_
  refine lv_iconst (v := 0) hx hb dX10_now_1 (by decide) ?_
  refine va_put (ci := 9) (v := .int 0) (ty := tyX10 2) (C := RX10) (T := TX10) (N := 56) hx hb hts (fun w h => List.mem_cons_of_mem _ (inX10 w h)) tyX10 tyX10_ok nmX10 hown hK hP hD hS 0 rfl rfl 2 (by decide) hk_113 (fun _ h9 => h9) rfl (tyX10_ok 2 (by decide)) rfl rfl (Nat.le_of_ble_eq_true rfl) dX10_now_2 (fun H locs hP hD hS => ?_)
  have hP : va_P D vwCl (w10 cy h0 a0 (sF s0 2 0)) H := pP10_2 hP
  have hD : va_D A (w10 cy h0 a0 (sF s0 2 0)) := pD10_2 hD
  refine lv_aload_n hx hb dX10_now_5 rfl (lv_at hl 0 rfl) ?_
  obtain ⟨q_6, hc_6, hf⟩ := op_bind hf
  refine g_callVi (As := []) (rest := []) (w2 := w10 cy h0 a0 (sF s0 2 0)) ⟨hx, hb, hml, hown, hts⟩ (c_X10_standing l D cy h0 a0 (sF s0 2 0) _ fu _ hc_6) (cwV 0 hts (gi_V ml_RX10_298 im_X10_standing se_X10_standing in_RX10 cd_X10_standing) rfl rfl rfl hdX10_standing ⟨Nat.le_of_ble_eq_true rfl, Nat.le_of_ble_eq_true rfl⟩) (va_recv hK hP (ci := 9) (q0 := 0) rfl rfl) rfl hl.1 rfl (Nat.le_of_ble_eq_true rfl) dX10_now_6 hK hP hD hS hA [0, 1, 2, 3, 4, 5, 6, 7, 8, 9, 10, 11, 12, 13, 14, 15, 16, 17, 18, 19, 20, 21, 22, 23, 24, 25, 26, 27, 28, 29] [] [0, 1, 2, 3, 4, 5, 6, 7, 8, 9, 10, 11, 12, 13, 14, 15, 16, 17, 18, 19, 20, 21, 22, 23, 24, 25, 26, 27, 28, 29] rfl rfl rfl rfl (by decide) rfl rfl (fun H locs hP hD hS => ?_)
  refine lv_istore (lv' := [(4, .int q_6), (0, .ref h0), (1, .int p1), (2, .int p2), (3, .int p3)]) hx hb dX10_now_9 hl (by decide) rfl (fun ls hl => ?_)
  refine lv_iload hx hb dX10_now_11 (lv_at hl 0 rfl) ?_
  refine lv_if_lt (tgt := 24) hx hb dX10_now_13 (by decide) (fun c_13 => ?_) (fun c_13 => ?_)
  · have hf := op_pos c_13 hf
    refine lv_iconst (v := (-1)) hx hb dX10_now_24 (by decide) ?_
    rw [← Option.some.inj hf]
    exact g_iret hx hb hr hlk hK hP hD hS dX10_now_25
  · have hf := op_neg c_13 hf
    refine lv_aload_n hx hb dX10_now_16 rfl (lv_at hl 1 rfl) ?_
    refine lv_iload_n hx hb dX10_now_17 rfl (lv_at hl 2 rfl) ?_
    obtain ⟨q_18, hc_18, hf⟩ := op_bind hf
    refine g_callVi (As := [.int p1]) (rest := []) (w2 := w10 cy h0 a0 (sF s0 2 0)) ⟨hx, hb, hml, hown, hts⟩ (c_X10_isTongue l D cy h0 a0 (sF s0 2 0) _ fu p1 _ hc_18) (cwV 1 hts (gi_V ml_RX10_262 im_X10_isTongue se_X10_isTongue in_RX10 cd_X10_isTongue) rfl rfl rfl hdX10_isTongue ⟨Nat.le_of_ble_eq_true rfl, Nat.le_of_ble_eq_true rfl⟩) (va_recv hK hP (ci := 9) (q0 := 0) rfl rfl) rfl hl.1 rfl (Nat.le_of_ble_eq_true rfl) dX10_now_18 hK hP hD hS hA [0, 1, 2, 3, 4, 5, 6, 7, 8, 9, 10, 11, 12, 13, 14, 15, 16, 17, 18, 19, 20, 21, 22, 23, 24, 25, 26, 27, 28, 29] [] [0, 1, 2, 3, 4, 5, 6, 7, 8, 9, 10, 11, 12, 13, 14, 15, 16, 17, 18, 19, 20, 21, 22, 23, 24, 25, 26, 27, 28, 29] rfl rfl rfl rfl (by decide) rfl rfl (fun H locs hP hD hS => ?_)
    refine lv_if_ne (tgt := 26) hx hb dX10_now_21 (by decide) (fun c_21 => ?_) (fun c_21 => ?_)
    · have hf := op_neg c_21 hf
      refine lv_aload_n hx hb dX10_now_26 rfl (lv_at hl 1 rfl) ?_
      refine lv_iload hx hb dX10_now_27 (lv_at hl 0 rfl) ?_
      refine lv_iload_n hx hb dX10_now_29 rfl (lv_at hl 2 rfl) ?_
      refine lv_aload_n hx hb dX10_now_30 rfl (lv_at hl 1 rfl) ?_
      refine lv_iload hx hb dX10_now_31 (lv_at hl 0 rfl) ?_
      refine lv_iload_n hx hb dX10_now_33 rfl (lv_at hl 2 rfl) ?_
      obtain ⟨q_34, hc_34, hf⟩ := op_bind hf
      refine g_callVi (As := [.int q_6, .int p1]) (rest := [.int p1, .int q_6, .ref h0]) (w2 := w10 cy h0 a0 q_34.2) ⟨hx, hb, hml, hown, hts⟩ (c_X10_pageNow l D cy h0 a0 (sF s0 2 0) _ fu q_6 p1 _ hc_34) (cwV 2 hts (gi_V ml_RX10_302 im_X10_pageNow se_X10_pageNow in_RX10 cd_X10_pageNow) rfl rfl rfl hdX10_pageNow ⟨Nat.le_of_ble_eq_true rfl, Nat.le_of_ble_eq_true rfl⟩) (va_recv hK hP (ci := 9) (q0 := 0) rfl rfl) rfl hl.1 rfl (Nat.le_of_ble_eq_true rfl) dX10_now_34 hK hP hD hS hA [0, 1, 2, 3, 4, 5, 6, 7, 8, 9, 10, 11, 12, 13, 14, 15, 16, 17, 18, 19, 20, 21, 22, 23, 24, 25, 26, 27, 28, 29] [] [0, 1, 2, 3, 4, 5, 6, 7, 8, 9, 10, 11, 12, 13, 14, 15, 16, 17, 18, 19, 20, 21, 22, 23, 24, 25, 26, 27, 28, 29] rfl rfl rfl rfl (by decide) rfl rfl (fun H locs hP hD hS => ?_)
      refine lv_iload_n hx hb dX10_now_37 rfl (lv_at hl 3 rfl) ?_
      refine lv_iload_n hx hb dX10_now_38 rfl (lv_at hl 4 rfl) ?_
      obtain ⟨q_39, hc_39, hf⟩ := op_bind hf
      refine g_callVi (As := [.int q_6, .int p1, .int q_34.1, .int p2, .int p3]) (rest := []) (w2 := w10 cy h0 a0 q_39.2) ⟨hx, hb, hml, hown, hts⟩ (c_X10_signOf l D cy h0 a0 q_34.2 _ fu q_6 p1 q_34.1 p2 p3 _ hc_39) (cwV 5 hts (gi_V ml_RX10_291 im_X10_signOf se_X10_signOf in_RX10 cd_X10_signOf) rfl rfl rfl hdX10_signOf ⟨Nat.le_of_ble_eq_true rfl, Nat.le_of_ble_eq_true rfl⟩) (va_recv hK hP (ci := 9) (q0 := 0) rfl rfl) rfl hl.1 rfl (Nat.le_of_ble_eq_true rfl) dX10_now_39 hK hP hD hS hA [0, 1, 2, 3, 4, 5, 6, 7, 8, 9, 10, 11, 12, 13, 14, 15, 16, 17, 18, 19, 20, 21, 22, 23, 24, 25, 26, 27, 28, 29] [] [0, 1, 2, 3, 4, 5, 6, 7, 8, 9, 10, 11, 12, 13, 14, 15, 16, 17, 18, 19, 20, 21, 22, 23, 24, 25, 26, 27, 28, 29] rfl rfl rfl rfl (by decide) rfl rfl (fun H locs hP hD hS => ?_)
      rw [← Option.some.inj hf]
      exact g_iret hx hb hr hlk hK hP hD hS dX10_now_42
    · have hf := op_pos c_21 hf
      refine lv_iconst (v := (-1)) hx hb dX10_now_24 (by decide) ?_
      rw [← Option.some.inj hf]
      exact g_iret hx hb hr hlk hK hP hD hS dX10_now_25
def f_X10_count (fu : Nat)  (s0 : St) (p1 : Int32) : Option (Int32 × St) := if p1 = 0 then (some (s0.1 3, sF s0 2 0)) else (if p1 = 1 then (some (s0.1 8, sF s0 2 0)) else (if p1 = 2 then (some (s0.1 14, sF s0 2 0)) else (if p1 = 3 then (some (s0.1 22, sF s0 2 0)) else (if p1 = 4 then (if (s0.1 23) = 0 then (some (0, sF s0 2 0)) else (some (1, sF s0 2 0))) else (if p1 = 5 then (some (s0.1 24, sF s0 2 0)) else (if p1 = 6 then (if inb (0 : Int32) 4 = true then (some (s0.2 4 (0 : Int32).toNatClampNeg, sF s0 2 0)) else none) else (if p1 = 7 then (if inb (0 : Int32) 4 = true then (some (s0.2 5 (0 : Int32).toNatClampNeg, sF s0 2 0)) else none) else (if p1 = 8 then (some (s0.1 6, sF s0 2 0)) else (some ((-1), sF s0 2 0))))))))))
theorem hdX10_count : yX10_count.cls = RX10 ∧ yX10_count.cls ≠ "java/lang/invoke/MethodHandle" ∧ yX10_count.cls ≠ "java/lang/invoke/VarHandle" ∧ (parseMethodDescriptor yX10_count.desc).map (fun d => d.parameters.length) = some 1 := by decide +kernel
set_option maxHeartbeats 4000000 in
set_option maxRecDepth 100000 in
theorem c_X10_count (l : Launch) (D : va_G) (cy : Nat → ClassId) (h0 : Nat) (a0 : Nat → Nat) (s0 : St) (sz fu : Nat) (p1 : Int32) (out : Int32 × St) (hf : f_X10_count fu s0 p1 = some out) :
    Met l yX10_count (WS yX10_count cX10_count 2 (some .int)) ({ frames := 0, cells := 0, slots := 0, locals := 0 } : Room) (va_Pc [.ref h0, .int p1] (gP D cy sz (w10 cy h0 a0 s0))) ((fun A : Nat → Prop => gQi D cy A out.1 (w10 cy h0 a0 out.2)) (va_A (w10 cy h0 a0 s0) sz)) 0 0 (va_A (w10 cy h0 a0 s0) sz) := by
  refine g_met (cc := cX10_count) (maxL := 2) (ret := (some .int)) (fun A : Nat → Prop => gQi D cy A out.1 (w10 cy h0 a0 out.2)) (by decide +kernel) rfl (Nat.le_of_ble_eq_true rfl) ?_
  intro p e s m below meth c A C hA hK hP hD ls hl
  obtain ⟨hx, hb, hr, hml, hown, hts, hlk⟩ := id C
  have hown : s.vm.findClass RX10 = some m.cls := hown
  have hS : va_S A s.heap s.heap [] := va_S.rf
  have hl : lv_has ls 2 [(0, .ref h0), (1, .int p1)] := hl
  have hk_113 := hts _ (List.mem_cons_of_mem _ fl_RX10_113)
  have hk_13 := hts _ (List.mem_cons_of_mem _ fl_RX10_13)
  have hk_238 := hts _ (List.mem_cons_of_mem _ fl_RX10_238)
  have hk_241 := hts _ (List.mem_cons_of_mem _ fl_RX10_241)
  have hk_247 := hts _ (List.mem_cons_of_mem _ fl_RX10_247)
  have hk_64 := hts _ (List.mem_cons_of_mem _ fl_RX10_64)
  have hk_250 := hts _ (List.mem_cons_of_mem _ fl_RX10_250)
  have hk_17 := hts _ (List.mem_cons_of_mem _ fl_RX10_17)
  have hk_20 := hts _ (List.mem_cons_of_mem _ fl_RX10_20)
  have hk_23 := hts _ (List.mem_cons_of_mem _ fl_RX10_23)
  unfold f_X10_count at hf
  refine lv_aload_n hx hb dX10_count_0 rfl (lv_at hl 0 rfl) ?_
  refine lv_iconst (v := 0) hx hb dX10_count_1 (by decide) ?_
  refine va_put (ci := 9) (v := .int 0) (ty := tyX10 2) (C := RX10) (T := TX10) (N := 56) hx hb hts (fun w h => List.mem_cons_of_mem _ (inX10 w h)) tyX10 tyX10_ok nmX10 hown hK hP hD hS 0 rfl rfl 2 (by decide) hk_113 (fun _ h9 => h9) rfl (tyX10_ok 2 (by decide)) rfl rfl (Nat.le_of_ble_eq_true rfl) dX10_count_2 (fun H locs hP hD hS => ?_)
  have hP : va_P D vwCl (w10 cy h0 a0 (sF s0 2 0)) H := pP10_2 hP
  have hD : va_D A (w10 cy h0 a0 (sF s0 2 0)) := pD10_2 hD
  refine lv_iload_n hx hb dX10_count_5 rfl (lv_at hl 1 rfl) ?_
  by_cases c_6_0 : p1 = 0
  · have hf := op_pos c_6_0 hf
    refine lv_tableIn (tgt := 56) (off := 50) hx hb dX10_count_6 (by rw [c_6_0]; decide) (by rw [c_6_0]; decide) (by rw [c_6_0]; decide) (by decide) ?_
    refine lv_aload_n hx hb dX10_count_56 rfl (lv_at hl 0 rfl) ?_
    refine va_get (ci := 9) (v := .int (s0.1 3)) (C := RX10) (T := TX10) (N := 56) hx hb hts (fun w h => List.mem_cons_of_mem _ (inX10 w h)) hown hK hP 0 rfl rfl 3 (by decide) hk_13 (fun _ h9 => h9) rfl dX10_count_57 ?_
    rw [← Option.some.inj hf]
    exact g_iret hx hb hr hlk hK hP hD hS dX10_count_60
  · have hf := op_neg c_6_0 hf
    by_cases c_6_1 : p1 = 1
    · have hf := op_pos c_6_1 hf
      refine lv_tableIn (tgt := 61) (off := 55) hx hb dX10_count_6 (by rw [c_6_1]; decide) (by rw [c_6_1]; decide) (by rw [c_6_1]; decide) (by decide) ?_
      refine lv_aload_n hx hb dX10_count_61 rfl (lv_at hl 0 rfl) ?_
      refine va_get (ci := 9) (v := .int (s0.1 8)) (C := RX10) (T := TX10) (N := 56) hx hb hts (fun w h => List.mem_cons_of_mem _ (inX10 w h)) hown hK hP 0 rfl rfl 8 (by decide) hk_238 (fun _ h9 => h9) rfl dX10_count_62 ?_
      rw [← Option.some.inj hf]
      exact g_iret hx hb hr hlk hK hP hD hS dX10_count_65
    · have hf := op_neg c_6_1 hf
      by_cases c_6_2 : p1 = 2
      · have hf := op_pos c_6_2 hf
        refine lv_tableIn (tgt := 66) (off := 60) hx hb dX10_count_6 (by rw [c_6_2]; decide) (by rw [c_6_2]; decide) (by rw [c_6_2]; decide) (by decide) ?_
        refine lv_aload_n hx hb dX10_count_66 rfl (lv_at hl 0 rfl) ?_
        refine va_get (ci := 9) (v := .int (s0.1 14)) (C := RX10) (T := TX10) (N := 56) hx hb hts (fun w h => List.mem_cons_of_mem _ (inX10 w h)) hown hK hP 0 rfl rfl 14 (by decide) hk_241 (fun _ h9 => h9) rfl dX10_count_67 ?_
        rw [← Option.some.inj hf]
        exact g_iret hx hb hr hlk hK hP hD hS dX10_count_70
      · have hf := op_neg c_6_2 hf
        by_cases c_6_3 : p1 = 3
        · have hf := op_pos c_6_3 hf
          refine lv_tableIn (tgt := 71) (off := 65) hx hb dX10_count_6 (by rw [c_6_3]; decide) (by rw [c_6_3]; decide) (by rw [c_6_3]; decide) (by decide) ?_
          refine lv_aload_n hx hb dX10_count_71 rfl (lv_at hl 0 rfl) ?_
          refine va_get (ci := 9) (v := .int (s0.1 22)) (C := RX10) (T := TX10) (N := 56) hx hb hts (fun w h => List.mem_cons_of_mem _ (inX10 w h)) hown hK hP 0 rfl rfl 22 (by decide) hk_247 (fun _ h9 => h9) rfl dX10_count_72 ?_
          rw [← Option.some.inj hf]
          exact g_iret hx hb hr hlk hK hP hD hS dX10_count_75
        · have hf := op_neg c_6_3 hf
          by_cases c_6_4 : p1 = 4
          · have hf := op_pos c_6_4 hf
            refine lv_tableIn (tgt := 76) (off := 70) hx hb dX10_count_6 (by rw [c_6_4]; decide) (by rw [c_6_4]; decide) (by rw [c_6_4]; decide) (by decide) ?_
            refine lv_aload_n hx hb dX10_count_76 rfl (lv_at hl 0 rfl) ?_
            refine va_get (ci := 9) (v := .int (s0.1 23)) (C := RX10) (T := TX10) (N := 56) hx hb hts (fun w h => List.mem_cons_of_mem _ (inX10 w h)) hown hK hP 0 rfl rfl 23 (by decide) hk_64 (fun _ h9 => h9) rfl dX10_count_77 ?_
            refine lv_if_eq (tgt := 87) hx hb dX10_count_80 (by decide) (fun c_80 => ?_) (fun c_80 => ?_)
            · have hf := op_pos c_80 hf
              refine lv_iconst (v := 0) hx hb dX10_count_87 (by decide) ?_
              rw [← Option.some.inj hf]
              exact g_iret hx hb hr hlk hK hP hD hS dX10_count_88
            · have hf := op_neg c_80 hf
              refine lv_iconst (v := 1) hx hb dX10_count_83 (by decide) ?_
              refine lv_goto (tgt := 88) hx hb dX10_count_84 (by decide) ?_
              rw [← Option.some.inj hf]
              exact g_iret hx hb hr hlk hK hP hD hS dX10_count_88
          · have hf := op_neg c_6_4 hf
            by_cases c_6_5 : p1 = 5
            · have hf := op_pos c_6_5 hf
              refine lv_tableIn (tgt := 89) (off := 83) hx hb dX10_count_6 (by rw [c_6_5]; decide) (by rw [c_6_5]; decide) (by rw [c_6_5]; decide) (by decide) ?_
              refine lv_aload_n hx hb dX10_count_89 rfl (lv_at hl 0 rfl) ?_
              refine va_get (ci := 9) (v := .int (s0.1 24)) (C := RX10) (T := TX10) (N := 56) hx hb hts (fun w h => List.mem_cons_of_mem _ (inX10 w h)) hown hK hP 0 rfl rfl 24 (by decide) hk_250 (fun _ h9 => h9) rfl dX10_count_90 ?_
              rw [← Option.some.inj hf]
              exact g_iret hx hb hr hlk hK hP hD hS dX10_count_93
            · have hf := op_neg c_6_5 hf
              by_cases c_6_6 : p1 = 6
              · have hf := op_pos c_6_6 hf
                refine lv_tableIn (tgt := 94) (off := 88) hx hb dX10_count_6 (by rw [c_6_6]; decide) (by rw [c_6_6]; decide) (by rw [c_6_6]; decide) (by decide) ?_
                refine lv_aload_n hx hb dX10_count_94 rfl (lv_at hl 0 rfl) ?_
                refine va_get (ci := 9) (v := .ref (a0 4)) (C := RX10) (T := TX10) (N := 56) hx hb hts (fun w h => List.mem_cons_of_mem _ (inX10 w h)) hown hK hP 0 rfl rfl 4 (by decide) hk_17 (fun _ h9 => h9) rfl dX10_count_95 ?_
                refine lv_iconst (v := 0) hx hb dX10_count_98 (by decide) ?_
                obtain ⟨hg_99, hf⟩ := op_if hf
                refine va_iald (f := s0.2 4) hx hb hK hP 2 0 rfl rfl (inb_in hg_99) dX10_count_99 ?_
                rw [← Option.some.inj hf]
                exact g_iret hx hb hr hlk hK hP hD hS dX10_count_100
              · have hf := op_neg c_6_6 hf
                by_cases c_6_7 : p1 = 7
                · have hf := op_pos c_6_7 hf
                  refine lv_tableIn (tgt := 101) (off := 95) hx hb dX10_count_6 (by rw [c_6_7]; decide) (by rw [c_6_7]; decide) (by rw [c_6_7]; decide) (by decide) ?_
                  refine lv_aload_n hx hb dX10_count_101 rfl (lv_at hl 0 rfl) ?_
                  refine va_get (ci := 9) (v := .ref (a0 5)) (C := RX10) (T := TX10) (N := 56) hx hb hts (fun w h => List.mem_cons_of_mem _ (inX10 w h)) hown hK hP 0 rfl rfl 5 (by decide) hk_20 (fun _ h9 => h9) rfl dX10_count_102 ?_
                  refine lv_iconst (v := 0) hx hb dX10_count_105 (by decide) ?_
                  obtain ⟨hg_106, hf⟩ := op_if hf
                  refine va_iald (f := s0.2 5) hx hb hK hP 3 0 rfl rfl (inb_in hg_106) dX10_count_106 ?_
                  rw [← Option.some.inj hf]
                  exact g_iret hx hb hr hlk hK hP hD hS dX10_count_107
                · have hf := op_neg c_6_7 hf
                  by_cases c_6_8 : p1 = 8
                  · have hf := op_pos c_6_8 hf
                    refine lv_tableIn (tgt := 108) (off := 102) hx hb dX10_count_6 (by rw [c_6_8]; decide) (by rw [c_6_8]; decide) (by rw [c_6_8]; decide) (by decide) ?_
                    refine lv_aload_n hx hb dX10_count_108 rfl (lv_at hl 0 rfl) ?_
                    refine va_get (ci := 9) (v := .int (s0.1 6)) (C := RX10) (T := TX10) (N := 56) hx hb hts (fun w h => List.mem_cons_of_mem _ (inX10 w h)) hown hK hP 0 rfl rfl 6 (by decide) hk_23 (fun _ h9 => h9) rfl dX10_count_109 ?_
                    rw [← Option.some.inj hf]
                    exact g_iret hx hb hr hlk hK hP hD hS dX10_count_112
                  · have hf := op_neg c_6_8 hf
                    have e_0 : ¬ (p1).toInt = 0 := fun h => c_6_0 (Int32.toInt_inj.mp (h.trans (by decide)))
                    have e_1 : ¬ (p1).toInt = 1 := fun h => c_6_1 (Int32.toInt_inj.mp (h.trans (by decide)))
                    have e_2 : ¬ (p1).toInt = 2 := fun h => c_6_2 (Int32.toInt_inj.mp (h.trans (by decide)))
                    have e_3 : ¬ (p1).toInt = 3 := fun h => c_6_3 (Int32.toInt_inj.mp (h.trans (by decide)))
                    have e_4 : ¬ (p1).toInt = 4 := fun h => c_6_4 (Int32.toInt_inj.mp (h.trans (by decide)))
                    have e_5 : ¬ (p1).toInt = 5 := fun h => c_6_5 (Int32.toInt_inj.mp (h.trans (by decide)))
                    have e_6 : ¬ (p1).toInt = 6 := fun h => c_6_6 (Int32.toInt_inj.mp (h.trans (by decide)))
                    have e_7 : ¬ (p1).toInt = 7 := fun h => c_6_7 (Int32.toInt_inj.mp (h.trans (by decide)))
                    have e_8 : ¬ (p1).toInt = 8 := fun h => c_6_8 (Int32.toInt_inj.mp (h.trans (by decide)))
                    refine lv_tableOut (tgt := 113) hx hb dX10_count_6 (by omega) (by decide) ?_
                    refine lv_iconst (v := (-1)) hx hb dX10_count_113 (by decide) ?_
                    rw [← Option.some.inj hf]
                    exact g_iret hx hb hr hlk hK hP hD hS dX10_count_114
