def f_X7_setRowEnd (fu : Nat)  (s0 : St) (p1 : Int32) (p2 : Int32) : Option (St) := if p1 < 0 then (some s0) else (if 12 ≤ p1 then (some s0) else (if inb p1 12 = true then (some (sA s0 6 p1.toNatClampNeg p2)) else none))
theorem hdX7_setRowEnd : yX7_setRowEnd.cls = RX7 ∧ yX7_setRowEnd.cls ≠ "java/lang/invoke/MethodHandle" ∧ yX7_setRowEnd.cls ≠ "java/lang/invoke/VarHandle" ∧ (parseMethodDescriptor yX7_setRowEnd.desc).map (fun d => d.parameters.length) = some 2 := by decide +kernel
set_option maxHeartbeats 4000000 in
set_option maxRecDepth 100000 in
theorem c_X7_setRowEnd (l : Launch) (D : va_G) (cy : Nat → ClassId) (h0 : Nat) (r0_0 : Nat) (a0 : Nat → Nat) (s0 : St) (sz fu : Nat) (p1 : Int32) (p2 : Int32) (out : St) (hf : f_X7_setRowEnd fu s0 p1 p2 = some out) :
    Met l yX7_setRowEnd (WS yX7_setRowEnd cX7_setRowEnd 3 none) ({ frames := 0, cells := 0, slots := 0, locals := 0 } : Room) (va_Pc [.ref h0, .int p1, .int p2] (gP D cy sz (w7 cy h0 r0_0 a0 s0))) ((fun A : Nat → Prop => gQv D cy A (w7 cy h0 r0_0 a0 out)) (va_A (w7 cy h0 r0_0 a0 s0) sz)) 0 0 (va_A (w7 cy h0 r0_0 a0 s0) sz) := by
  refine g_met (cc := cX7_setRowEnd) (maxL := 3) (ret := none) (fun A : Nat → Prop => gQv D cy A (w7 cy h0 r0_0 a0 out)) (by decide +kernel) rfl (Nat.le_of_ble_eq_true rfl) ?_
  intro p e s m below meth c A C hA hK hP hD ls hl
  obtain ⟨hx, hb, hr, hml, hown, hts, hlk⟩ := id C
  have hown : s.vm.findClass RX7 = some m.cls := hown
  have hS : va_S A s.heap s.heap [] := va_S.rf
  have hl : lv_has ls 3 [(0, .ref h0), (1, .int p1), (2, .int p2)] := hl
  have hk_9 := hts _ (List.mem_cons_of_mem _ fl_RX7_9)
  unfold f_X7_setRowEnd at hf
  refine lv_iload_n hx hb dX7_setRowEnd_0 rfl (lv_at hl 1 rfl) ?_
  refine lv_if_lt (tgt := 17) hx hb dX7_setRowEnd_1 (by decide) (fun c_1 => ?_) (fun c_1 => ?_)
  · have hf := op_pos c_1 hf
    rw [← Option.some.inj hf]
    exact g_vret hx hb hr hlk hK hP hD hS dX7_setRowEnd_17
  · have hf := op_neg c_1 hf
    refine lv_iload_n hx hb dX7_setRowEnd_4 rfl (lv_at hl 1 rfl) ?_
    refine lv_bipush (v := 12) hx hb dX7_setRowEnd_5 (by decide) ?_
    refine lv_icmp_ge (tgt := 17) hx hb dX7_setRowEnd_7 (by decide) (fun c_7 => ?_) (fun c_7 => ?_)
    · have hf := op_pos c_7 hf
      rw [← Option.some.inj hf]
      exact g_vret hx hb hr hlk hK hP hD hS dX7_setRowEnd_17
    · have hf := op_neg c_7 hf
      refine lv_aload_n hx hb dX7_setRowEnd_10 rfl (lv_at hl 0 rfl) ?_
      refine va_get (ci := 7) (v := .ref (a0 6)) (C := RX7) (T := TX7) (N := 7) hx hb hts (fun w h => List.mem_cons_of_mem _ (inX7 w h)) hown hK hP 0 rfl rfl 6 (by decide) hk_9 (fun _ h9 => h9) rfl dX7_setRowEnd_11 ?_
      refine lv_iload_n hx hb dX7_setRowEnd_14 rfl (lv_at hl 1 rfl) ?_
      refine lv_iload_n hx hb dX7_setRowEnd_15 rfl (lv_at hl 2 rfl) ?_
      obtain ⟨hg_16, hf⟩ := op_if hf
      refine va_iast (f := s0.2 6) (x := p2) hx hb hK hP hD hS 1 0 rfl rfl (inb_in hg_16) dX7_setRowEnd_16 (fun H locs hP hD hS => ?_)
      have hP : va_P D vwCl (w7 cy h0 r0_0 a0 (sA s0 6 p1.toNatClampNeg p2)) H := pP7_6 hP
      have hD : va_D A (w7 cy h0 r0_0 a0 (sA s0 6 p1.toNatClampNeg p2)) := pD7_6 hD
      rw [← Option.some.inj hf]
      exact g_vret hx hb hr hlk hK hP hD hS dX7_setRowEnd_17
def f_X7_rowBegin (fu : Nat) (s0 : St)  (p1 : Int32) : Option (Int32) := if p1 ≤ 0 then (some 0) else (if 12 ≤ p1 then (some 0) else (if inb (p1 - 1) 12 = true then (some ((s0.2 6 (p1 - 1).toNatClampNeg) + 1)) else none))
theorem hdX7_rowBegin : yX7_rowBegin.cls = RX7 ∧ yX7_rowBegin.cls ≠ "java/lang/invoke/MethodHandle" ∧ yX7_rowBegin.cls ≠ "java/lang/invoke/VarHandle" ∧ (parseMethodDescriptor yX7_rowBegin.desc).map (fun d => d.parameters.length) = some 1 := by decide +kernel
set_option maxHeartbeats 4000000 in
set_option maxRecDepth 100000 in
theorem c_X7_rowBegin (l : Launch) (D : va_G) (cy : Nat → ClassId) (h0 : Nat) (r0_0 : Nat) (a0 : Nat → Nat) (s0 : St) (sz fu : Nat) (p1 : Int32) (out : Int32) (hf : f_X7_rowBegin fu s0 p1 = some out) :
    Met l yX7_rowBegin (WS yX7_rowBegin cX7_rowBegin 2 (some .int)) ({ frames := 0, cells := 0, slots := 0, locals := 0 } : Room) (va_Pc [.ref h0, .int p1] (gP D cy sz (w7 cy h0 r0_0 a0 s0))) ((fun A : Nat → Prop => gQi D cy A out (w7 cy h0 r0_0 a0 s0)) (va_A (w7 cy h0 r0_0 a0 s0) sz)) 0 0 (va_A (w7 cy h0 r0_0 a0 s0) sz) := by
  refine g_met (cc := cX7_rowBegin) (maxL := 2) (ret := (some .int)) (fun A : Nat → Prop => gQi D cy A out (w7 cy h0 r0_0 a0 s0)) (by decide +kernel) rfl (Nat.le_of_ble_eq_true rfl) ?_
  intro p e s m below meth c A C hA hK hP hD ls hl
  obtain ⟨hx, hb, hr, hml, hown, hts, hlk⟩ := id C
  have hown : s.vm.findClass RX7 = some m.cls := hown
  have hS : va_S A s.heap s.heap [] := va_S.rf
  have hl : lv_has ls 2 [(0, .ref h0), (1, .int p1)] := hl
  have hk_9 := hts _ (List.mem_cons_of_mem _ fl_RX7_9)
  unfold f_X7_rowBegin at hf
  refine lv_iload_n hx hb dX7_rowBegin_0 rfl (lv_at hl 1 rfl) ?_
  refine lv_if_le (tgt := 23) hx hb dX7_rowBegin_1 (by decide) (fun c_1 => ?_) (fun c_1 => ?_)
  · have hf := op_pos c_1 hf
    refine lv_iconst (v := 0) hx hb dX7_rowBegin_23 (by decide) ?_
    rw [← Option.some.inj hf]
    exact g_iret hx hb hr hlk hK hP hD hS dX7_rowBegin_24
  · have hf := op_neg c_1 hf
    refine lv_iload_n hx hb dX7_rowBegin_4 rfl (lv_at hl 1 rfl) ?_
    refine lv_bipush (v := 12) hx hb dX7_rowBegin_5 (by decide) ?_
    refine lv_icmp_ge (tgt := 23) hx hb dX7_rowBegin_7 (by decide) (fun c_7 => ?_) (fun c_7 => ?_)
    · have hf := op_pos c_7 hf
      refine lv_iconst (v := 0) hx hb dX7_rowBegin_23 (by decide) ?_
      rw [← Option.some.inj hf]
      exact g_iret hx hb hr hlk hK hP hD hS dX7_rowBegin_24
    · have hf := op_neg c_7 hf
      refine lv_aload_n hx hb dX7_rowBegin_10 rfl (lv_at hl 0 rfl) ?_
      refine va_get (ci := 7) (v := .ref (a0 6)) (C := RX7) (T := TX7) (N := 7) hx hb hts (fun w h => List.mem_cons_of_mem _ (inX7 w h)) hown hK hP 0 rfl rfl 6 (by decide) hk_9 (fun _ h9 => h9) rfl dX7_rowBegin_11 ?_
      refine lv_iload_n hx hb dX7_rowBegin_14 rfl (lv_at hl 1 rfl) ?_
      refine lv_iconst (v := 1) hx hb dX7_rowBegin_15 (by decide) ?_
      refine lv_isub hx hb dX7_rowBegin_16 ?_
      obtain ⟨hg_17, hf⟩ := op_if hf
      refine va_iald (f := s0.2 6) hx hb hK hP 1 0 rfl rfl (inb_in hg_17) dX7_rowBegin_17 ?_
      refine lv_iconst (v := 1) hx hb dX7_rowBegin_18 (by decide) ?_
      refine lv_iadd hx hb dX7_rowBegin_19 ?_
      refine lv_goto (tgt := 24) hx hb dX7_rowBegin_20 (by decide) ?_
      rw [← Option.some.inj hf]
      exact g_iret hx hb hr hlk hK hP hD hS dX7_rowBegin_24
def f_X7_rowLength (fu : Nat) (s0 : St)  (p1 : Int32) : Option (Int32) := if p1 < 0 then (some 0) else (if 12 ≤ p1 then (some 0) else (if inb p1 12 = true then ((f_X7_rowBegin fu s0 p1).bind (fun q_19 => some (if 0 < ((s0.2 6 p1.toNatClampNeg) - q_19) then ((s0.2 6 p1.toNatClampNeg) - q_19) else 0))) else none))
theorem hdX7_rowLength : yX7_rowLength.cls = RX7 ∧ yX7_rowLength.cls ≠ "java/lang/invoke/MethodHandle" ∧ yX7_rowLength.cls ≠ "java/lang/invoke/VarHandle" ∧ (parseMethodDescriptor yX7_rowLength.desc).map (fun d => d.parameters.length) = some 1 := by decide +kernel
set_option maxHeartbeats 4000000 in
set_option maxRecDepth 100000 in
theorem c_X7_rowLength (l : Launch) (D : va_G) (cy : Nat → ClassId) (h0 : Nat) (r0_0 : Nat) (a0 : Nat → Nat) (s0 : St) (sz fu : Nat) (p1 : Int32) (out : Int32) (hf : f_X7_rowLength fu s0 p1 = some out) :
    Met l yX7_rowLength (WS yX7_rowLength cX7_rowLength 2 (some .int)) ({ frames := 1, cells := 0, slots := 0, locals := 21 } : Room) (va_Pc [.ref h0, .int p1] (gP D cy sz (w7 cy h0 r0_0 a0 s0))) ((fun A : Nat → Prop => gQi D cy A out (w7 cy h0 r0_0 a0 s0)) (va_A (w7 cy h0 r0_0 a0 s0) sz)) 0 0 (va_A (w7 cy h0 r0_0 a0 s0) sz) := by
  refine g_met (cc := cX7_rowLength) (maxL := 2) (ret := (some .int)) (fun A : Nat → Prop => gQi D cy A out (w7 cy h0 r0_0 a0 s0)) (by decide +kernel) rfl (Nat.le_of_ble_eq_true rfl) ?_
  intro p e s m below meth c A C hA hK hP hD ls hl
  obtain ⟨hx, hb, hr, hml, hown, hts, hlk⟩ := id C
  have hown : s.vm.findClass RX7 = some m.cls := hown
  have hS : va_S A s.heap s.heap [] := va_S.rf
  have hl : lv_has ls 2 [(0, .ref h0), (1, .int p1)] := hl
  have hk_9 := hts _ (List.mem_cons_of_mem _ fl_RX7_9)
  have hml_34 := hts _ (List.mem_cons_of_mem _ ml_RX7_34)
  have hms_max := hts _ (List.mem_cons_of_mem _ sm_max)
  have hmi_max := hts _ (List.mem_cons_of_mem _ in_Math)
  have hmc_max := hts _ (List.mem_cons_of_mem _ cd_max)
  unfold f_X7_rowLength at hf
  refine lv_iload_n hx hb dX7_rowLength_0 rfl (lv_at hl 1 rfl) ?_
  refine lv_if_lt (tgt := 29) hx hb dX7_rowLength_1 (by decide) (fun c_1 => ?_) (fun c_1 => ?_)
  · have hf := op_pos c_1 hf
    refine lv_iconst (v := 0) hx hb dX7_rowLength_29 (by decide) ?_
    rw [← Option.some.inj hf]
    exact g_iret hx hb hr hlk hK hP hD hS dX7_rowLength_30
  · have hf := op_neg c_1 hf
    refine lv_iload_n hx hb dX7_rowLength_4 rfl (lv_at hl 1 rfl) ?_
    refine lv_bipush (v := 12) hx hb dX7_rowLength_5 (by decide) ?_
    refine lv_icmp_ge (tgt := 29) hx hb dX7_rowLength_7 (by decide) (fun c_7 => ?_) (fun c_7 => ?_)
    · have hf := op_pos c_7 hf
      refine lv_iconst (v := 0) hx hb dX7_rowLength_29 (by decide) ?_
      rw [← Option.some.inj hf]
      exact g_iret hx hb hr hlk hK hP hD hS dX7_rowLength_30
    · have hf := op_neg c_7 hf
      refine lv_iconst (v := 0) hx hb dX7_rowLength_10 (by decide) ?_
      refine lv_aload_n hx hb dX7_rowLength_11 rfl (lv_at hl 0 rfl) ?_
      refine va_get (ci := 7) (v := .ref (a0 6)) (C := RX7) (T := TX7) (N := 7) hx hb hts (fun w h => List.mem_cons_of_mem _ (inX7 w h)) hown hK hP 0 rfl rfl 6 (by decide) hk_9 (fun _ h9 => h9) rfl dX7_rowLength_12 ?_
      refine lv_iload_n hx hb dX7_rowLength_15 rfl (lv_at hl 1 rfl) ?_
      obtain ⟨hg_16, hf⟩ := op_if hf
      refine va_iald (f := s0.2 6) hx hb hK hP 1 0 rfl rfl (inb_in hg_16) dX7_rowLength_16 ?_
      refine lv_aload_n hx hb dX7_rowLength_17 rfl (lv_at hl 0 rfl) ?_
      refine lv_iload_n hx hb dX7_rowLength_18 rfl (lv_at hl 1 rfl) ?_
      obtain ⟨q_19, hc_19, hf⟩ := op_bind hf
      refine g_callVi (As := [.int p1]) (rest := [.int (s0.2 6 p1.toNatClampNeg), .int 0]) (w2 := w7 cy h0 r0_0 a0 s0) ⟨hx, hb, hml, hown, hts⟩ (c_X7_rowBegin l D cy h0 r0_0 a0 s0 _ fu p1 _ hc_19) (cwV 1 hts (gi_V ml_RX7_30 im_X7_rowBegin se_X7_rowBegin in_RX7 cd_X7_rowBegin) rfl rfl rfl hdX7_rowBegin ⟨Nat.le_of_ble_eq_true rfl, Nat.le_of_ble_eq_true rfl⟩) (va_recv hK hP (ci := 7) (q0 := 0) rfl rfl) rfl hl.1 rfl (Nat.le_of_ble_eq_true rfl) dX7_rowLength_19 hK hP hD hS hA [0, 1] [] [0, 1] rfl rfl rfl rfl (by decide) rfl rfl (fun H locs hP hD hS => ?_)
      refine lv_isub hx hb dX7_rowLength_22 ?_
      refine va_mmax hx hb (hml.trans hl.1.symm) hown hml_34 hms_max hmi_max hmc_max (Nat.le_of_ble_eq_true rfl) (Nat.le_of_ble_eq_true rfl) (Nat.zero_le _) (Nat.zero_le _) dX7_rowLength_23 ?_
      refine lv_goto (tgt := 30) hx hb dX7_rowLength_26 (by decide) ?_
      rw [← Option.some.inj hf]
      exact g_iret hx hb hr hlk hK hP hD hS dX7_rowLength_30
def f_X7_signsOf (fu : Nat) (s0 : St)  (p1 : Int32) : Option (Int32) := if p1 < 0 then (some 0) else (if p1 < (s0.1 4) then ((f_X7_rowLength fu s0 (p1 * 2)).bind (fun q_18 => (f_X7_rowLength fu s0 ((p1 * 2) + 1)).bind (fun q_27 => some (q_18 + q_27)))) else (some 0))
theorem hdX7_signsOf : yX7_signsOf.cls = RX7 ∧ yX7_signsOf.cls ≠ "java/lang/invoke/MethodHandle" ∧ yX7_signsOf.cls ≠ "java/lang/invoke/VarHandle" ∧ (parseMethodDescriptor yX7_signsOf.desc).map (fun d => d.parameters.length) = some 1 := by decide +kernel
set_option maxHeartbeats 4000000 in
set_option maxRecDepth 100000 in
theorem c_X7_signsOf (l : Launch) (D : va_G) (cy : Nat → ClassId) (h0 : Nat) (r0_0 : Nat) (a0 : Nat → Nat) (s0 : St) (sz fu : Nat) (p1 : Int32) (out : Int32) (hf : f_X7_signsOf fu s0 p1 = some out) :
    Met l yX7_signsOf (WS yX7_signsOf cX7_signsOf 2 (some .int)) ({ frames := 2, cells := 0, slots := 0, locals := 42 } : Room) (va_Pc [.ref h0, .int p1] (gP D cy sz (w7 cy h0 r0_0 a0 s0))) ((fun A : Nat → Prop => gQi D cy A out (w7 cy h0 r0_0 a0 s0)) (va_A (w7 cy h0 r0_0 a0 s0) sz)) 0 0 (va_A (w7 cy h0 r0_0 a0 s0) sz) := by
  refine g_met (cc := cX7_signsOf) (maxL := 2) (ret := (some .int)) (fun A : Nat → Prop => gQi D cy A out (w7 cy h0 r0_0 a0 s0)) (by decide +kernel) rfl (Nat.le_of_ble_eq_true rfl) ?_
  intro p e s m below meth c A C hA hK hP hD ls hl
  obtain ⟨hx, hb, hr, hml, hown, hts, hlk⟩ := id C
  have hown : s.vm.findClass RX7 = some m.cls := hown
  have hS : va_S A s.heap s.heap [] := va_S.rf
  have hl : lv_has ls 2 [(0, .ref h0), (1, .int p1)] := hl
  have hk_40 := hts _ (List.mem_cons_of_mem _ fl_RX7_40)
  unfold f_X7_signsOf at hf
  refine lv_iload_n hx hb dX7_signsOf_0 rfl (lv_at hl 1 rfl) ?_
  refine lv_if_lt (tgt := 12) hx hb dX7_signsOf_1 (by decide) (fun c_1 => ?_) (fun c_1 => ?_)
  · have hf := op_pos c_1 hf
    refine lv_iconst (v := 0) hx hb dX7_signsOf_12 (by decide) ?_
    rw [← Option.some.inj hf]
    exact g_iret hx hb hr hlk hK hP hD hS dX7_signsOf_13
  · have hf := op_neg c_1 hf
    refine lv_iload_n hx hb dX7_signsOf_4 rfl (lv_at hl 1 rfl) ?_
    refine lv_aload_n hx hb dX7_signsOf_5 rfl (lv_at hl 0 rfl) ?_
    refine va_get (ci := 7) (v := .int (s0.1 4)) (C := RX7) (T := TX7) (N := 7) hx hb hts (fun w h => List.mem_cons_of_mem _ (inX7 w h)) hown hK hP 0 rfl rfl 4 (by decide) hk_40 (fun _ h9 => h9) rfl dX7_signsOf_6 ?_
    refine lv_icmp_lt (tgt := 14) hx hb dX7_signsOf_9 (by decide) (fun c_9 => ?_) (fun c_9 => ?_)
    · have hf := op_pos c_9 hf
      refine lv_aload_n hx hb dX7_signsOf_14 rfl (lv_at hl 0 rfl) ?_
      refine lv_iload_n hx hb dX7_signsOf_15 rfl (lv_at hl 1 rfl) ?_
      refine lv_iconst (v := 2) hx hb dX7_signsOf_16 (by decide) ?_
      refine lv_imul hx hb dX7_signsOf_17 ?_
      obtain ⟨q_18, hc_18, hf⟩ := op_bind hf
      refine g_callVi (As := [.int (p1 * 2)]) (rest := []) (w2 := w7 cy h0 r0_0 a0 s0) ⟨hx, hb, hml, hown, hts⟩ (c_X7_rowLength l D cy h0 r0_0 a0 s0 _ fu (p1 * 2) _ hc_18) (cwV 1 hts (gi_V ml_RX7_43 im_X7_rowLength se_X7_rowLength in_RX7 cd_X7_rowLength) rfl rfl rfl hdX7_rowLength ⟨Nat.le_of_ble_eq_true rfl, Nat.le_of_ble_eq_true rfl⟩) (va_recv hK hP (ci := 7) (q0 := 0) rfl rfl) rfl hl.1 rfl (Nat.le_of_ble_eq_true rfl) dX7_signsOf_18 hK hP hD hS hA [0, 1] [] [0, 1] rfl rfl rfl rfl (by decide) rfl rfl (fun H locs hP hD hS => ?_)
      refine lv_aload_n hx hb dX7_signsOf_21 rfl (lv_at hl 0 rfl) ?_
      refine lv_iload_n hx hb dX7_signsOf_22 rfl (lv_at hl 1 rfl) ?_
      refine lv_iconst (v := 2) hx hb dX7_signsOf_23 (by decide) ?_
      refine lv_imul hx hb dX7_signsOf_24 ?_
      refine lv_iconst (v := 1) hx hb dX7_signsOf_25 (by decide) ?_
      refine lv_iadd hx hb dX7_signsOf_26 ?_
      obtain ⟨q_27, hc_27, hf⟩ := op_bind hf
      refine g_callVi (As := [.int ((p1 * 2) + 1)]) (rest := [.int q_18]) (w2 := w7 cy h0 r0_0 a0 s0) ⟨hx, hb, hml, hown, hts⟩ (c_X7_rowLength l D cy h0 r0_0 a0 s0 _ fu ((p1 * 2) + 1) _ hc_27) (cwV 1 hts (gi_V ml_RX7_43 im_X7_rowLength se_X7_rowLength in_RX7 cd_X7_rowLength) rfl rfl rfl hdX7_rowLength ⟨Nat.le_of_ble_eq_true rfl, Nat.le_of_ble_eq_true rfl⟩) (va_recv hK hP (ci := 7) (q0 := 0) rfl rfl) rfl hl.1 rfl (Nat.le_of_ble_eq_true rfl) dX7_signsOf_27 hK hP hD hS hA [0, 1] [] [0, 1] rfl rfl rfl rfl (by decide) rfl rfl (fun H locs hP hD hS => ?_)
      refine lv_iadd hx hb dX7_signsOf_30 ?_
      rw [← Option.some.inj hf]
      exact g_iret hx hb hr hlk hK hP hD hS dX7_signsOf_31
    · have hf := op_neg c_9 hf
      refine lv_iconst (v := 0) hx hb dX7_signsOf_12 (by decide) ?_
      rw [← Option.some.inj hf]
      exact g_iret hx hb hr hlk hK hP hD hS dX7_signsOf_13
def f_X7_setString (fu : Nat)  (s0 : St) (p2 : Int32) (p3 : Int32) (p4 : Int32) : Option (St) := if isB p4 = true then (some (sF (sF (sF s0 1 p2) 2 p3) 3 p4)) else none
theorem hdX7_setString : yX7_setString.cls = RX7 ∧ yX7_setString.cls ≠ "java/lang/invoke/MethodHandle" ∧ yX7_setString.cls ≠ "java/lang/invoke/VarHandle" ∧ (parseMethodDescriptor yX7_setString.desc).map (fun d => d.parameters.length) = some 4 := by decide +kernel
set_option maxHeartbeats 4000000 in
set_option maxRecDepth 100000 in
theorem c_X7_setString (l : Launch) (D : va_G) (cy : Nat → ClassId) (h0 : Nat) (r0_0 : Nat) (a0 : Nat → Nat) (s0 : St) (r_arg : Nat) (sz fu : Nat) (p2 : Int32) (p3 : Int32) (p4 : Int32) (out : St) (hf : f_X7_setString fu s0 p2 p3 p4 = some out) :
    Met l yX7_setString (WS yX7_setString cX7_setString 5 none) ({ frames := 0, cells := 0, slots := 0, locals := 0 } : Room) (va_Pc [.ref h0, .ref r_arg, .int p2, .int p3, .int p4] (gP D cy sz (w7 cy h0 r0_0 a0 s0))) ((fun A : Nat → Prop => gQv D cy A (w7 cy h0 r_arg a0 out)) (va_A (w7 cy h0 r0_0 a0 s0) sz)) 0 0 (va_A (w7 cy h0 r0_0 a0 s0) sz) := by
  refine g_met (cc := cX7_setString) (maxL := 5) (ret := none) (fun A : Nat → Prop => gQv D cy A (w7 cy h0 r_arg a0 out)) (by decide +kernel) rfl (Nat.le_of_ble_eq_true rfl) ?_
  intro p e s m below meth c A C hA hK hP hD ls hl
  obtain ⟨hx, hb, hr, hml, hown, hts, hlk⟩ := id C
  have hown : s.vm.findClass RX7 = some m.cls := hown
  have hS : va_S A s.heap s.heap [] := va_S.rf
  have hl : lv_has ls 5 [(0, .ref h0), (1, .ref r_arg), (2, .int p2), (3, .int p3), (4, .int p4)] := hl
  have hk_15 := hts _ (List.mem_cons_of_mem _ fl_RX7_15)
  have hk_19 := hts _ (List.mem_cons_of_mem _ fl_RX7_19)
  have hk_23 := hts _ (List.mem_cons_of_mem _ fl_RX7_23)
  have hk_26 := hts _ (List.mem_cons_of_mem _ fl_RX7_26)
  unfold f_X7_setString at hf
  refine lv_aload_n hx hb dX7_setString_0 rfl (lv_at hl 0 rfl) ?_
  refine lv_aload_n hx hb dX7_setString_1 rfl (lv_at hl 1 rfl) ?_
  refine va_put (ci := 7) (v := .ref r_arg) (ty := tyX7 0) (C := RX7) (T := TX7) (N := 7) hx hb hts (fun w h => List.mem_cons_of_mem _ (inX7 w h)) tyX7 tyX7_ok nmX7 hown hK hP hD hS 0 rfl rfl 0 (by decide) hk_15 (fun _ h9 => h9) rfl (tyX7_ok 0 (by decide)) rfl rfl (Nat.le_of_ble_eq_true rfl) dX7_setString_2 (fun H locs hP hD hS => ?_)
  have hP : va_P D vwCl (w7 cy h0 r_arg a0 s0) H := hP
  have hD : va_D A (w7 cy h0 r_arg a0 s0) := hD
  refine lv_aload_n hx hb dX7_setString_5 rfl (lv_at hl 0 rfl) ?_
  refine lv_iload_n hx hb dX7_setString_6 rfl (lv_at hl 2 rfl) ?_
  refine va_put (ci := 7) (v := .int p2) (ty := tyX7 1) (C := RX7) (T := TX7) (N := 7) hx hb hts (fun w h => List.mem_cons_of_mem _ (inX7 w h)) tyX7 tyX7_ok nmX7 hown hK hP hD hS 0 rfl rfl 1 (by decide) hk_19 (fun _ h9 => h9) rfl (tyX7_ok 1 (by decide)) rfl rfl (Nat.le_of_ble_eq_true rfl) dX7_setString_7 (fun H locs hP hD hS => ?_)
  have hP : va_P D vwCl (w7 cy h0 r_arg a0 (sF s0 1 p2)) H := pP7_1 hP
  have hD : va_D A (w7 cy h0 r_arg a0 (sF s0 1 p2)) := pD7_1 hD
  refine lv_aload_n hx hb dX7_setString_10 rfl (lv_at hl 0 rfl) ?_
  refine lv_iload_n hx hb dX7_setString_11 rfl (lv_at hl 3 rfl) ?_
  refine va_put (ci := 7) (v := .int p3) (ty := tyX7 2) (C := RX7) (T := TX7) (N := 7) hx hb hts (fun w h => List.mem_cons_of_mem _ (inX7 w h)) tyX7 tyX7_ok nmX7 hown hK hP hD hS 0 rfl rfl 2 (by decide) hk_23 (fun _ h9 => h9) rfl (tyX7_ok 2 (by decide)) rfl rfl (Nat.le_of_ble_eq_true rfl) dX7_setString_12 (fun H locs hP hD hS => ?_)
  have hP : va_P D vwCl (w7 cy h0 r_arg a0 (sF (sF s0 1 p2) 2 p3)) H := pP7_2 hP
  have hD : va_D A (w7 cy h0 r_arg a0 (sF (sF s0 1 p2) 2 p3)) := pD7_2 hD
  refine lv_aload_n hx hb dX7_setString_15 rfl (lv_at hl 0 rfl) ?_
  refine lv_iload hx hb dX7_setString_16 (lv_at hl 4 rfl) ?_
  obtain ⟨hg_18, hf⟩ := op_if hf
  refine va_put (ci := 7) (v := .int p4) (ty := tyX7 3) (C := RX7) (T := TX7) (N := 7) hx hb hts (fun w h => List.mem_cons_of_mem _ (inX7 w h)) tyX7 tyX7_ok nmX7 hown hK hP hD hS 0 rfl rfl 3 (by decide) hk_26 (fun _ h9 => h9) rfl (tyX7_ok 3 (by decide)) (isB_n hg_18) (isB_f hg_18) (Nat.le_of_ble_eq_true rfl) dX7_setString_18 (fun H locs hP hD hS => ?_)
  have hP : va_P D vwCl (w7 cy h0 r_arg a0 (sF (sF (sF s0 1 p2) 2 p3) 3 p4)) H := pP7_3 hP
  have hD : va_D A (w7 cy h0 r_arg a0 (sF (sF (sF s0 1 p2) 2 p3) 3 p4)) := pD7_3 hD
  rw [← Option.some.inj hf]
  exact g_vret hx hb hr hlk hK hP hD hS dX7_setString_21
