def f_X5_hasTongue (fu : Nat) (s0 : St)  (p1 : Int32) : Option (Int32) := if p1 < 0 then (some 0) else (if (s0.1 0) ≤ p1 then (some 0) else (if 4 ≤ p1 then (some 0) else (some 1)))
theorem hdX5_hasTongue : yX5_hasTongue.cls = RX5 ∧ yX5_hasTongue.cls ≠ "java/lang/invoke/MethodHandle" ∧ yX5_hasTongue.cls ≠ "java/lang/invoke/VarHandle" ∧ (parseMethodDescriptor yX5_hasTongue.desc).map (fun d => d.parameters.length) = some 1 := by decide +kernel
set_option maxHeartbeats 4000000 in
set_option maxRecDepth 100000 in
theorem c_X5_hasTongue (l : Launch) (D : va_G) (cy : Nat → ClassId) (h0 : Nat) (a0 : Nat → Nat) (s0 : St) (sz fu : Nat) (p1 : Int32) (out : Int32) (hf : f_X5_hasTongue fu s0 p1 = some out) :
    Met l yX5_hasTongue (WS yX5_hasTongue cX5_hasTongue 2 (some .boolean)) ({ frames := 0, cells := 0, slots := 0, locals := 0 } : Room) (va_Pc [.ref h0, .int p1] (gP D cy sz (w5 cy h0 a0 s0))) ((fun A : Nat → Prop => gQi D cy A out (w5 cy h0 a0 s0)) (va_A (w5 cy h0 a0 s0) sz)) 0 0 (va_A (w5 cy h0 a0 s0) sz) := by
  refine g_met (cc := cX5_hasTongue) (maxL := 2) (ret := (some .boolean)) (fun A : Nat → Prop => gQi D cy A out (w5 cy h0 a0 s0)) (by decide +kernel) rfl (Nat.le_of_ble_eq_true rfl) ?_
  intro p e s m below meth c A C hA hK hP hD ls hl
  obtain ⟨hx, hb, hr, hml, hown, hts, hlk⟩ := id C
  have hown : s.vm.findClass RX5 = some m.cls := hown
  have hS : va_S A s.heap s.heap [] := va_S.rf
  have hl : lv_has ls 2 [(0, .ref h0), (1, .int p1)] := hl
  have hk_9 := hts _ (List.mem_cons_of_mem _ fl_RX5_9)
  unfold f_X5_hasTongue at hf
  refine lv_iload_n hx hb dX5_hasTongue_0 rfl (lv_at hl 1 rfl) ?_
  refine lv_if_lt (tgt := 21) hx hb dX5_hasTongue_1 (by decide) (fun c_1 => ?_) (fun c_1 => ?_)
  · have hf := op_pos c_1 hf
    refine lv_iconst (v := 0) hx hb dX5_hasTongue_21 (by decide) ?_
    rw [← Option.some.inj hf]
    exact g_zret hx hb hr hlk (show isB 0 = true by decide) hK hP hD hS dX5_hasTongue_22
  · have hf := op_neg c_1 hf
    refine lv_iload_n hx hb dX5_hasTongue_4 rfl (lv_at hl 1 rfl) ?_
    refine lv_aload_n hx hb dX5_hasTongue_5 rfl (lv_at hl 0 rfl) ?_
    refine va_get (ci := 5) (v := .int (s0.1 0)) (C := RX5) (T := TX5) (N := 13) hx hb hts (fun w h => List.mem_cons_of_mem _ (inX5 w h)) hown hK hP 0 rfl rfl 0 (by decide) hk_9 (fun _ h9 => h9) rfl dX5_hasTongue_6 ?_
    refine lv_icmp_ge (tgt := 21) hx hb dX5_hasTongue_9 (by decide) (fun c_9 => ?_) (fun c_9 => ?_)
    · have hf := op_pos c_9 hf
      refine lv_iconst (v := 0) hx hb dX5_hasTongue_21 (by decide) ?_
      rw [← Option.some.inj hf]
      exact g_zret hx hb hr hlk (show isB 0 = true by decide) hK hP hD hS dX5_hasTongue_22
    · have hf := op_neg c_9 hf
      refine lv_iload_n hx hb dX5_hasTongue_12 rfl (lv_at hl 1 rfl) ?_
      refine lv_iconst (v := 4) hx hb dX5_hasTongue_13 (by decide) ?_
      refine lv_icmp_ge (tgt := 21) hx hb dX5_hasTongue_14 (by decide) (fun c_14 => ?_) (fun c_14 => ?_)
      · have hf := op_pos c_14 hf
        refine lv_iconst (v := 0) hx hb dX5_hasTongue_21 (by decide) ?_
        rw [← Option.some.inj hf]
        exact g_zret hx hb hr hlk (show isB 0 = true by decide) hK hP hD hS dX5_hasTongue_22
      · have hf := op_neg c_14 hf
        refine lv_iconst (v := 1) hx hb dX5_hasTongue_17 (by decide) ?_
        refine lv_goto (tgt := 22) hx hb dX5_hasTongue_18 (by decide) ?_
        rw [← Option.some.inj hf]
        exact g_zret hx hb hr hlk (show isB 1 = true by decide) hK hP hD hS dX5_hasTongue_22
def f_X5_hasTitle (fu : Nat) (s0 : St)  (p1 : Int32) : Option (Int32) := if p1 < 0 then (some 0) else (if (s0.1 1) ≤ p1 then (some 0) else (if 40 ≤ p1 then (some 0) else (some 1)))
theorem hdX5_hasTitle : yX5_hasTitle.cls = RX5 ∧ yX5_hasTitle.cls ≠ "java/lang/invoke/MethodHandle" ∧ yX5_hasTitle.cls ≠ "java/lang/invoke/VarHandle" ∧ (parseMethodDescriptor yX5_hasTitle.desc).map (fun d => d.parameters.length) = some 1 := by decide +kernel
set_option maxHeartbeats 4000000 in
set_option maxRecDepth 100000 in
theorem c_X5_hasTitle (l : Launch) (D : va_G) (cy : Nat → ClassId) (h0 : Nat) (a0 : Nat → Nat) (s0 : St) (sz fu : Nat) (p1 : Int32) (out : Int32) (hf : f_X5_hasTitle fu s0 p1 = some out) :
    Met l yX5_hasTitle (WS yX5_hasTitle cX5_hasTitle 2 (some .boolean)) ({ frames := 0, cells := 0, slots := 0, locals := 0 } : Room) (va_Pc [.ref h0, .int p1] (gP D cy sz (w5 cy h0 a0 s0))) ((fun A : Nat → Prop => gQi D cy A out (w5 cy h0 a0 s0)) (va_A (w5 cy h0 a0 s0) sz)) 0 0 (va_A (w5 cy h0 a0 s0) sz) := by
  refine g_met (cc := cX5_hasTitle) (maxL := 2) (ret := (some .boolean)) (fun A : Nat → Prop => gQi D cy A out (w5 cy h0 a0 s0)) (by decide +kernel) rfl (Nat.le_of_ble_eq_true rfl) ?_
  intro p e s m below meth c A C hA hK hP hD ls hl
  obtain ⟨hx, hb, hr, hml, hown, hts, hlk⟩ := id C
  have hown : s.vm.findClass RX5 = some m.cls := hown
  have hS : va_S A s.heap s.heap [] := va_S.rf
  have hl : lv_has ls 2 [(0, .ref h0), (1, .int p1)] := hl
  have hk_40 := hts _ (List.mem_cons_of_mem _ fl_RX5_40)
  unfold f_X5_hasTitle at hf
  refine lv_iload_n hx hb dX5_hasTitle_0 rfl (lv_at hl 1 rfl) ?_
  refine lv_if_lt (tgt := 22) hx hb dX5_hasTitle_1 (by decide) (fun c_1 => ?_) (fun c_1 => ?_)
  · have hf := op_pos c_1 hf
    refine lv_iconst (v := 0) hx hb dX5_hasTitle_22 (by decide) ?_
    rw [← Option.some.inj hf]
    exact g_zret hx hb hr hlk (show isB 0 = true by decide) hK hP hD hS dX5_hasTitle_23
  · have hf := op_neg c_1 hf
    refine lv_iload_n hx hb dX5_hasTitle_4 rfl (lv_at hl 1 rfl) ?_
    refine lv_aload_n hx hb dX5_hasTitle_5 rfl (lv_at hl 0 rfl) ?_
    refine va_get (ci := 5) (v := .int (s0.1 1)) (C := RX5) (T := TX5) (N := 13) hx hb hts (fun w h => List.mem_cons_of_mem _ (inX5 w h)) hown hK hP 0 rfl rfl 1 (by decide) hk_40 (fun _ h9 => h9) rfl dX5_hasTitle_6 ?_
    refine lv_icmp_ge (tgt := 22) hx hb dX5_hasTitle_9 (by decide) (fun c_9 => ?_) (fun c_9 => ?_)
    · have hf := op_pos c_9 hf
      refine lv_iconst (v := 0) hx hb dX5_hasTitle_22 (by decide) ?_
      rw [← Option.some.inj hf]
      exact g_zret hx hb hr hlk (show isB 0 = true by decide) hK hP hD hS dX5_hasTitle_23
    · have hf := op_neg c_9 hf
      refine lv_iload_n hx hb dX5_hasTitle_12 rfl (lv_at hl 1 rfl) ?_
      refine lv_bipush (v := 40) hx hb dX5_hasTitle_13 (by decide) ?_
      refine lv_icmp_ge (tgt := 22) hx hb dX5_hasTitle_15 (by decide) (fun c_15 => ?_) (fun c_15 => ?_)
      · have hf := op_pos c_15 hf
        refine lv_iconst (v := 0) hx hb dX5_hasTitle_22 (by decide) ?_
        rw [← Option.some.inj hf]
        exact g_zret hx hb hr hlk (show isB 0 = true by decide) hK hP hD hS dX5_hasTitle_23
      · have hf := op_neg c_15 hf
        refine lv_iconst (v := 1) hx hb dX5_hasTitle_18 (by decide) ?_
        refine lv_goto (tgt := 23) hx hb dX5_hasTitle_19 (by decide) ?_
        rw [← Option.some.inj hf]
        exact g_zret hx hb hr hlk (show isB 1 = true by decide) hK hP hD hS dX5_hasTitle_23
def f_X5_hasCut (fu : Nat) (s0 : St)  (p1 : Int32) : Option (Int32) := if p1 < 0 then (some 0) else (if 8 ≤ p1 then (some 0) else (if inb p1 8 = true then (if (s0.2 8 p1.toNatClampNeg) ≤ 0 then (some 0) else (some 1)) else none))
theorem hdX5_hasCut : yX5_hasCut.cls = RX5 ∧ yX5_hasCut.cls ≠ "java/lang/invoke/MethodHandle" ∧ yX5_hasCut.cls ≠ "java/lang/invoke/VarHandle" ∧ (parseMethodDescriptor yX5_hasCut.desc).map (fun d => d.parameters.length) = some 1 := by decide +kernel
set_option maxHeartbeats 4000000 in
set_option maxRecDepth 100000 in
theorem c_X5_hasCut (l : Launch) (D : va_G) (cy : Nat → ClassId) (h0 : Nat) (a0 : Nat → Nat) (s0 : St) (sz fu : Nat) (p1 : Int32) (out : Int32) (hf : f_X5_hasCut fu s0 p1 = some out) :
    Met l yX5_hasCut (WS yX5_hasCut cX5_hasCut 2 (some .boolean)) ({ frames := 0, cells := 0, slots := 0, locals := 0 } : Room) (va_Pc [.ref h0, .int p1] (gP D cy sz (w5 cy h0 a0 s0))) ((fun A : Nat → Prop => gQi D cy A out (w5 cy h0 a0 s0)) (va_A (w5 cy h0 a0 s0) sz)) 0 0 (va_A (w5 cy h0 a0 s0) sz) := by
  refine g_met (cc := cX5_hasCut) (maxL := 2) (ret := (some .boolean)) (fun A : Nat → Prop => gQi D cy A out (w5 cy h0 a0 s0)) (by decide +kernel) rfl (Nat.le_of_ble_eq_true rfl) ?_
  intro p e s m below meth c A C hA hK hP hD ls hl
  obtain ⟨hx, hb, hr, hml, hown, hts, hlk⟩ := id C
  have hown : s.vm.findClass RX5 = some m.cls := hown
  have hS : va_S A s.heap s.heap [] := va_S.rf
  have hl : lv_has ls 2 [(0, .ref h0), (1, .int p1)] := hl
  have hk_25 := hts _ (List.mem_cons_of_mem _ fl_RX5_25)
  unfold f_X5_hasCut at hf
  refine lv_iload_n hx hb dX5_hasCut_0 rfl (lv_at hl 1 rfl) ?_
  refine lv_if_lt (tgt := 23) hx hb dX5_hasCut_1 (by decide) (fun c_1 => ?_) (fun c_1 => ?_)
  · have hf := op_pos c_1 hf
    refine lv_iconst (v := 0) hx hb dX5_hasCut_23 (by decide) ?_
    rw [← Option.some.inj hf]
    exact g_zret hx hb hr hlk (show isB 0 = true by decide) hK hP hD hS dX5_hasCut_24
  · have hf := op_neg c_1 hf
    refine lv_iload_n hx hb dX5_hasCut_4 rfl (lv_at hl 1 rfl) ?_
    refine lv_bipush (v := 8) hx hb dX5_hasCut_5 (by decide) ?_
    refine lv_icmp_ge (tgt := 23) hx hb dX5_hasCut_7 (by decide) (fun c_7 => ?_) (fun c_7 => ?_)
    · have hf := op_pos c_7 hf
      refine lv_iconst (v := 0) hx hb dX5_hasCut_23 (by decide) ?_
      rw [← Option.some.inj hf]
      exact g_zret hx hb hr hlk (show isB 0 = true by decide) hK hP hD hS dX5_hasCut_24
    · have hf := op_neg c_7 hf
      refine lv_aload_n hx hb dX5_hasCut_10 rfl (lv_at hl 0 rfl) ?_
      refine va_get (ci := 5) (v := .ref (a0 8)) (C := RX5) (T := TX5) (N := 13) hx hb hts (fun w h => List.mem_cons_of_mem _ (inX5 w h)) hown hK hP 0 rfl rfl 8 (by decide) hk_25 (fun _ h9 => h9) rfl dX5_hasCut_11 ?_
      refine lv_iload_n hx hb dX5_hasCut_14 rfl (lv_at hl 1 rfl) ?_
      obtain ⟨hg_15, hf⟩ := op_if hf
      refine va_iald (f := s0.2 8) hx hb hK hP 4 0 rfl rfl (inb_in hg_15) dX5_hasCut_15 ?_
      refine lv_if_le (tgt := 23) hx hb dX5_hasCut_16 (by decide) (fun c_16 => ?_) (fun c_16 => ?_)
      · have hf := op_pos c_16 hf
        refine lv_iconst (v := 0) hx hb dX5_hasCut_23 (by decide) ?_
        rw [← Option.some.inj hf]
        exact g_zret hx hb hr hlk (show isB 0 = true by decide) hK hP hD hS dX5_hasCut_24
      · have hf := op_neg c_16 hf
        refine lv_iconst (v := 1) hx hb dX5_hasCut_19 (by decide) ?_
        refine lv_goto (tgt := 24) hx hb dX5_hasCut_20 (by decide) ?_
        rw [← Option.some.inj hf]
        exact g_zret hx hb hr hlk (show isB 1 = true by decide) hK hP hD hS dX5_hasCut_24
def f_X5_isFullOfMarks (fu : Nat) (s0 : St)   : Option (Int32) := if (s0.1 3) < 40 then (some 0) else (some 1)
theorem hdX5_isFullOfMarks : yX5_isFullOfMarks.cls = RX5 ∧ yX5_isFullOfMarks.cls ≠ "java/lang/invoke/MethodHandle" ∧ yX5_isFullOfMarks.cls ≠ "java/lang/invoke/VarHandle" ∧ (parseMethodDescriptor yX5_isFullOfMarks.desc).map (fun d => d.parameters.length) = some 0 := by decide +kernel
set_option maxHeartbeats 4000000 in
set_option maxRecDepth 100000 in
theorem c_X5_isFullOfMarks (l : Launch) (D : va_G) (cy : Nat → ClassId) (h0 : Nat) (a0 : Nat → Nat) (s0 : St) (sz fu : Nat)  (out : Int32) (hf : f_X5_isFullOfMarks fu s0 = some out) :
    Met l yX5_isFullOfMarks (WS yX5_isFullOfMarks cX5_isFullOfMarks 1 (some .boolean)) ({ frames := 0, cells := 0, slots := 0, locals := 0 } : Room) (va_Pc [.ref h0] (gP D cy sz (w5 cy h0 a0 s0))) ((fun A : Nat → Prop => gQi D cy A out (w5 cy h0 a0 s0)) (va_A (w5 cy h0 a0 s0) sz)) 0 0 (va_A (w5 cy h0 a0 s0) sz) := by
  refine g_met (cc := cX5_isFullOfMarks) (maxL := 1) (ret := (some .boolean)) (fun A : Nat → Prop => gQi D cy A out (w5 cy h0 a0 s0)) (by decide +kernel) rfl (Nat.le_of_ble_eq_true rfl) ?_
  intro p e s m below meth c A C hA hK hP hD ls hl
  obtain ⟨hx, hb, hr, hml, hown, hts, hlk⟩ := id C
  have hown : s.vm.findClass RX5 = some m.cls := hown
  have hS : va_S A s.heap s.heap [] := va_S.rf
  have hl : lv_has ls 1 [(0, .ref h0)] := hl
  have hk_46 := hts _ (List.mem_cons_of_mem _ fl_RX5_46)
  unfold f_X5_isFullOfMarks at hf
  refine lv_aload_n hx hb dX5_isFullOfMarks_0 rfl (lv_at hl 0 rfl) ?_
  refine va_get (ci := 5) (v := .int (s0.1 3)) (C := RX5) (T := TX5) (N := 13) hx hb hts (fun w h => List.mem_cons_of_mem _ (inX5 w h)) hown hK hP 0 rfl rfl 3 (by decide) hk_46 (fun _ h9 => h9) rfl dX5_isFullOfMarks_1 ?_
  refine lv_bipush (v := 40) hx hb dX5_isFullOfMarks_4 (by decide) ?_
  refine lv_icmp_lt (tgt := 13) hx hb dX5_isFullOfMarks_6 (by decide) (fun c_6 => ?_) (fun c_6 => ?_)
  · have hf := op_pos c_6 hf
    refine lv_iconst (v := 0) hx hb dX5_isFullOfMarks_13 (by decide) ?_
    rw [← Option.some.inj hf]
    exact g_zret hx hb hr hlk (show isB 0 = true by decide) hK hP hD hS dX5_isFullOfMarks_14
  · have hf := op_neg c_6 hf
    refine lv_iconst (v := 1) hx hb dX5_isFullOfMarks_9 (by decide) ?_
    refine lv_goto (tgt := 14) hx hb dX5_isFullOfMarks_10 (by decide) ?_
    rw [← Option.some.inj hf]
    exact g_zret hx hb hr hlk (show isB 1 = true by decide) hK hP hD hS dX5_isFullOfMarks_14
def f_X5_isFullOfCuts (fu : Nat) (s0 : St)   : Option (Int32) := if (s0.1 2) < 8 then (some 0) else (some 1)
theorem hdX5_isFullOfCuts : yX5_isFullOfCuts.cls = RX5 ∧ yX5_isFullOfCuts.cls ≠ "java/lang/invoke/MethodHandle" ∧ yX5_isFullOfCuts.cls ≠ "java/lang/invoke/VarHandle" ∧ (parseMethodDescriptor yX5_isFullOfCuts.desc).map (fun d => d.parameters.length) = some 0 := by decide +kernel
set_option maxHeartbeats 4000000 in
set_option maxRecDepth 100000 in
theorem c_X5_isFullOfCuts (l : Launch) (D : va_G) (cy : Nat → ClassId) (h0 : Nat) (a0 : Nat → Nat) (s0 : St) (sz fu : Nat)  (out : Int32) (hf : f_X5_isFullOfCuts fu s0 = some out) :
    Met l yX5_isFullOfCuts (WS yX5_isFullOfCuts cX5_isFullOfCuts 1 (some .boolean)) ({ frames := 0, cells := 0, slots := 0, locals := 0 } : Room) (va_Pc [.ref h0] (gP D cy sz (w5 cy h0 a0 s0))) ((fun A : Nat → Prop => gQi D cy A out (w5 cy h0 a0 s0)) (va_A (w5 cy h0 a0 s0) sz)) 0 0 (va_A (w5 cy h0 a0 s0) sz) := by
  refine g_met (cc := cX5_isFullOfCuts) (maxL := 1) (ret := (some .boolean)) (fun A : Nat → Prop => gQi D cy A out (w5 cy h0 a0 s0)) (by decide +kernel) rfl (Nat.le_of_ble_eq_true rfl) ?_
  intro p e s m below meth c A C hA hK hP hD ls hl
  obtain ⟨hx, hb, hr, hml, hown, hts, hlk⟩ := id C
  have hown : s.vm.findClass RX5 = some m.cls := hown
  have hS : va_S A s.heap s.heap [] := va_S.rf
  have hl : lv_has ls 1 [(0, .ref h0)] := hl
  have hk_43 := hts _ (List.mem_cons_of_mem _ fl_RX5_43)
  unfold f_X5_isFullOfCuts at hf
  refine lv_aload_n hx hb dX5_isFullOfCuts_0 rfl (lv_at hl 0 rfl) ?_
  refine va_get (ci := 5) (v := .int (s0.1 2)) (C := RX5) (T := TX5) (N := 13) hx hb hts (fun w h => List.mem_cons_of_mem _ (inX5 w h)) hown hK hP 0 rfl rfl 2 (by decide) hk_43 (fun _ h9 => h9) rfl dX5_isFullOfCuts_1 ?_
  refine lv_bipush (v := 8) hx hb dX5_isFullOfCuts_4 (by decide) ?_
  refine lv_icmp_lt (tgt := 13) hx hb dX5_isFullOfCuts_6 (by decide) (fun c_6 => ?_) (fun c_6 => ?_)
  · have hf := op_pos c_6 hf
    refine lv_iconst (v := 0) hx hb dX5_isFullOfCuts_13 (by decide) ?_
    rw [← Option.some.inj hf]
    exact g_zret hx hb hr hlk (show isB 0 = true by decide) hK hP hD hS dX5_isFullOfCuts_14
  · have hf := op_neg c_6 hf
    refine lv_iconst (v := 1) hx hb dX5_isFullOfCuts_9 (by decide) ?_
    refine lv_goto (tgt := 14) hx hb dX5_isFullOfCuts_10 (by decide) ?_
    rw [← Option.some.inj hf]
    exact g_zret hx hb hr hlk (show isB 1 = true by decide) hK hP hD hS dX5_isFullOfCuts_14
def f_X5_tellsW (fu : Nat) (s0 : St)  (p2 : Int32) : Option (Int32) := (f_X5_hasTongue fu s0 p2).bind (fun q_2 => if q_2 = 0 then (some 0) else (if 4 ≤ p2 then (some 0) else (if inb p2 4 = true then (if (s0.2 5 p2.toNatClampNeg) ≤ 0 then (some 0) else (some 1)) else none)))
theorem hdX5_tells : yX5_tells.cls = RX5 ∧ yX5_tells.cls ≠ "java/lang/invoke/MethodHandle" ∧ yX5_tells.cls ≠ "java/lang/invoke/VarHandle" ∧ (parseMethodDescriptor yX5_tells.desc).map (fun d => d.parameters.length) = some 2 := by decide +kernel
set_option maxHeartbeats 4000000 in
set_option maxRecDepth 100000 in
theorem c_X5_tellsW (l : Launch) (D : va_G) (cy : Nat → ClassId) (h0 : Nat) (a0 : Nat → Nat) (s0 : St) (sz fu : Nat) (p2 : Int32) (out : Int32) (hf : f_X5_tellsW fu s0 p2 = some out) :
    Met l yX5_tells (WS yX5_tells cX5_tells 3 (some .boolean)) ({ frames := 1, cells := 0, slots := 0, locals := 21 } : Room) (va_Pc [.ref h0, .ref (a0 5), .int p2] (gP D cy sz (w5 cy h0 a0 s0))) ((fun A : Nat → Prop => gQi D cy A out (w5 cy h0 a0 s0)) (va_A (w5 cy h0 a0 s0) sz)) 0 0 (va_A (w5 cy h0 a0 s0) sz) := by
  refine g_met (cc := cX5_tells) (maxL := 3) (ret := (some .boolean)) (fun A : Nat → Prop => gQi D cy A out (w5 cy h0 a0 s0)) (by decide +kernel) rfl (Nat.le_of_ble_eq_true rfl) ?_
  intro p e s m below meth c A C hA hK hP hD ls hl
  obtain ⟨hx, hb, hr, hml, hown, hts, hlk⟩ := id C
  have hown : s.vm.findClass RX5 = some m.cls := hown
  have hS : va_S A s.heap s.heap [] := va_S.rf
  have hl : lv_has ls 3 [(0, .ref h0), (1, .ref (a0 5)), (2, .int p2)] := hl
  unfold f_X5_tellsW at hf
  refine lv_aload_n hx hb dX5_tells_0 rfl (lv_at hl 0 rfl) ?_
  refine lv_iload_n hx hb dX5_tells_1 rfl (lv_at hl 2 rfl) ?_
  obtain ⟨q_2, hc_2, hf⟩ := op_bind hf
  refine g_callVi (As := [.int p2]) (rest := []) (w2 := w5 cy h0 a0 s0) ⟨hx, hb, hml, hown, hts⟩ (c_X5_hasTongue l D cy h0 a0 s0 _ fu p2 _ hc_2) (cwV 1 hts (gi_V ml_RX5_58 im_X5_hasTongue se_X5_hasTongue in_RX5 cd_X5_hasTongue) rfl rfl rfl hdX5_hasTongue ⟨Nat.le_of_ble_eq_true rfl, Nat.le_of_ble_eq_true rfl⟩) (va_recv hK hP (ci := 5) (q0 := 0) rfl rfl) rfl hl.1 rfl (Nat.le_of_ble_eq_true rfl) dX5_tells_2 hK hP hD hS hA [0, 1, 2, 3, 4, 5, 6, 7, 8] [] [0, 1, 2, 3, 4, 5, 6, 7, 8] rfl rfl rfl rfl (by decide) rfl rfl (fun H locs hP hD hS => ?_)
  refine lv_if_eq (tgt := 24) hx hb dX5_tells_5 (by decide) (fun c_5 => ?_) (fun c_5 => ?_)
  · have hf := op_pos c_5 hf
    refine lv_iconst (v := 0) hx hb dX5_tells_24 (by decide) ?_
    rw [← Option.some.inj hf]
    exact g_zret hx hb hr hlk (show isB 0 = true by decide) hK hP hD hS dX5_tells_25
  · have hf := op_neg c_5 hf
    refine lv_iload_n hx hb dX5_tells_8 rfl (lv_at hl 2 rfl) ?_
    refine lv_aload_n hx hb dX5_tells_9 rfl (lv_at hl 1 rfl) ?_
    refine va_alen (v := 4) hx hb hK hP 1 0 rfl rfl rfl dX5_tells_10 ?_
    refine lv_icmp_ge (tgt := 24) hx hb dX5_tells_11 (by decide) (fun c_11 => ?_) (fun c_11 => ?_)
    · have hf := op_pos c_11 hf
      refine lv_iconst (v := 0) hx hb dX5_tells_24 (by decide) ?_
      rw [← Option.some.inj hf]
      exact g_zret hx hb hr hlk (show isB 0 = true by decide) hK hP hD hS dX5_tells_25
    · have hf := op_neg c_11 hf
      refine lv_aload_n hx hb dX5_tells_14 rfl (lv_at hl 1 rfl) ?_
      refine lv_iload_n hx hb dX5_tells_15 rfl (lv_at hl 2 rfl) ?_
      obtain ⟨hg_16, hf⟩ := op_if hf
      refine va_iald (f := s0.2 5) hx hb hK hP 1 0 rfl rfl (inb_in hg_16) dX5_tells_16 ?_
      refine lv_if_le (tgt := 24) hx hb dX5_tells_17 (by decide) (fun c_17 => ?_) (fun c_17 => ?_)
      · have hf := op_pos c_17 hf
        refine lv_iconst (v := 0) hx hb dX5_tells_24 (by decide) ?_
        rw [← Option.some.inj hf]
        exact g_zret hx hb hr hlk (show isB 0 = true by decide) hK hP hD hS dX5_tells_25
      · have hf := op_neg c_17 hf
        refine lv_iconst (v := 1) hx hb dX5_tells_20 (by decide) ?_
        refine lv_goto (tgt := 25) hx hb dX5_tells_21 (by decide) ?_
        rw [← Option.some.inj hf]
        exact g_zret hx hb hr hlk (show isB 1 = true by decide) hK hP hD hS dX5_tells_25
def f_X5_tellsS (fu : Nat) (s0 : St)  (p2 : Int32) : Option (Int32) := (f_X5_hasTongue fu s0 p2).bind (fun q_2 => if q_2 = 0 then (some 0) else (if 4 ≤ p2 then (some 0) else (if inb p2 4 = true then (if (s0.2 6 p2.toNatClampNeg) ≤ 0 then (some 0) else (some 1)) else none)))
set_option maxHeartbeats 4000000 in
set_option maxRecDepth 100000 in
theorem c_X5_tellsS (l : Launch) (D : va_G) (cy : Nat → ClassId) (h0 : Nat) (a0 : Nat → Nat) (s0 : St) (sz fu : Nat) (p2 : Int32) (out : Int32) (hf : f_X5_tellsS fu s0 p2 = some out) :
    Met l yX5_tells (WS yX5_tells cX5_tells 3 (some .boolean)) ({ frames := 1, cells := 0, slots := 0, locals := 21 } : Room) (va_Pc [.ref h0, .ref (a0 6), .int p2] (gP D cy sz (w5 cy h0 a0 s0))) ((fun A : Nat → Prop => gQi D cy A out (w5 cy h0 a0 s0)) (va_A (w5 cy h0 a0 s0) sz)) 0 0 (va_A (w5 cy h0 a0 s0) sz) := by
  refine g_met (cc := cX5_tells) (maxL := 3) (ret := (some .boolean)) (fun A : Nat → Prop => gQi D cy A out (w5 cy h0 a0 s0)) (by decide +kernel) rfl (Nat.le_of_ble_eq_true rfl) ?_
  intro p e s m below meth c A C hA hK hP hD ls hl
  obtain ⟨hx, hb, hr, hml, hown, hts, hlk⟩ := id C
  have hown : s.vm.findClass RX5 = some m.cls := hown
  have hS : va_S A s.heap s.heap [] := va_S.rf
  have hl : lv_has ls 3 [(0, .ref h0), (1, .ref (a0 6)), (2, .int p2)] := hl
  unfold f_X5_tellsS at hf
  refine lv_aload_n hx hb dX5_tells_0 rfl (lv_at hl 0 rfl) ?_
  refine lv_iload_n hx hb dX5_tells_1 rfl (lv_at hl 2 rfl) ?_
  obtain ⟨q_2, hc_2, hf⟩ := op_bind hf
  refine g_callVi (As := [.int p2]) (rest := []) (w2 := w5 cy h0 a0 s0) ⟨hx, hb, hml, hown, hts⟩ (c_X5_hasTongue l D cy h0 a0 s0 _ fu p2 _ hc_2) (cwV 1 hts (gi_V ml_RX5_58 im_X5_hasTongue se_X5_hasTongue in_RX5 cd_X5_hasTongue) rfl rfl rfl hdX5_hasTongue ⟨Nat.le_of_ble_eq_true rfl, Nat.le_of_ble_eq_true rfl⟩) (va_recv hK hP (ci := 5) (q0 := 0) rfl rfl) rfl hl.1 rfl (Nat.le_of_ble_eq_true rfl) dX5_tells_2 hK hP hD hS hA [0, 1, 2, 3, 4, 5, 6, 7, 8] [] [0, 1, 2, 3, 4, 5, 6, 7, 8] rfl rfl rfl rfl (by decide) rfl rfl (fun H locs hP hD hS => ?_)
  refine lv_if_eq (tgt := 24) hx hb dX5_tells_5 (by decide) (fun c_5 => ?_) (fun c_5 => ?_)
  · have hf := op_pos c_5 hf
    refine lv_iconst (v := 0) hx hb dX5_tells_24 (by decide) ?_
    rw [← Option.some.inj hf]
    exact g_zret hx hb hr hlk (show isB 0 = true by decide) hK hP hD hS dX5_tells_25
  · have hf := op_neg c_5 hf
    refine lv_iload_n hx hb dX5_tells_8 rfl (lv_at hl 2 rfl) ?_
    refine lv_aload_n hx hb dX5_tells_9 rfl (lv_at hl 1 rfl) ?_
    refine va_alen (v := 4) hx hb hK hP 2 0 rfl rfl rfl dX5_tells_10 ?_
    refine lv_icmp_ge (tgt := 24) hx hb dX5_tells_11 (by decide) (fun c_11 => ?_) (fun c_11 => ?_)
    · have hf := op_pos c_11 hf
      refine lv_iconst (v := 0) hx hb dX5_tells_24 (by decide) ?_
      rw [← Option.some.inj hf]
      exact g_zret hx hb hr hlk (show isB 0 = true by decide) hK hP hD hS dX5_tells_25
    · have hf := op_neg c_11 hf
      refine lv_aload_n hx hb dX5_tells_14 rfl (lv_at hl 1 rfl) ?_
      refine lv_iload_n hx hb dX5_tells_15 rfl (lv_at hl 2 rfl) ?_
      obtain ⟨hg_16, hf⟩ := op_if hf
      refine va_iald (f := s0.2 6) hx hb hK hP 2 0 rfl rfl (inb_in hg_16) dX5_tells_16 ?_
      refine lv_if_le (tgt := 24) hx hb dX5_tells_17 (by decide) (fun c_17 => ?_) (fun c_17 => ?_)
      · have hf := op_pos c_17 hf
        refine lv_iconst (v := 0) hx hb dX5_tells_24 (by decide) ?_
        rw [← Option.some.inj hf]
        exact g_zret hx hb hr hlk (show isB 0 = true by decide) hK hP hD hS dX5_tells_25
      · have hf := op_neg c_17 hf
        refine lv_iconst (v := 1) hx hb dX5_tells_20 (by decide) ?_
        refine lv_goto (tgt := 25) hx hb dX5_tells_21 (by decide) ?_
        rw [← Option.some.inj hf]
        exact g_zret hx hb hr hlk (show isB 1 = true by decide) hK hP hD hS dX5_tells_25
def f_X5_tellW (fu : Nat)  (s0 : St) (p2 : Int32) (p3 : Int32) : Option (St) := (f_X5_hasTongue fu s0 p2).bind (fun q_2 => if q_2 = 0 then (some s0) else (if 4 ≤ p2 then (some s0) else (if inb p2 4 = true then (some (sA s0 5 p2.toNatClampNeg p3)) else none)))
theorem hdX5_tell : yX5_tell.cls = RX5 ∧ yX5_tell.cls ≠ "java/lang/invoke/MethodHandle" ∧ yX5_tell.cls ≠ "java/lang/invoke/VarHandle" ∧ (parseMethodDescriptor yX5_tell.desc).map (fun d => d.parameters.length) = some 3 := by decide +kernel
set_option maxHeartbeats 4000000 in
set_option maxRecDepth 100000 in
theorem c_X5_tellW (l : Launch) (D : va_G) (cy : Nat → ClassId) (h0 : Nat) (a0 : Nat → Nat) (s0 : St) (sz fu : Nat) (p2 : Int32) (p3 : Int32) (out : St) (hf : f_X5_tellW fu s0 p2 p3 = some out) :
    Met l yX5_tell (WS yX5_tell cX5_tell 4 none) ({ frames := 1, cells := 0, slots := 0, locals := 21 } : Room) (va_Pc [.ref h0, .ref (a0 5), .int p2, .int p3] (gP D cy sz (w5 cy h0 a0 s0))) ((fun A : Nat → Prop => gQv D cy A (w5 cy h0 a0 out)) (va_A (w5 cy h0 a0 s0) sz)) 0 0 (va_A (w5 cy h0 a0 s0) sz) := by
  refine g_met (cc := cX5_tell) (maxL := 4) (ret := none) (fun A : Nat → Prop => gQv D cy A (w5 cy h0 a0 out)) (by decide +kernel) rfl (Nat.le_of_ble_eq_true rfl) ?_
  intro p e s m below meth c A C hA hK hP hD ls hl
  obtain ⟨hx, hb, hr, hml, hown, hts, hlk⟩ := id C
  have hown : s.vm.findClass RX5 = some m.cls := hown
  have hS : va_S A s.heap s.heap [] := va_S.rf
  have hl : lv_has ls 4 [(0, .ref h0), (1, .ref (a0 5)), (2, .int p2), (3, .int p3)] := hl
  unfold f_X5_tellW at hf
  refine lv_aload_n hx hb dX5_tell_0 rfl (lv_at hl 0 rfl) ?_
  refine lv_iload_n hx hb dX5_tell_1 rfl (lv_at hl 2 rfl) ?_
  obtain ⟨q_2, hc_2, hf⟩ := op_bind hf
  refine g_callVi (As := [.int p2]) (rest := []) (w2 := w5 cy h0 a0 s0) ⟨hx, hb, hml, hown, hts⟩ (c_X5_hasTongue l D cy h0 a0 s0 _ fu p2 _ hc_2) (cwV 1 hts (gi_V ml_RX5_58 im_X5_hasTongue se_X5_hasTongue in_RX5 cd_X5_hasTongue) rfl rfl rfl hdX5_hasTongue ⟨Nat.le_of_ble_eq_true rfl, Nat.le_of_ble_eq_true rfl⟩) (va_recv hK hP (ci := 5) (q0 := 0) rfl rfl) rfl hl.1 rfl (Nat.le_of_ble_eq_true rfl) dX5_tell_2 hK hP hD hS hA [0, 1, 2, 3, 4, 5, 6, 7, 8] [] [0, 1, 2, 3, 4, 5, 6, 7, 8] rfl rfl rfl rfl (by decide) rfl rfl (fun H locs hP hD hS => ?_)
  refine lv_if_eq (tgt := 18) hx hb dX5_tell_5 (by decide) (fun c_5 => ?_) (fun c_5 => ?_)
  · have hf := op_pos c_5 hf
    rw [← Option.some.inj hf]
    exact g_vret hx hb hr hlk hK hP hD hS dX5_tell_18
  · have hf := op_neg c_5 hf
    refine lv_iload_n hx hb dX5_tell_8 rfl (lv_at hl 2 rfl) ?_
    refine lv_aload_n hx hb dX5_tell_9 rfl (lv_at hl 1 rfl) ?_
    refine va_alen (v := 4) hx hb hK hP 1 0 rfl rfl rfl dX5_tell_10 ?_
    refine lv_icmp_ge (tgt := 18) hx hb dX5_tell_11 (by decide) (fun c_11 => ?_) (fun c_11 => ?_)
    · have hf := op_pos c_11 hf
      rw [← Option.some.inj hf]
      exact g_vret hx hb hr hlk hK hP hD hS dX5_tell_18
    · have hf := op_neg c_11 hf
      refine lv_aload_n hx hb dX5_tell_14 rfl (lv_at hl 1 rfl) ?_
      refine lv_iload_n hx hb dX5_tell_15 rfl (lv_at hl 2 rfl) ?_
      refine lv_iload_n hx hb dX5_tell_16 rfl (lv_at hl 3 rfl) ?_
      obtain ⟨hg_17, hf⟩ := op_if hf
      refine va_iast (f := s0.2 5) (x := p3) hx hb hK hP hD hS 1 0 rfl rfl (inb_in hg_17) dX5_tell_17 (fun H locs hP hD hS => ?_)
      have hP : va_P D vwCl (w5 cy h0 a0 (sA s0 5 p2.toNatClampNeg p3)) H := pP5_5 hP
      have hD : va_D A (w5 cy h0 a0 (sA s0 5 p2.toNatClampNeg p3)) := pD5_5 hD
      rw [← Option.some.inj hf]
      exact g_vret hx hb hr hlk hK hP hD hS dX5_tell_18
def f_X5_tellS (fu : Nat)  (s0 : St) (p2 : Int32) (p3 : Int32) : Option (St) := (f_X5_hasTongue fu s0 p2).bind (fun q_2 => if q_2 = 0 then (some s0) else (if 4 ≤ p2 then (some s0) else (if inb p2 4 = true then (some (sA s0 6 p2.toNatClampNeg p3)) else none)))
set_option maxHeartbeats 4000000 in
set_option maxRecDepth 100000 in
theorem c_X5_tellS (l : Launch) (D : va_G) (cy : Nat → ClassId) (h0 : Nat) (a0 : Nat → Nat) (s0 : St) (sz fu : Nat) (p2 : Int32) (p3 : Int32) (out : St) (hf : f_X5_tellS fu s0 p2 p3 = some out) :
    Met l yX5_tell (WS yX5_tell cX5_tell 4 none) ({ frames := 1, cells := 0, slots := 0, locals := 21 } : Room) (va_Pc [.ref h0, .ref (a0 6), .int p2, .int p3] (gP D cy sz (w5 cy h0 a0 s0))) ((fun A : Nat → Prop => gQv D cy A (w5 cy h0 a0 out)) (va_A (w5 cy h0 a0 s0) sz)) 0 0 (va_A (w5 cy h0 a0 s0) sz) := by
  refine g_met (cc := cX5_tell) (maxL := 4) (ret := none) (fun A : Nat → Prop => gQv D cy A (w5 cy h0 a0 out)) (by decide +kernel) rfl (Nat.le_of_ble_eq_true rfl) ?_
  intro p e s m below meth c A C hA hK hP hD ls hl
  obtain ⟨hx, hb, hr, hml, hown, hts, hlk⟩ := id C
  have hown : s.vm.findClass RX5 = some m.cls := hown
  have hS : va_S A s.heap s.heap [] := va_S.rf
  have hl : lv_has ls 4 [(0, .ref h0), (1, .ref (a0 6)), (2, .int p2), (3, .int p3)] := hl
  unfold f_X5_tellS at hf
  refine lv_aload_n hx hb dX5_tell_0 rfl (lv_at hl 0 rfl) ?_
  refine lv_iload_n hx hb dX5_tell_1 rfl (lv_at hl 2 rfl) ?_
  obtain ⟨q_2, hc_2, hf⟩ := op_bind hf
  refine g_callVi (As := [.int p2]) (rest := []) (w2 := w5 cy h0 a0 s0) ⟨hx, hb, hml, hown, hts⟩ (c_X5_hasTongue l D cy h0 a0 s0 _ fu p2 _ hc_2) (cwV 1 hts (gi_V ml_RX5_58 im_X5_hasTongue se_X5_hasTongue in_RX5 cd_X5_hasTongue) rfl rfl rfl hdX5_hasTongue ⟨Nat.le_of_ble_eq_true rfl, Nat.le_of_ble_eq_true rfl⟩) (va_recv hK hP (ci := 5) (q0 := 0) rfl rfl) rfl hl.1 rfl (Nat.le_of_ble_eq_true rfl) dX5_tell_2 hK hP hD hS hA [0, 1, 2, 3, 4, 5, 6, 7, 8] [] [0, 1, 2, 3, 4, 5, 6, 7, 8] rfl rfl rfl rfl (by decide) rfl rfl (fun H locs hP hD hS => ?_)
  refine lv_if_eq (tgt := 18) hx hb dX5_tell_5 (by decide) (fun c_5 => ?_) (fun c_5 => ?_)
  · have hf := op_pos c_5 hf
    rw [← Option.some.inj hf]
    exact g_vret hx hb hr hlk hK hP hD hS dX5_tell_18
  · have hf := op_neg c_5 hf
    refine lv_iload_n hx hb dX5_tell_8 rfl (lv_at hl 2 rfl) ?_
    refine lv_aload_n hx hb dX5_tell_9 rfl (lv_at hl 1 rfl) ?_
    refine va_alen (v := 4) hx hb hK hP 2 0 rfl rfl rfl dX5_tell_10 ?_
    refine lv_icmp_ge (tgt := 18) hx hb dX5_tell_11 (by decide) (fun c_11 => ?_) (fun c_11 => ?_)
    · have hf := op_pos c_11 hf
      rw [← Option.some.inj hf]
      exact g_vret hx hb hr hlk hK hP hD hS dX5_tell_18
    · have hf := op_neg c_11 hf
      refine lv_aload_n hx hb dX5_tell_14 rfl (lv_at hl 1 rfl) ?_
      refine lv_iload_n hx hb dX5_tell_15 rfl (lv_at hl 2 rfl) ?_
      refine lv_iload_n hx hb dX5_tell_16 rfl (lv_at hl 3 rfl) ?_
      obtain ⟨hg_17, hf⟩ := op_if hf
      refine va_iast (f := s0.2 6) (x := p3) hx hb hK hP hD hS 2 0 rfl rfl (inb_in hg_17) dX5_tell_17 (fun H locs hP hD hS => ?_)
      have hP : va_P D vwCl (w5 cy h0 a0 (sA s0 6 p2.toNatClampNeg p3)) H := pP5_6 hP
      have hD : va_D A (w5 cy h0 a0 (sA s0 6 p2.toNatClampNeg p3)) := pD5_6 hD
      rw [← Option.some.inj hf]
      exact g_vret hx hb hr hlk hK hP hD hS dX5_tell_18
def f_X5_slotOf (fu : Nat)   (p0 : Int32) (p1 : Int32) : Option (Int32) := if p0 < 0 then (some (-1)) else (if 40 ≤ p0 then (some (-1)) else (if p1 < 0 then (some (-1)) else (if p1 < 4 then (some ((p0 * 4) + p1)) else (some (-1)))))
theorem hdX5_slotOf : yX5_slotOf.cls ≠ "java/lang/invoke/MethodHandle" ∧ yX5_slotOf.cls ≠ "java/lang/invoke/VarHandle" ∧ (parseMethodDescriptor yX5_slotOf.desc).map (fun d => d.parameters.length) = some 2 := by decide +kernel
set_option maxHeartbeats 4000000 in
set_option maxRecDepth 100000 in
theorem c_X5_slotOf (l : Launch) (D : va_G) (cy : Nat → ClassId)  (sz fu : Nat) (p0 : Int32) (p1 : Int32) (out : Int32) (hf : f_X5_slotOf fu p0 p1 = some out) :
    Met l yX5_slotOf (WS yX5_slotOf cX5_slotOf 2 (some .int)) ({ frames := 0, cells := 0, slots := 0, locals := 0 } : Room) (va_Pc [.int p0, .int p1] (gP D cy sz ([] : va_W))) ((fun A : Nat → Prop => gQi D cy A out ([] : va_W)) (va_A ([] : va_W) sz)) 0 0 (va_A ([] : va_W) sz) := by
  refine g_met (cc := cX5_slotOf) (maxL := 2) (ret := (some .int)) (fun A : Nat → Prop => gQi D cy A out ([] : va_W)) (by decide +kernel) rfl (Nat.le_of_ble_eq_true rfl) ?_
  intro p e s m below meth c A C hA hK hP hD ls hl
  obtain ⟨hx, hb, hr, hml, hown, hts, hlk⟩ := id C
  have hown : s.vm.findClass RX5 = some m.cls := hown
  have hS : va_S A s.heap s.heap [] := va_S.rf
  have hl : lv_has ls 2 [(0, .int p0), (1, .int p1)] := hl
  unfold f_X5_slotOf at hf
  refine lv_iload_n hx hb dX5_slotOf_0 rfl (lv_at hl 0 rfl) ?_
  refine lv_if_lt (tgt := 19) hx hb dX5_slotOf_1 (by decide) (fun c_1 => ?_) (fun c_1 => ?_)
  · have hf := op_pos c_1 hf
    refine lv_iconst (v := (-1)) hx hb dX5_slotOf_19 (by decide) ?_
    rw [← Option.some.inj hf]
    exact g_iret hx hb hr hlk hK hP hD hS dX5_slotOf_20
  · have hf := op_neg c_1 hf
    refine lv_iload_n hx hb dX5_slotOf_4 rfl (lv_at hl 0 rfl) ?_
    refine lv_bipush (v := 40) hx hb dX5_slotOf_5 (by decide) ?_
    refine lv_icmp_ge (tgt := 19) hx hb dX5_slotOf_7 (by decide) (fun c_7 => ?_) (fun c_7 => ?_)
    · have hf := op_pos c_7 hf
      refine lv_iconst (v := (-1)) hx hb dX5_slotOf_19 (by decide) ?_
      rw [← Option.some.inj hf]
      exact g_iret hx hb hr hlk hK hP hD hS dX5_slotOf_20
    · have hf := op_neg c_7 hf
      refine lv_iload_n hx hb dX5_slotOf_10 rfl (lv_at hl 1 rfl) ?_
      refine lv_if_lt (tgt := 19) hx hb dX5_slotOf_11 (by decide) (fun c_11 => ?_) (fun c_11 => ?_)
      · have hf := op_pos c_11 hf
        refine lv_iconst (v := (-1)) hx hb dX5_slotOf_19 (by decide) ?_
        rw [← Option.some.inj hf]
        exact g_iret hx hb hr hlk hK hP hD hS dX5_slotOf_20
      · have hf := op_neg c_11 hf
        refine lv_iload_n hx hb dX5_slotOf_14 rfl (lv_at hl 1 rfl) ?_
        refine lv_iconst (v := 4) hx hb dX5_slotOf_15 (by decide) ?_
        refine lv_icmp_lt (tgt := 21) hx hb dX5_slotOf_16 (by decide) (fun c_16 => ?_) (fun c_16 => ?_)
        · have hf := op_pos c_16 hf
          refine lv_iload_n hx hb dX5_slotOf_21 rfl (lv_at hl 0 rfl) ?_
          refine lv_iconst (v := 4) hx hb dX5_slotOf_22 (by decide) ?_
          refine lv_imul hx hb dX5_slotOf_23 ?_
          refine lv_iload_n hx hb dX5_slotOf_24 rfl (lv_at hl 1 rfl) ?_
          refine lv_iadd hx hb dX5_slotOf_25 ?_
          rw [← Option.some.inj hf]
          exact g_iret hx hb hr hlk hK hP hD hS dX5_slotOf_26
        · have hf := op_neg c_16 hf
          refine lv_iconst (v := (-1)) hx hb dX5_slotOf_19 (by decide) ?_
          rw [← Option.some.inj hf]
          exact g_iret hx hb hr hlk hK hP hD hS dX5_slotOf_20
def f_X5_tellsBeats (fu : Nat) (s0 : St)   : Option (Int32) := if (s0.1 4) ≤ 0 then (some 0) else (some 1)
theorem hdX5_tellsBeats : yX5_tellsBeats.cls = RX5 ∧ yX5_tellsBeats.cls ≠ "java/lang/invoke/MethodHandle" ∧ yX5_tellsBeats.cls ≠ "java/lang/invoke/VarHandle" ∧ (parseMethodDescriptor yX5_tellsBeats.desc).map (fun d => d.parameters.length) = some 0 := by decide +kernel
set_option maxHeartbeats 4000000 in
set_option maxRecDepth 100000 in
theorem c_X5_tellsBeats (l : Launch) (D : va_G) (cy : Nat → ClassId) (h0 : Nat) (a0 : Nat → Nat) (s0 : St) (sz fu : Nat)  (out : Int32) (hf : f_X5_tellsBeats fu s0 = some out) :
    Met l yX5_tellsBeats (WS yX5_tellsBeats cX5_tellsBeats 1 (some .boolean)) ({ frames := 0, cells := 0, slots := 0, locals := 0 } : Room) (va_Pc [.ref h0] (gP D cy sz (w5 cy h0 a0 s0))) ((fun A : Nat → Prop => gQi D cy A out (w5 cy h0 a0 s0)) (va_A (w5 cy h0 a0 s0) sz)) 0 0 (va_A (w5 cy h0 a0 s0) sz) := by
  refine g_met (cc := cX5_tellsBeats) (maxL := 1) (ret := (some .boolean)) (fun A : Nat → Prop => gQi D cy A out (w5 cy h0 a0 s0)) (by decide +kernel) rfl (Nat.le_of_ble_eq_true rfl) ?_
  intro p e s m below meth c A C hA hK hP hD ls hl
  obtain ⟨hx, hb, hr, hml, hown, hts, hlk⟩ := id C
  have hown : s.vm.findClass RX5 = some m.cls := hown
  have hS : va_S A s.heap s.heap [] := va_S.rf
  have hl : lv_has ls 1 [(0, .ref h0)] := hl
  have hk_49 := hts _ (List.mem_cons_of_mem _ fl_RX5_49)
  unfold f_X5_tellsBeats at hf
  refine lv_aload_n hx hb dX5_tellsBeats_0 rfl (lv_at hl 0 rfl) ?_
  refine va_get (ci := 5) (v := .int (s0.1 4)) (C := RX5) (T := TX5) (N := 13) hx hb hts (fun w h => List.mem_cons_of_mem _ (inX5 w h)) hown hK hP 0 rfl rfl 4 (by decide) hk_49 (fun _ h9 => h9) rfl dX5_tellsBeats_1 ?_
  refine lv_if_le (tgt := 11) hx hb dX5_tellsBeats_4 (by decide) (fun c_4 => ?_) (fun c_4 => ?_)
  · have hf := op_pos c_4 hf
    refine lv_iconst (v := 0) hx hb dX5_tellsBeats_11 (by decide) ?_
    rw [← Option.some.inj hf]
    exact g_zret hx hb hr hlk (show isB 0 = true by decide) hK hP hD hS dX5_tellsBeats_12
  · have hf := op_neg c_4 hf
    refine lv_iconst (v := 1) hx hb dX5_tellsBeats_7 (by decide) ?_
    refine lv_goto (tgt := 12) hx hb dX5_tellsBeats_8 (by decide) ?_
    rw [← Option.some.inj hf]
    exact g_zret hx hb hr hlk (show isB 1 = true by decide) hK hP hD hS dX5_tellsBeats_12
def f_X5_tellBeats (fu : Nat)  (s0 : St) (p1 : Int32) : Option (St) := some (sF s0 4 p1)
theorem hdX5_tellBeats : yX5_tellBeats.cls = RX5 ∧ yX5_tellBeats.cls ≠ "java/lang/invoke/MethodHandle" ∧ yX5_tellBeats.cls ≠ "java/lang/invoke/VarHandle" ∧ (parseMethodDescriptor yX5_tellBeats.desc).map (fun d => d.parameters.length) = some 1 := by decide +kernel
set_option maxHeartbeats 4000000 in
set_option maxRecDepth 100000 in
theorem c_X5_tellBeats (l : Launch) (D : va_G) (cy : Nat → ClassId) (h0 : Nat) (a0 : Nat → Nat) (s0 : St) (sz fu : Nat) (p1 : Int32) (out : St) (hf : f_X5_tellBeats fu s0 p1 = some out) :
    Met l yX5_tellBeats (WS yX5_tellBeats cX5_tellBeats 2 none) ({ frames := 0, cells := 0, slots := 0, locals := 0 } : Room) (va_Pc [.ref h0, .int p1] (gP D cy sz (w5 cy h0 a0 s0))) ((fun A : Nat → Prop => gQv D cy A (w5 cy h0 a0 out)) (va_A (w5 cy h0 a0 s0) sz)) 0 0 (va_A (w5 cy h0 a0 s0) sz) := by
  refine g_met (cc := cX5_tellBeats) (maxL := 2) (ret := none) (fun A : Nat → Prop => gQv D cy A (w5 cy h0 a0 out)) (by decide +kernel) rfl (Nat.le_of_ble_eq_true rfl) ?_
  intro p e s m below meth c A C hA hK hP hD ls hl
  obtain ⟨hx, hb, hr, hml, hown, hts, hlk⟩ := id C
  have hown : s.vm.findClass RX5 = some m.cls := hown
  have hS : va_S A s.heap s.heap [] := va_S.rf
  have hl : lv_has ls 2 [(0, .ref h0), (1, .int p1)] := hl
  have hk_49 := hts _ (List.mem_cons_of_mem _ fl_RX5_49)
  unfold f_X5_tellBeats at hf
  refine lv_aload_n hx hb dX5_tellBeats_0 rfl (lv_at hl 0 rfl) ?_
  refine lv_iload_n hx hb dX5_tellBeats_1 rfl (lv_at hl 1 rfl) ?_
  refine va_put (ci := 5) (v := .int p1) (ty := tyX5 4) (C := RX5) (T := TX5) (N := 13) hx hb hts (fun w h => List.mem_cons_of_mem _ (inX5 w h)) tyX5 tyX5_ok nmX5 hown hK hP hD hS 0 rfl rfl 4 (by decide) hk_49 (fun _ h9 => h9) rfl (tyX5_ok 4 (by decide)) rfl rfl (Nat.le_of_ble_eq_true rfl) dX5_tellBeats_2 (fun H locs hP hD hS => ?_)
  have hP : va_P D vwCl (w5 cy h0 a0 (sF s0 4 p1)) H := pP5_4 hP
  have hD : va_D A (w5 cy h0 a0 (sF s0 4 p1)) := pD5_4 hD
  rw [← Option.some.inj hf]
  exact g_vret hx hb hr hlk hK hP hD hS dX5_tellBeats_5
def f_X5_widthOf (fu : Nat) (s0 : St)  (p1 : Int32) : Option (Int32) := (f_X5_tellsW fu s0 p1).bind (fun q_6 => if q_6 = 0 then (some 20) else (if inb p1 4 = true then (some (s0.2 5 p1.toNatClampNeg)) else none))
theorem hdX5_widthOf : yX5_widthOf.cls = RX5 ∧ yX5_widthOf.cls ≠ "java/lang/invoke/MethodHandle" ∧ yX5_widthOf.cls ≠ "java/lang/invoke/VarHandle" ∧ (parseMethodDescriptor yX5_widthOf.desc).map (fun d => d.parameters.length) = some 1 := by decide +kernel
set_option maxHeartbeats 4000000 in
set_option maxRecDepth 100000 in
theorem c_X5_widthOf (l : Launch) (D : va_G) (cy : Nat → ClassId) (h0 : Nat) (a0 : Nat → Nat) (s0 : St) (sz fu : Nat) (p1 : Int32) (out : Int32) (hf : f_X5_widthOf fu s0 p1 = some out) :
    Met l yX5_widthOf (WS yX5_widthOf cX5_widthOf 2 (some .int)) ({ frames := 2, cells := 0, slots := 0, locals := 43 } : Room) (va_Pc [.ref h0, .int p1] (gP D cy sz (w5 cy h0 a0 s0))) ((fun A : Nat → Prop => gQi D cy A out (w5 cy h0 a0 s0)) (va_A (w5 cy h0 a0 s0) sz)) 0 0 (va_A (w5 cy h0 a0 s0) sz) := by
  refine g_met (cc := cX5_widthOf) (maxL := 2) (ret := (some .int)) (fun A : Nat → Prop => gQi D cy A out (w5 cy h0 a0 s0)) (by decide +kernel) rfl (Nat.le_of_ble_eq_true rfl) ?_
  intro p e s m below meth c A C hA hK hP hD ls hl
  obtain ⟨hx, hb, hr, hml, hown, hts, hlk⟩ := id C
  have hown : s.vm.findClass RX5 = some m.cls := hown
  have hS : va_S A s.heap s.heap [] := va_S.rf
  have hl : lv_has ls 2 [(0, .ref h0), (1, .int p1)] := hl
  have hk_15 := hts _ (List.mem_cons_of_mem _ fl_RX5_15)
  unfold f_X5_widthOf at hf
  refine lv_aload_n hx hb dX5_widthOf_0 rfl (lv_at hl 0 rfl) ?_
  refine lv_aload_n hx hb dX5_widthOf_1 rfl (lv_at hl 0 rfl) ?_
  refine va_get (ci := 5) (v := .ref (a0 5)) (C := RX5) (T := TX5) (N := 13) hx hb hts (fun w h => List.mem_cons_of_mem _ (inX5 w h)) hown hK hP 0 rfl rfl 5 (by decide) hk_15 (fun _ h9 => h9) rfl dX5_widthOf_2 ?_
  refine lv_iload_n hx hb dX5_widthOf_5 rfl (lv_at hl 1 rfl) ?_
  obtain ⟨q_6, hc_6, hf⟩ := op_bind hf
  refine g_callVi (As := [.ref (a0 5), .int p1]) (rest := []) (w2 := w5 cy h0 a0 s0) ⟨hx, hb, hml, hown, hts⟩ (c_X5_tellsW l D cy h0 a0 s0 _ fu p1 _ hc_6) (cwV 2 hts (gi_V ml_RX5_62 im_X5_tells se_X5_tells in_RX5 cd_X5_tells) rfl rfl rfl hdX5_tells ⟨Nat.le_of_ble_eq_true rfl, Nat.le_of_ble_eq_true rfl⟩) (va_recv hK hP (ci := 5) (q0 := 0) rfl rfl) rfl hl.1 rfl (Nat.le_of_ble_eq_true rfl) dX5_widthOf_6 hK hP hD hS hA [0, 1, 2, 3, 4, 5, 6, 7, 8] [] [0, 1, 2, 3, 4, 5, 6, 7, 8] rfl rfl rfl rfl (by decide) rfl rfl (fun H locs hP hD hS => ?_)
  refine lv_if_eq (tgt := 21) hx hb dX5_widthOf_9 (by decide) (fun c_9 => ?_) (fun c_9 => ?_)
  · have hf := op_pos c_9 hf
    refine lv_bipush (v := 20) hx hb dX5_widthOf_21 (by decide) ?_
    rw [← Option.some.inj hf]
    exact g_iret hx hb hr hlk hK hP hD hS dX5_widthOf_23
  · have hf := op_neg c_9 hf
    refine lv_aload_n hx hb dX5_widthOf_12 rfl (lv_at hl 0 rfl) ?_
    refine va_get (ci := 5) (v := .ref (a0 5)) (C := RX5) (T := TX5) (N := 13) hx hb hts (fun w h => List.mem_cons_of_mem _ (inX5 w h)) hown hK hP 0 rfl rfl 5 (by decide) hk_15 (fun _ h9 => h9) rfl dX5_widthOf_13 ?_
    refine lv_iload_n hx hb dX5_widthOf_16 rfl (lv_at hl 1 rfl) ?_
    obtain ⟨hg_17, hf⟩ := op_if hf
    refine va_iald (f := s0.2 5) hx hb hK hP 1 0 rfl rfl (inb_in hg_17) dX5_widthOf_17 ?_
    refine lv_goto (tgt := 23) hx hb dX5_widthOf_18 (by decide) ?_
    rw [← Option.some.inj hf]
    exact g_iret hx hb hr hlk hK hP hD hS dX5_widthOf_23
def f_X5_speedOf (fu : Nat) (s0 : St)  (p1 : Int32) : Option (Int32) := (f_X5_tellsS fu s0 p1).bind (fun q_6 => if q_6 = 0 then (some 4) else (if inb p1 4 = true then (some (s0.2 6 p1.toNatClampNeg)) else none))
theorem hdX5_speedOf : yX5_speedOf.cls = RX5 ∧ yX5_speedOf.cls ≠ "java/lang/invoke/MethodHandle" ∧ yX5_speedOf.cls ≠ "java/lang/invoke/VarHandle" ∧ (parseMethodDescriptor yX5_speedOf.desc).map (fun d => d.parameters.length) = some 1 := by decide +kernel
set_option maxHeartbeats 4000000 in
set_option maxRecDepth 100000 in
theorem c_X5_speedOf (l : Launch) (D : va_G) (cy : Nat → ClassId) (h0 : Nat) (a0 : Nat → Nat) (s0 : St) (sz fu : Nat) (p1 : Int32) (out : Int32) (hf : f_X5_speedOf fu s0 p1 = some out) :
    Met l yX5_speedOf (WS yX5_speedOf cX5_speedOf 2 (some .int)) ({ frames := 2, cells := 0, slots := 0, locals := 43 } : Room) (va_Pc [.ref h0, .int p1] (gP D cy sz (w5 cy h0 a0 s0))) ((fun A : Nat → Prop => gQi D cy A out (w5 cy h0 a0 s0)) (va_A (w5 cy h0 a0 s0) sz)) 0 0 (va_A (w5 cy h0 a0 s0) sz) := by
  refine g_met (cc := cX5_speedOf) (maxL := 2) (ret := (some .int)) (fun A : Nat → Prop => gQi D cy A out (w5 cy h0 a0 s0)) (by decide +kernel) rfl (Nat.le_of_ble_eq_true rfl) ?_
  intro p e s m below meth c A C hA hK hP hD ls hl
  obtain ⟨hx, hb, hr, hml, hown, hts, hlk⟩ := id C
  have hown : s.vm.findClass RX5 = some m.cls := hown
  have hS : va_S A s.heap s.heap [] := va_S.rf
  have hl : lv_has ls 2 [(0, .ref h0), (1, .int p1)] := hl
  have hk_19 := hts _ (List.mem_cons_of_mem _ fl_RX5_19)
  unfold f_X5_speedOf at hf
  refine lv_aload_n hx hb dX5_speedOf_0 rfl (lv_at hl 0 rfl) ?_
  refine lv_aload_n hx hb dX5_speedOf_1 rfl (lv_at hl 0 rfl) ?_
  refine va_get (ci := 5) (v := .ref (a0 6)) (C := RX5) (T := TX5) (N := 13) hx hb hts (fun w h => List.mem_cons_of_mem _ (inX5 w h)) hown hK hP 0 rfl rfl 6 (by decide) hk_19 (fun _ h9 => h9) rfl dX5_speedOf_2 ?_
  refine lv_iload_n hx hb dX5_speedOf_5 rfl (lv_at hl 1 rfl) ?_
  obtain ⟨q_6, hc_6, hf⟩ := op_bind hf
  refine g_callVi (As := [.ref (a0 6), .int p1]) (rest := []) (w2 := w5 cy h0 a0 s0) ⟨hx, hb, hml, hown, hts⟩ (c_X5_tellsS l D cy h0 a0 s0 _ fu p1 _ hc_6) (cwV 2 hts (gi_V ml_RX5_62 im_X5_tells se_X5_tells in_RX5 cd_X5_tells) rfl rfl rfl hdX5_tells ⟨Nat.le_of_ble_eq_true rfl, Nat.le_of_ble_eq_true rfl⟩) (va_recv hK hP (ci := 5) (q0 := 0) rfl rfl) rfl hl.1 rfl (Nat.le_of_ble_eq_true rfl) dX5_speedOf_6 hK hP hD hS hA [0, 1, 2, 3, 4, 5, 6, 7, 8] [] [0, 1, 2, 3, 4, 5, 6, 7, 8] rfl rfl rfl rfl (by decide) rfl rfl (fun H locs hP hD hS => ?_)
  refine lv_if_eq (tgt := 21) hx hb dX5_speedOf_9 (by decide) (fun c_9 => ?_) (fun c_9 => ?_)
  · have hf := op_pos c_9 hf
    refine lv_iconst (v := 4) hx hb dX5_speedOf_21 (by decide) ?_
    rw [← Option.some.inj hf]
    exact g_iret hx hb hr hlk hK hP hD hS dX5_speedOf_22
  · have hf := op_neg c_9 hf
    refine lv_aload_n hx hb dX5_speedOf_12 rfl (lv_at hl 0 rfl) ?_
    refine va_get (ci := 5) (v := .ref (a0 6)) (C := RX5) (T := TX5) (N := 13) hx hb hts (fun w h => List.mem_cons_of_mem _ (inX5 w h)) hown hK hP 0 rfl rfl 6 (by decide) hk_19 (fun _ h9 => h9) rfl dX5_speedOf_13 ?_
    refine lv_iload_n hx hb dX5_speedOf_16 rfl (lv_at hl 1 rfl) ?_
    obtain ⟨hg_17, hf⟩ := op_if hf
    refine va_iald (f := s0.2 6) hx hb hK hP 2 0 rfl rfl (inb_in hg_17) dX5_speedOf_17 ?_
    refine lv_goto (tgt := 22) hx hb dX5_speedOf_18 (by decide) ?_
    rw [← Option.some.inj hf]
    exact g_iret hx hb hr hlk hK hP hD hS dX5_speedOf_22
def f_X5_beatsOfBar (fu : Nat) (s0 : St)   : Option (Int32) := (f_X5_tellsBeats fu s0).bind (fun q_1 => if q_1 = 0 then (some 4) else (some (s0.1 4)))
theorem hdX5_beatsOfBar : yX5_beatsOfBar.cls = RX5 ∧ yX5_beatsOfBar.cls ≠ "java/lang/invoke/MethodHandle" ∧ yX5_beatsOfBar.cls ≠ "java/lang/invoke/VarHandle" ∧ (parseMethodDescriptor yX5_beatsOfBar.desc).map (fun d => d.parameters.length) = some 0 := by decide +kernel
set_option maxHeartbeats 4000000 in
set_option maxRecDepth 100000 in
theorem c_X5_beatsOfBar (l : Launch) (D : va_G) (cy : Nat → ClassId) (h0 : Nat) (a0 : Nat → Nat) (s0 : St) (sz fu : Nat)  (out : Int32) (hf : f_X5_beatsOfBar fu s0 = some out) :
    Met l yX5_beatsOfBar (WS yX5_beatsOfBar cX5_beatsOfBar 1 (some .int)) ({ frames := 1, cells := 0, slots := 0, locals := 20 } : Room) (va_Pc [.ref h0] (gP D cy sz (w5 cy h0 a0 s0))) ((fun A : Nat → Prop => gQi D cy A out (w5 cy h0 a0 s0)) (va_A (w5 cy h0 a0 s0) sz)) 0 0 (va_A (w5 cy h0 a0 s0) sz) := by
  refine g_met (cc := cX5_beatsOfBar) (maxL := 1) (ret := (some .int)) (fun A : Nat → Prop => gQi D cy A out (w5 cy h0 a0 s0)) (by decide +kernel) rfl (Nat.le_of_ble_eq_true rfl) ?_
  intro p e s m below meth c A C hA hK hP hD ls hl
  obtain ⟨hx, hb, hr, hml, hown, hts, hlk⟩ := id C
  have hown : s.vm.findClass RX5 = some m.cls := hown
  have hS : va_S A s.heap s.heap [] := va_S.rf
  have hl : lv_has ls 1 [(0, .ref h0)] := hl
  have hk_49 := hts _ (List.mem_cons_of_mem _ fl_RX5_49)
  unfold f_X5_beatsOfBar at hf
  refine lv_aload_n hx hb dX5_beatsOfBar_0 rfl (lv_at hl 0 rfl) ?_
  obtain ⟨q_1, hc_1, hf⟩ := op_bind hf
  refine g_callVi (As := []) (rest := []) (w2 := w5 cy h0 a0 s0) ⟨hx, hb, hml, hown, hts⟩ (c_X5_tellsBeats l D cy h0 a0 s0 _ fu _ hc_1) (cwV 0 hts (gi_V ml_RX5_66 im_X5_tellsBeats se_X5_tellsBeats in_RX5 cd_X5_tellsBeats) rfl rfl rfl hdX5_tellsBeats ⟨Nat.le_of_ble_eq_true rfl, Nat.le_of_ble_eq_true rfl⟩) (va_recv hK hP (ci := 5) (q0 := 0) rfl rfl) rfl hl.1 rfl (Nat.le_of_ble_eq_true rfl) dX5_beatsOfBar_1 hK hP hD hS hA [0, 1, 2, 3, 4, 5, 6, 7, 8] [] [0, 1, 2, 3, 4, 5, 6, 7, 8] rfl rfl rfl rfl (by decide) rfl rfl (fun H locs hP hD hS => ?_)
  refine lv_if_eq (tgt := 14) hx hb dX5_beatsOfBar_4 (by decide) (fun c_4 => ?_) (fun c_4 => ?_)
  · have hf := op_pos c_4 hf
    refine lv_iconst (v := 4) hx hb dX5_beatsOfBar_14 (by decide) ?_
    rw [← Option.some.inj hf]
    exact g_iret hx hb hr hlk hK hP hD hS dX5_beatsOfBar_15
  · have hf := op_neg c_4 hf
    refine lv_aload_n hx hb dX5_beatsOfBar_7 rfl (lv_at hl 0 rfl) ?_
    refine va_get (ci := 5) (v := .int (s0.1 4)) (C := RX5) (T := TX5) (N := 13) hx hb hts (fun w h => List.mem_cons_of_mem _ (inX5 w h)) hown hK hP 0 rfl rfl 4 (by decide) hk_49 (fun _ h9 => h9) rfl dX5_beatsOfBar_8 ?_
    refine lv_goto (tgt := 15) hx hb dX5_beatsOfBar_11 (by decide) ?_
    rw [← Option.some.inj hf]
    exact g_iret hx hb hr hlk hK hP hD hS dX5_beatsOfBar_15
def f_X5_addMark (fu : Nat)  (s0 : St) (p1 : Int32) : Option (St) := (f_X5_isFullOfMarks fu s0).bind (fun q_1 => if q_1 = 0 then (if inb (s0.1 3) 40 = true then (some (sF (sA s0 9 ((s0.1 3).toNatClampNeg) p1) 3 ((s0.1 3) + 1))) else none) else (some s0))
theorem hdX5_addMark : yX5_addMark.cls = RX5 ∧ yX5_addMark.cls ≠ "java/lang/invoke/MethodHandle" ∧ yX5_addMark.cls ≠ "java/lang/invoke/VarHandle" ∧ (parseMethodDescriptor yX5_addMark.desc).map (fun d => d.parameters.length) = some 1 := by decide +kernel
set_option maxHeartbeats 4000000 in
set_option maxRecDepth 100000 in
theorem c_X5_addMark (l : Launch) (D : va_G) (cy : Nat → ClassId) (h0 : Nat) (a0 : Nat → Nat) (s0 : St) (sz fu : Nat) (p1 : Int32) (out : St) (hf : f_X5_addMark fu s0 p1 = some out) :
    Met l yX5_addMark (WS yX5_addMark cX5_addMark 2 none) ({ frames := 1, cells := 0, slots := 0, locals := 20 } : Room) (va_Pc [.ref h0, .int p1] (gP D cy sz (w5 cy h0 a0 s0))) ((fun A : Nat → Prop => gQv D cy A (w5 cy h0 a0 out)) (va_A (w5 cy h0 a0 s0) sz)) 0 0 (va_A (w5 cy h0 a0 s0) sz) := by
  refine g_met (cc := cX5_addMark) (maxL := 2) (ret := none) (fun A : Nat → Prop => gQv D cy A (w5 cy h0 a0 out)) (by decide +kernel) rfl (Nat.le_of_ble_eq_true rfl) ?_
  intro p e s m below meth c A C hA hK hP hD ls hl
  obtain ⟨hx, hb, hr, hml, hown, hts, hlk⟩ := id C
  have hown : s.vm.findClass RX5 = some m.cls := hown
  have hS : va_S A s.heap s.heap [] := va_S.rf
  have hl : lv_has ls 2 [(0, .ref h0), (1, .int p1)] := hl
  have hk_28 := hts _ (List.mem_cons_of_mem _ fl_RX5_28)
  have hk_46 := hts _ (List.mem_cons_of_mem _ fl_RX5_46)
  unfold f_X5_addMark at hf
  refine lv_aload_n hx hb dX5_addMark_0 rfl (lv_at hl 0 rfl) ?_
  obtain ⟨q_1, hc_1, hf⟩ := op_bind hf
  refine g_callVi (As := []) (rest := []) (w2 := w5 cy h0 a0 s0) ⟨hx, hb, hml, hown, hts⟩ (c_X5_isFullOfMarks l D cy h0 a0 s0 _ fu _ hc_1) (cwV 0 hts (gi_V ml_RX5_70 im_X5_isFullOfMarks se_X5_isFullOfMarks in_RX5 cd_X5_isFullOfMarks) rfl rfl rfl hdX5_isFullOfMarks ⟨Nat.le_of_ble_eq_true rfl, Nat.le_of_ble_eq_true rfl⟩) (va_recv hK hP (ci := 5) (q0 := 0) rfl rfl) rfl hl.1 rfl (Nat.le_of_ble_eq_true rfl) dX5_addMark_1 hK hP hD hS hA [0, 1, 2, 3, 4, 5, 6, 7, 8] [] [0, 1, 2, 3, 4, 5, 6, 7, 8] rfl rfl rfl rfl (by decide) rfl rfl (fun H locs hP hD hS => ?_)
  refine lv_if_ne (tgt := 27) hx hb dX5_addMark_4 (by decide) (fun c_4 => ?_) (fun c_4 => ?_)
  · have hf := op_neg c_4 hf
    rw [← Option.some.inj hf]
    exact g_vret hx hb hr hlk hK hP hD hS dX5_addMark_27
  · have hf := op_pos c_4 hf
    refine lv_aload_n hx hb dX5_addMark_7 rfl (lv_at hl 0 rfl) ?_
    refine va_get (ci := 5) (v := .ref (a0 9)) (C := RX5) (T := TX5) (N := 13) hx hb hts (fun w h => List.mem_cons_of_mem _ (inX5 w h)) hown hK hP 0 rfl rfl 9 (by decide) hk_28 (fun _ h9 => h9) rfl dX5_addMark_8 ?_
    refine lv_aload_n hx hb dX5_addMark_11 rfl (lv_at hl 0 rfl) ?_
    refine va_get (ci := 5) (v := .int (s0.1 3)) (C := RX5) (T := TX5) (N := 13) hx hb hts (fun w h => List.mem_cons_of_mem _ (inX5 w h)) hown hK hP 0 rfl rfl 3 (by decide) hk_46 (fun _ h9 => h9) rfl dX5_addMark_12 ?_
    refine lv_iload_n hx hb dX5_addMark_15 rfl (lv_at hl 1 rfl) ?_
    obtain ⟨hg_16, hf⟩ := op_if hf
    refine va_iast (f := s0.2 9) (x := p1) hx hb hK hP hD hS 5 0 rfl rfl (inb_in hg_16) dX5_addMark_16 (fun H locs hP hD hS => ?_)
    have hP : va_P D vwCl (w5 cy h0 a0 (sA s0 9 ((s0.1 3).toNatClampNeg) p1)) H := pP5_9 hP
    have hD : va_D A (w5 cy h0 a0 (sA s0 9 ((s0.1 3).toNatClampNeg) p1)) := pD5_9 hD
    refine lv_aload_n hx hb dX5_addMark_17 rfl (lv_at hl 0 rfl) ?_
    refine lv_dup hx hb dX5_addMark_18 rfl ?_
    refine va_get (ci := 5) (v := .int (s0.1 3)) (C := RX5) (T := TX5) (N := 13) hx hb hts (fun w h => List.mem_cons_of_mem _ (inX5 w h)) hown hK hP 0 rfl rfl 3 (by decide) hk_46 (fun _ h9 => h9) rfl dX5_addMark_19 ?_
    refine lv_iconst (v := 1) hx hb dX5_addMark_22 (by decide) ?_
    refine lv_iadd hx hb dX5_addMark_23 ?_
    refine va_put (ci := 5) (v := .int ((s0.1 3) + 1)) (ty := tyX5 3) (C := RX5) (T := TX5) (N := 13) hx hb hts (fun w h => List.mem_cons_of_mem _ (inX5 w h)) tyX5 tyX5_ok nmX5 hown hK hP hD hS 0 rfl rfl 3 (by decide) hk_46 (fun _ h9 => h9) rfl (tyX5_ok 3 (by decide)) rfl rfl (Nat.le_of_ble_eq_true rfl) dX5_addMark_24 (fun H locs hP hD hS => ?_)
    have hP : va_P D vwCl (w5 cy h0 a0 (sF (sA s0 9 ((s0.1 3).toNatClampNeg) p1) 3 ((s0.1 3) + 1))) H := pP5_3 hP
    have hD : va_D A (w5 cy h0 a0 (sF (sA s0 9 ((s0.1 3).toNatClampNeg) p1) 3 ((s0.1 3) + 1))) := pD5_3 hD
    rw [← Option.some.inj hf]
    exact g_vret hx hb hr hlk hK hP hD hS dX5_addMark_27
def f_X5_setString (fu : Nat)  (s0 : St) (p1 : Int32) (p2 : Int32) (p3 : Int32) : Option (St) := (f_X5_slotOf fu ((s0.1 1) - 1) p1).bind (fun q_7 => if q_7 = (-1) then (some s0) else (if inb q_7 160 = true then (if inb q_7 160 = true then (some (sA (sA s0 11 q_7.toNatClampNeg p2) 12 q_7.toNatClampNeg p3)) else none) else none))
theorem hdX5_setString : yX5_setString.cls = RX5 ∧ yX5_setString.cls ≠ "java/lang/invoke/MethodHandle" ∧ yX5_setString.cls ≠ "java/lang/invoke/VarHandle" ∧ (parseMethodDescriptor yX5_setString.desc).map (fun d => d.parameters.length) = some 3 := by decide +kernel
set_option maxHeartbeats 4000000 in
set_option maxRecDepth 100000 in
theorem c_X5_setString (l : Launch) (D : va_G) (cy : Nat → ClassId) (h0 : Nat) (a0 : Nat → Nat) (s0 : St) (sz fu : Nat) (p1 : Int32) (p2 : Int32) (p3 : Int32) (out : St) (hf : f_X5_setString fu s0 p1 p2 p3 = some out) :
    Met l yX5_setString (WS yX5_setString cX5_setString 5 none) ({ frames := 1, cells := 0, slots := 0, locals := 21 } : Room) (va_Pc [.ref h0, .int p1, .int p2, .int p3] (gP D cy sz (w5 cy h0 a0 s0))) ((fun A : Nat → Prop => gQv D cy A (w5 cy h0 a0 out)) (va_A (w5 cy h0 a0 s0) sz)) 0 0 (va_A (w5 cy h0 a0 s0) sz) := by
  refine g_met (cc := cX5_setString) (maxL := 5) (ret := none) (fun A : Nat → Prop => gQv D cy A (w5 cy h0 a0 out)) (by decide +kernel) rfl (Nat.le_of_ble_eq_true rfl) ?_
  intro p e s m below meth c A C hA hK hP hD ls hl
  obtain ⟨hx, hb, hr, hml, hown, hts, hlk⟩ := id C
  have hown : s.vm.findClass RX5 = some m.cls := hown
  have hS : va_S A s.heap s.heap [] := va_S.rf
  have hl : lv_has ls 5 [(0, .ref h0), (1, .int p1), (2, .int p2), (3, .int p3)] := hl
  have hk_40 := hts _ (List.mem_cons_of_mem _ fl_RX5_40)
  have hk_34 := hts _ (List.mem_cons_of_mem _ fl_RX5_34)
  have hk_37 := hts _ (List.mem_cons_of_mem _ fl_RX5_37)
  unfold f_X5_setString at hf
  refine lv_aload_n hx hb dX5_setString_0 rfl (lv_at hl 0 rfl) ?_
  refine va_get (ci := 5) (v := .int (s0.1 1)) (C := RX5) (T := TX5) (N := 13) hx hb hts (fun w h => List.mem_cons_of_mem _ (inX5 w h)) hown hK hP 0 rfl rfl 1 (by decide) hk_40 (fun _ h9 => h9) rfl dX5_setString_1 ?_
  refine lv_iconst (v := 1) hx hb dX5_setString_4 (by decide) ?_
  refine lv_isub hx hb dX5_setString_5 ?_
  refine lv_iload_n hx hb dX5_setString_6 rfl (lv_at hl 1 rfl) ?_
  obtain ⟨q_7, hc_7, hf⟩ := op_bind hf
  refine g_callSi (As := [.int ((s0.1 1) - 1), .int p1]) (rest := []) (w2 := w5 cy h0 a0 s0) ⟨hx, hb, hml, hown, hts⟩ (c_X5_slotOf l D cy _ fu ((s0.1 1) - 1) p1 _ hc_7) (va_cwS 2 hts (gi_S ml_RX5_77 sm_X5_slotOf in_RX5 cd_X5_slotOf) rfl rfl rfl hdX5_slotOf ⟨Nat.le_of_ble_eq_true rfl, Nat.le_of_ble_eq_true rfl⟩) rfl hl.1 rfl (Nat.le_of_ble_eq_true rfl) dX5_setString_7 hK hP hD hS hA [] [0, 1, 2, 3, 4, 5, 6, 7, 8] [0, 1, 2, 3, 4, 5, 6, 7, 8] rfl rfl rfl rfl (by decide) rfl rfl (fun H locs hP hD hS => ?_)
  refine lv_istore (lv' := [(4, .int q_7), (0, .ref h0), (1, .int p1), (2, .int p2), (3, .int p3)]) hx hb dX5_setString_10 hl (by decide) rfl (fun ls hl => ?_)
  refine lv_iload hx hb dX5_setString_12 (lv_at hl 0 rfl) ?_
  refine lv_iconst (v := (-1)) hx hb dX5_setString_14 (by decide) ?_
  refine lv_icmp_eq (tgt := 34) hx hb dX5_setString_15 (by decide) (fun c_15 => ?_) (fun c_15 => ?_)
  · have hf := op_pos c_15 hf
    rw [← Option.some.inj hf]
    exact g_vret hx hb hr hlk hK hP hD hS dX5_setString_34
  · have hf := op_neg c_15 hf
    refine lv_aload_n hx hb dX5_setString_18 rfl (lv_at hl 1 rfl) ?_
    refine va_get (ci := 5) (v := .ref (a0 11)) (C := RX5) (T := TX5) (N := 13) hx hb hts (fun w h => List.mem_cons_of_mem _ (inX5 w h)) hown hK hP 0 rfl rfl 11 (by decide) hk_34 (fun _ h9 => h9) rfl dX5_setString_19 ?_
    refine lv_iload hx hb dX5_setString_22 (lv_at hl 0 rfl) ?_
    refine lv_iload_n hx hb dX5_setString_24 rfl (lv_at hl 3 rfl) ?_
    obtain ⟨hg_25, hf⟩ := op_if hf
    refine va_iast (f := s0.2 11) (x := p2) hx hb hK hP hD hS 7 0 rfl rfl (inb_in hg_25) dX5_setString_25 (fun H locs hP hD hS => ?_)
    have hP : va_P D vwCl (w5 cy h0 a0 (sA s0 11 q_7.toNatClampNeg p2)) H := pP5_11 hP
    have hD : va_D A (w5 cy h0 a0 (sA s0 11 q_7.toNatClampNeg p2)) := pD5_11 hD
    refine lv_aload_n hx hb dX5_setString_26 rfl (lv_at hl 1 rfl) ?_
    refine va_get (ci := 5) (v := .ref (a0 12)) (C := RX5) (T := TX5) (N := 13) hx hb hts (fun w h => List.mem_cons_of_mem _ (inX5 w h)) hown hK hP 0 rfl rfl 12 (by decide) hk_37 (fun _ h9 => h9) rfl dX5_setString_27 ?_
    refine lv_iload hx hb dX5_setString_30 (lv_at hl 0 rfl) ?_
    refine lv_iload_n hx hb dX5_setString_32 rfl (lv_at hl 4 rfl) ?_
    obtain ⟨hg_33, hf⟩ := op_if hf
    refine va_iast (f := (sA s0 11 q_7.toNatClampNeg p2).2 12) (x := p3) hx hb hK hP hD hS 8 0 rfl rfl (inb_in hg_33) dX5_setString_33 (fun H locs hP hD hS => ?_)
    have hP : va_P D vwCl (w5 cy h0 a0 (sA (sA s0 11 q_7.toNatClampNeg p2) 12 q_7.toNatClampNeg p3)) H := pP5_12 hP
    have hD : va_D A (w5 cy h0 a0 (sA (sA s0 11 q_7.toNatClampNeg p2) 12 q_7.toNatClampNeg p3)) := pD5_12 hD
    rw [← Option.some.inj hf]
    exact g_vret hx hb hr hlk hK hP hD hS dX5_setString_34
def f_X5_addTitle_L48  (fu : Nat)  : Nat → St → Int32 → Int32 → Int32 → Option (St)
  | 0, _, _, _, _ => none
  | n_48 + 1, u0, x1, x2, x3 => if 4 ≤ x3 then (some u0) else ((f_X5_setString fu u0 x3 x1 x2).bind (fun q_57 => f_X5_addTitle_L48 fu n_48 q_57 x1 x2 (x3 + 1)))
set_option maxHeartbeats 4000000 in
set_option maxRecDepth 100000 in
theorem b_X5_addTitle_L48 {p : Program} {e : Env} {s : State} {m : MethodId} {args : Array Value} {below : List Frame} {meth : Method} {c : Code} {A : Nat → Prop} (l : Launch) (D : va_G) (cy : Nat → ClassId) (h0 : Nat) (a0 : Nat → Nat) (fu : Nat) (out : St) (C : gC p s m args meth c (WS yX5_addTitle cX5_addTitle 4 none) cX5_addTitle 4 none RX5) (hA : ∀ q : Nat, s.heap.size ≤ q → A q) (hK : va_K D vwCl (TY cy) s)  :
    ∀ (n_48 : Nat), ∀ (u0 : St) (x1 : Int32) (x2 : Int32) (x3 : Int32), f_X5_addTitle_L48 fu n_48 u0 x1 x2 x3 = some out → ∀ (H : Heap) (locs : List Loc) (ls : Array Slot), va_P D vwCl (w5 cy h0 a0 u0) H → va_D A (w5 cy h0 a0 u0) → va_S A s.heap H locs → lv_has ls 4 [(0, .ref h0), (1, .int x1), (2, .int x2), (3, .int x3)] → W p l e ({ frames := 2, cells := 0, slots := 0, locals := 45 } : Room) s m args below meth c H locs 0 0 (MQ below (gQv D cy A (w5 cy h0 a0 out)) args s 0 0 A) (F0 m 48 ls []) := by
  obtain ⟨hx, hb, hr, hml, hown, hts, hlk⟩ := id C
  have hown : s.vm.findClass RX5 = some m.cls := hown
  intro n_48
  induction n_48 with
  | zero => intro u0 x1 x2 x3 hf; exact op_no hf
  | succ n_48 ih_48 =>
    intro u0 x1 x2 x3 hf H locs ls hP hD hS hl
    rw [f_X5_addTitle_L48] at hf
    refine lv_iload_n hx hb dX5_addTitle_48 rfl (lv_at hl 3 rfl) ?_
    refine lv_iconst (v := 4) hx hb dX5_addTitle_49 (by decide) ?_
    refine lv_icmp_ge (tgt := 66) hx hb dX5_addTitle_50 (by decide) (fun c_50 => ?_) (fun c_50 => ?_)
    · have hf := op_pos c_50 hf
      rw [← Option.some.inj hf]
      exact g_vret hx hb hr hlk hK hP hD hS dX5_addTitle_66
    · have hf := op_neg c_50 hf
      refine lv_aload_n hx hb dX5_addTitle_53 rfl (lv_at hl 0 rfl) ?_
      refine lv_iload_n hx hb dX5_addTitle_54 rfl (lv_at hl 3 rfl) ?_
      refine lv_iload_n hx hb dX5_addTitle_55 rfl (lv_at hl 1 rfl) ?_
      refine lv_iload_n hx hb dX5_addTitle_56 rfl (lv_at hl 2 rfl) ?_
      obtain ⟨q_57, hc_57, hf⟩ := op_bind hf
      refine g_callVv (As := [.int x3, .int x1, .int x2]) (rest := []) (w2 := w5 cy h0 a0 q_57) ⟨hx, hb, hml, hown, hts⟩ (c_X5_setString l D cy h0 a0 u0 _ fu x3 x1 x2 _ hc_57) (cwV 3 hts (gi_V ml_RX5_73 im_X5_setString se_X5_setString in_RX5 cd_X5_setString) rfl rfl rfl hdX5_setString ⟨Nat.le_of_ble_eq_true rfl, Nat.le_of_ble_eq_true rfl⟩) (va_recv hK hP (ci := 5) (q0 := 0) rfl rfl) rfl hl.1 rfl (Nat.le_of_ble_eq_true rfl) dX5_addTitle_57 hK hP hD hS hA [0, 1, 2, 3, 4, 5, 6, 7, 8] [] [0, 1, 2, 3, 4, 5, 6, 7, 8] rfl rfl rfl rfl (by decide) rfl rfl (fun H locs hP hD hS => ?_)
      refine lv_iinc (v := x3 + 1) (lv' := [(3, .int (x3 + 1)), (0, .ref h0), (1, .int x1), (2, .int x2)]) hx hb dX5_addTitle_60 hl (k := 3) rfl rfl (by decide) rfl (fun ls hl => ?_)
      refine lv_goto (tgt := 48) hx hb dX5_addTitle_63 (by decide) ?_
      exact ih_48 q_57 x1 x2 (x3 + 1) hf _ _ ls hP hD hS (lv_sub hl [1, 2, 3, 0] rfl)
def f_X5_addTitle (fu : Nat)  (s0 : St) (p1 : Int32) (p2 : Int32) : Option (St) := if (s0.1 3) ≤ (s0.1 1) then (some s0) else (if (s0.1 1) < 40 then (if inb (s0.1 1) 40 = true then (f_X5_addTitle_L48 fu fu (sF (sA s0 10 ((s0.1 1).toNatClampNeg) ((s0.1 3) - 1)) 1 ((s0.1 1) + 1)) p1 p2 0) else none) else (some s0))
theorem hdX5_addTitle : yX5_addTitle.cls = RX5 ∧ yX5_addTitle.cls ≠ "java/lang/invoke/MethodHandle" ∧ yX5_addTitle.cls ≠ "java/lang/invoke/VarHandle" ∧ (parseMethodDescriptor yX5_addTitle.desc).map (fun d => d.parameters.length) = some 2 := by decide +kernel
set_option maxHeartbeats 4000000 in
set_option maxRecDepth 100000 in
theorem c_X5_addTitle (l : Launch) (D : va_G) (cy : Nat → ClassId) (h0 : Nat) (a0 : Nat → Nat) (s0 : St) (sz fu : Nat) (p1 : Int32) (p2 : Int32) (out : St) (hf : f_X5_addTitle fu s0 p1 p2 = some out) :
    Met l yX5_addTitle (WS yX5_addTitle cX5_addTitle 4 none) ({ frames := 2, cells := 0, slots := 0, locals := 45 } : Room) (va_Pc [.ref h0, .int p1, .int p2] (gP D cy sz (w5 cy h0 a0 s0))) ((fun A : Nat → Prop => gQv D cy A (w5 cy h0 a0 out)) (va_A (w5 cy h0 a0 s0) sz)) 0 0 (va_A (w5 cy h0 a0 s0) sz) := by
  refine g_met (cc := cX5_addTitle) (maxL := 4) (ret := none) (fun A : Nat → Prop => gQv D cy A (w5 cy h0 a0 out)) (by decide +kernel) rfl (Nat.le_of_ble_eq_true rfl) ?_
  intro p e s m below meth c A C hA hK hP hD ls hl
  obtain ⟨hx, hb, hr, hml, hown, hts, hlk⟩ := id C
  have hown : s.vm.findClass RX5 = some m.cls := hown
  have hS : va_S A s.heap s.heap [] := va_S.rf
  have hl : lv_has ls 4 [(0, .ref h0), (1, .int p1), (2, .int p2)] := hl
  have hk_40 := hts _ (List.mem_cons_of_mem _ fl_RX5_40)
  have hk_46 := hts _ (List.mem_cons_of_mem _ fl_RX5_46)
  have hk_31 := hts _ (List.mem_cons_of_mem _ fl_RX5_31)
  unfold f_X5_addTitle at hf
  refine lv_aload_n hx hb dX5_addTitle_0 rfl (lv_at hl 0 rfl) ?_
  refine va_get (ci := 5) (v := .int (s0.1 1)) (C := RX5) (T := TX5) (N := 13) hx hb hts (fun w h => List.mem_cons_of_mem _ (inX5 w h)) hown hK hP 0 rfl rfl 1 (by decide) hk_40 (fun _ h9 => h9) rfl dX5_addTitle_1 ?_
  refine lv_aload_n hx hb dX5_addTitle_4 rfl (lv_at hl 0 rfl) ?_
  refine va_get (ci := 5) (v := .int (s0.1 3)) (C := RX5) (T := TX5) (N := 13) hx hb hts (fun w h => List.mem_cons_of_mem _ (inX5 w h)) hown hK hP 0 rfl rfl 3 (by decide) hk_46 (fun _ h9 => h9) rfl dX5_addTitle_5 ?_
  refine lv_icmp_ge (tgt := 20) hx hb dX5_addTitle_8 (by decide) (fun c_8 => ?_) (fun c_8 => ?_)
  · have hf := op_pos c_8 hf
    rw [← Option.some.inj hf]
    exact g_vret hx hb hr hlk hK hP hD hS dX5_addTitle_20
  · have hf := op_neg c_8 hf
    refine lv_aload_n hx hb dX5_addTitle_11 rfl (lv_at hl 0 rfl) ?_
    refine va_get (ci := 5) (v := .int (s0.1 1)) (C := RX5) (T := TX5) (N := 13) hx hb hts (fun w h => List.mem_cons_of_mem _ (inX5 w h)) hown hK hP 0 rfl rfl 1 (by decide) hk_40 (fun _ h9 => h9) rfl dX5_addTitle_12 ?_
    refine lv_bipush (v := 40) hx hb dX5_addTitle_15 (by decide) ?_
    refine lv_icmp_lt (tgt := 21) hx hb dX5_addTitle_17 (by decide) (fun c_17 => ?_) (fun c_17 => ?_)
    · have hf := op_pos c_17 hf
      refine lv_aload_n hx hb dX5_addTitle_21 rfl (lv_at hl 0 rfl) ?_
      refine va_get (ci := 5) (v := .ref (a0 10)) (C := RX5) (T := TX5) (N := 13) hx hb hts (fun w h => List.mem_cons_of_mem _ (inX5 w h)) hown hK hP 0 rfl rfl 10 (by decide) hk_31 (fun _ h9 => h9) rfl dX5_addTitle_22 ?_
      refine lv_aload_n hx hb dX5_addTitle_25 rfl (lv_at hl 0 rfl) ?_
      refine va_get (ci := 5) (v := .int (s0.1 1)) (C := RX5) (T := TX5) (N := 13) hx hb hts (fun w h => List.mem_cons_of_mem _ (inX5 w h)) hown hK hP 0 rfl rfl 1 (by decide) hk_40 (fun _ h9 => h9) rfl dX5_addTitle_26 ?_
      refine lv_aload_n hx hb dX5_addTitle_29 rfl (lv_at hl 0 rfl) ?_
      refine va_get (ci := 5) (v := .int (s0.1 3)) (C := RX5) (T := TX5) (N := 13) hx hb hts (fun w h => List.mem_cons_of_mem _ (inX5 w h)) hown hK hP 0 rfl rfl 3 (by decide) hk_46 (fun _ h9 => h9) rfl dX5_addTitle_30 ?_
      refine lv_iconst (v := 1) hx hb dX5_addTitle_33 (by decide) ?_
      refine lv_isub hx hb dX5_addTitle_34 ?_
      obtain ⟨hg_35, hf⟩ := op_if hf
      refine va_iast (f := s0.2 10) (x := (s0.1 3) - 1) hx hb hK hP hD hS 6 0 rfl rfl (inb_in hg_35) dX5_addTitle_35 (fun H locs hP hD hS => ?_)
      have hP : va_P D vwCl (w5 cy h0 a0 (sA s0 10 ((s0.1 1).toNatClampNeg) ((s0.1 3) - 1))) H := pP5_10 hP
      have hD : va_D A (w5 cy h0 a0 (sA s0 10 ((s0.1 1).toNatClampNeg) ((s0.1 3) - 1))) := pD5_10 hD
      refine lv_aload_n hx hb dX5_addTitle_36 rfl (lv_at hl 0 rfl) ?_
      refine lv_dup hx hb dX5_addTitle_37 rfl ?_
      refine va_get (ci := 5) (v := .int (s0.1 1)) (C := RX5) (T := TX5) (N := 13) hx hb hts (fun w h => List.mem_cons_of_mem _ (inX5 w h)) hown hK hP 0 rfl rfl 1 (by decide) hk_40 (fun _ h9 => h9) rfl dX5_addTitle_38 ?_
      refine lv_iconst (v := 1) hx hb dX5_addTitle_41 (by decide) ?_
      refine lv_iadd hx hb dX5_addTitle_42 ?_
      refine va_put (ci := 5) (v := .int ((s0.1 1) + 1)) (ty := tyX5 1) (C := RX5) (T := TX5) (N := 13) hx hb hts (fun w h => List.mem_cons_of_mem _ (inX5 w h)) tyX5 tyX5_ok nmX5 hown hK hP hD hS 0 rfl rfl 1 (by decide) hk_40 (fun _ h9 => h9) rfl (tyX5_ok 1 (by decide)) rfl rfl (Nat.le_of_ble_eq_true rfl) dX5_addTitle_43 (fun H locs hP hD hS => ?_)
      have hP : va_P D vwCl (w5 cy h0 a0 (sF (sA s0 10 ((s0.1 1).toNatClampNeg) ((s0.1 3) - 1)) 1 ((s0.1 1) + 1))) H := pP5_1 hP
      have hD : va_D A (w5 cy h0 a0 (sF (sA s0 10 ((s0.1 1).toNatClampNeg) ((s0.1 3) - 1)) 1 ((s0.1 1) + 1))) := pD5_1 hD
      refine lv_iconst (v := 0) hx hb dX5_addTitle_46 (by decide) ?_
      refine lv_istore_n (lv' := [(3, .int 0), (0, .ref h0), (1, .int p1), (2, .int p2)]) hx hb dX5_addTitle_47 rfl hl (by decide) rfl (fun ls hl => ?_)
      exact b_X5_addTitle_L48 l D cy h0 a0 fu out C hA hK fu (sF (sA s0 10 ((s0.1 1).toNatClampNeg) ((s0.1 3) - 1)) 1 ((s0.1 1) + 1)) p1 p2 0 hf _ _ ls hP hD hS (lv_sub hl [1, 2, 3, 0] rfl)
    · have hf := op_neg c_17 hf
      rw [← Option.some.inj hf]
      exact g_vret hx hb hr hlk hK hP hD hS dX5_addTitle_20
def f_X5_addCut (fu : Nat)  (s0 : St) (p1 : Int32) (p2 : Int32) (p3 : Int32) : Option (St) := if p1 < 0 then (some s0) else (if 8 ≤ p1 then (some s0) else (if inb p1 8 = true then (if inb p1 8 = true then (some (sF (sA (sA s0 7 p1.toNatClampNeg p2) 8 p1.toNatClampNeg p3) 2 ((s0.1 2) + 1))) else none) else none))
theorem hdX5_addCut : yX5_addCut.cls = RX5 ∧ yX5_addCut.cls ≠ "java/lang/invoke/MethodHandle" ∧ yX5_addCut.cls ≠ "java/lang/invoke/VarHandle" ∧ (parseMethodDescriptor yX5_addCut.desc).map (fun d => d.parameters.length) = some 3 := by decide +kernel
set_option maxHeartbeats 4000000 in
set_option maxRecDepth 100000 in
theorem c_X5_addCut (l : Launch) (D : va_G) (cy : Nat → ClassId) (h0 : Nat) (a0 : Nat → Nat) (s0 : St) (sz fu : Nat) (p1 : Int32) (p2 : Int32) (p3 : Int32) (out : St) (hf : f_X5_addCut fu s0 p1 p2 p3 = some out) :
    Met l yX5_addCut (WS yX5_addCut cX5_addCut 4 none) ({ frames := 0, cells := 0, slots := 0, locals := 0 } : Room) (va_Pc [.ref h0, .int p1, .int p2, .int p3] (gP D cy sz (w5 cy h0 a0 s0))) ((fun A : Nat → Prop => gQv D cy A (w5 cy h0 a0 out)) (va_A (w5 cy h0 a0 s0) sz)) 0 0 (va_A (w5 cy h0 a0 s0) sz) := by
  refine g_met (cc := cX5_addCut) (maxL := 4) (ret := none) (fun A : Nat → Prop => gQv D cy A (w5 cy h0 a0 out)) (by decide +kernel) rfl (Nat.le_of_ble_eq_true rfl) ?_
  intro p e s m below meth c A C hA hK hP hD ls hl
  obtain ⟨hx, hb, hr, hml, hown, hts, hlk⟩ := id C
  have hown : s.vm.findClass RX5 = some m.cls := hown
  have hS : va_S A s.heap s.heap [] := va_S.rf
  have hl : lv_has ls 4 [(0, .ref h0), (1, .int p1), (2, .int p2), (3, .int p3)] := hl
  have hk_22 := hts _ (List.mem_cons_of_mem _ fl_RX5_22)
  have hk_25 := hts _ (List.mem_cons_of_mem _ fl_RX5_25)
  have hk_43 := hts _ (List.mem_cons_of_mem _ fl_RX5_43)
  unfold f_X5_addCut at hf
  refine lv_iload_n hx hb dX5_addCut_0 rfl (lv_at hl 1 rfl) ?_
  refine lv_if_lt (tgt := 34) hx hb dX5_addCut_1 (by decide) (fun c_1 => ?_) (fun c_1 => ?_)
  · have hf := op_pos c_1 hf
    rw [← Option.some.inj hf]
    exact g_vret hx hb hr hlk hK hP hD hS dX5_addCut_34
  · have hf := op_neg c_1 hf
    refine lv_iload_n hx hb dX5_addCut_4 rfl (lv_at hl 1 rfl) ?_
    refine lv_bipush (v := 8) hx hb dX5_addCut_5 (by decide) ?_
    refine lv_icmp_ge (tgt := 34) hx hb dX5_addCut_7 (by decide) (fun c_7 => ?_) (fun c_7 => ?_)
    · have hf := op_pos c_7 hf
      rw [← Option.some.inj hf]
      exact g_vret hx hb hr hlk hK hP hD hS dX5_addCut_34
    · have hf := op_neg c_7 hf
      refine lv_aload_n hx hb dX5_addCut_10 rfl (lv_at hl 0 rfl) ?_
      refine va_get (ci := 5) (v := .ref (a0 7)) (C := RX5) (T := TX5) (N := 13) hx hb hts (fun w h => List.mem_cons_of_mem _ (inX5 w h)) hown hK hP 0 rfl rfl 7 (by decide) hk_22 (fun _ h9 => h9) rfl dX5_addCut_11 ?_
      refine lv_iload_n hx hb dX5_addCut_14 rfl (lv_at hl 1 rfl) ?_
      refine lv_iload_n hx hb dX5_addCut_15 rfl (lv_at hl 2 rfl) ?_
      obtain ⟨hg_16, hf⟩ := op_if hf
      refine va_iast (f := s0.2 7) (x := p2) hx hb hK hP hD hS 3 0 rfl rfl (inb_in hg_16) dX5_addCut_16 (fun H locs hP hD hS => ?_)
      have hP : va_P D vwCl (w5 cy h0 a0 (sA s0 7 p1.toNatClampNeg p2)) H := pP5_7 hP
      have hD : va_D A (w5 cy h0 a0 (sA s0 7 p1.toNatClampNeg p2)) := pD5_7 hD
      refine lv_aload_n hx hb dX5_addCut_17 rfl (lv_at hl 0 rfl) ?_
      refine va_get (ci := 5) (v := .ref (a0 8)) (C := RX5) (T := TX5) (N := 13) hx hb hts (fun w h => List.mem_cons_of_mem _ (inX5 w h)) hown hK hP 0 rfl rfl 8 (by decide) hk_25 (fun _ h9 => h9) rfl dX5_addCut_18 ?_
      refine lv_iload_n hx hb dX5_addCut_21 rfl (lv_at hl 1 rfl) ?_
      refine lv_iload_n hx hb dX5_addCut_22 rfl (lv_at hl 3 rfl) ?_
      obtain ⟨hg_23, hf⟩ := op_if hf
      refine va_iast (f := (sA s0 7 p1.toNatClampNeg p2).2 8) (x := p3) hx hb hK hP hD hS 4 0 rfl rfl (inb_in hg_23) dX5_addCut_23 (fun H locs hP hD hS => ?_)
      have hP : va_P D vwCl (w5 cy h0 a0 (sA (sA s0 7 p1.toNatClampNeg p2) 8 p1.toNatClampNeg p3)) H := pP5_8 hP
      have hD : va_D A (w5 cy h0 a0 (sA (sA s0 7 p1.toNatClampNeg p2) 8 p1.toNatClampNeg p3)) := pD5_8 hD
      refine lv_aload_n hx hb dX5_addCut_24 rfl (lv_at hl 0 rfl) ?_
      refine lv_dup hx hb dX5_addCut_25 rfl ?_
      refine va_get (ci := 5) (v := .int (s0.1 2)) (C := RX5) (T := TX5) (N := 13) hx hb hts (fun w h => List.mem_cons_of_mem _ (inX5 w h)) hown hK hP 0 rfl rfl 2 (by decide) hk_43 (fun _ h9 => h9) rfl dX5_addCut_26 ?_
      refine lv_iconst (v := 1) hx hb dX5_addCut_29 (by decide) ?_
      refine lv_iadd hx hb dX5_addCut_30 ?_
      refine va_put (ci := 5) (v := .int ((s0.1 2) + 1)) (ty := tyX5 2) (C := RX5) (T := TX5) (N := 13) hx hb hts (fun w h => List.mem_cons_of_mem _ (inX5 w h)) tyX5 tyX5_ok nmX5 hown hK hP hD hS 0 rfl rfl 2 (by decide) hk_43 (fun _ h9 => h9) rfl (tyX5_ok 2 (by decide)) rfl rfl (Nat.le_of_ble_eq_true rfl) dX5_addCut_31 (fun H locs hP hD hS => ?_)
      have hP : va_P D vwCl (w5 cy h0 a0 (sF (sA (sA s0 7 p1.toNatClampNeg p2) 8 p1.toNatClampNeg p3) 2 ((s0.1 2) + 1))) H := pP5_2 hP
      have hD : va_D A (w5 cy h0 a0 (sF (sA (sA s0 7 p1.toNatClampNeg p2) 8 p1.toNatClampNeg p3) 2 ((s0.1 2) + 1))) := pD5_2 hD
      rw [← Option.some.inj hf]
      exact g_vret hx hb hr hlk hK hP hD hS dX5_addCut_34
def f_X5_barOfMark (fu : Nat) (s0 : St)  (p1 : Int32) (p2 : Int32) : Option (Int32) := if p1 < 0 then (some p2) else (if (s0.1 3) ≤ p1 then (some p2) else (if 40 ≤ p1 then (some p2) else (if inb p1 40 = true then (some (s0.2 9 p1.toNatClampNeg)) else none)))
theorem hdX5_barOfMark : yX5_barOfMark.cls = RX5 ∧ yX5_barOfMark.cls ≠ "java/lang/invoke/MethodHandle" ∧ yX5_barOfMark.cls ≠ "java/lang/invoke/VarHandle" ∧ (parseMethodDescriptor yX5_barOfMark.desc).map (fun d => d.parameters.length) = some 2 := by decide +kernel
set_option maxHeartbeats 4000000 in
set_option maxRecDepth 100000 in
theorem c_X5_barOfMark (l : Launch) (D : va_G) (cy : Nat → ClassId) (h0 : Nat) (a0 : Nat → Nat) (s0 : St) (sz fu : Nat) (p1 : Int32) (p2 : Int32) (out : Int32) (hf : f_X5_barOfMark fu s0 p1 p2 = some out) :
    Met l yX5_barOfMark (WS yX5_barOfMark cX5_barOfMark 3 (some .int)) ({ frames := 0, cells := 0, slots := 0, locals := 0 } : Room) (va_Pc [.ref h0, .int p1, .int p2] (gP D cy sz (w5 cy h0 a0 s0))) ((fun A : Nat → Prop => gQi D cy A out (w5 cy h0 a0 s0)) (va_A (w5 cy h0 a0 s0) sz)) 0 0 (va_A (w5 cy h0 a0 s0) sz) := by
  refine g_met (cc := cX5_barOfMark) (maxL := 3) (ret := (some .int)) (fun A : Nat → Prop => gQi D cy A out (w5 cy h0 a0 s0)) (by decide +kernel) rfl (Nat.le_of_ble_eq_true rfl) ?_
  intro p e s m below meth c A C hA hK hP hD ls hl
  obtain ⟨hx, hb, hr, hml, hown, hts, hlk⟩ := id C
  have hown : s.vm.findClass RX5 = some m.cls := hown
  have hS : va_S A s.heap s.heap [] := va_S.rf
  have hl : lv_has ls 3 [(0, .ref h0), (1, .int p1), (2, .int p2)] := hl
  have hk_46 := hts _ (List.mem_cons_of_mem _ fl_RX5_46)
  have hk_28 := hts _ (List.mem_cons_of_mem _ fl_RX5_28)
  unfold f_X5_barOfMark at hf
  refine lv_iload_n hx hb dX5_barOfMark_0 rfl (lv_at hl 1 rfl) ?_
  refine lv_if_lt (tgt := 27) hx hb dX5_barOfMark_1 (by decide) (fun c_1 => ?_) (fun c_1 => ?_)
  · have hf := op_pos c_1 hf
    refine lv_iload_n hx hb dX5_barOfMark_27 rfl (lv_at hl 2 rfl) ?_
    rw [← Option.some.inj hf]
    exact g_iret hx hb hr hlk hK hP hD hS dX5_barOfMark_28
  · have hf := op_neg c_1 hf
    refine lv_iload_n hx hb dX5_barOfMark_4 rfl (lv_at hl 1 rfl) ?_
    refine lv_aload_n hx hb dX5_barOfMark_5 rfl (lv_at hl 0 rfl) ?_
    refine va_get (ci := 5) (v := .int (s0.1 3)) (C := RX5) (T := TX5) (N := 13) hx hb hts (fun w h => List.mem_cons_of_mem _ (inX5 w h)) hown hK hP 0 rfl rfl 3 (by decide) hk_46 (fun _ h9 => h9) rfl dX5_barOfMark_6 ?_
    refine lv_icmp_ge (tgt := 27) hx hb dX5_barOfMark_9 (by decide) (fun c_9 => ?_) (fun c_9 => ?_)
    · have hf := op_pos c_9 hf
      refine lv_iload_n hx hb dX5_barOfMark_27 rfl (lv_at hl 2 rfl) ?_
      rw [← Option.some.inj hf]
      exact g_iret hx hb hr hlk hK hP hD hS dX5_barOfMark_28
    · have hf := op_neg c_9 hf
      refine lv_iload_n hx hb dX5_barOfMark_12 rfl (lv_at hl 1 rfl) ?_
      refine lv_bipush (v := 40) hx hb dX5_barOfMark_13 (by decide) ?_
      refine lv_icmp_ge (tgt := 27) hx hb dX5_barOfMark_15 (by decide) (fun c_15 => ?_) (fun c_15 => ?_)
      · have hf := op_pos c_15 hf
        refine lv_iload_n hx hb dX5_barOfMark_27 rfl (lv_at hl 2 rfl) ?_
        rw [← Option.some.inj hf]
        exact g_iret hx hb hr hlk hK hP hD hS dX5_barOfMark_28
      · have hf := op_neg c_15 hf
        refine lv_aload_n hx hb dX5_barOfMark_18 rfl (lv_at hl 0 rfl) ?_
        refine va_get (ci := 5) (v := .ref (a0 9)) (C := RX5) (T := TX5) (N := 13) hx hb hts (fun w h => List.mem_cons_of_mem _ (inX5 w h)) hown hK hP 0 rfl rfl 9 (by decide) hk_28 (fun _ h9 => h9) rfl dX5_barOfMark_19 ?_
        refine lv_iload_n hx hb dX5_barOfMark_22 rfl (lv_at hl 1 rfl) ?_
        obtain ⟨hg_23, hf⟩ := op_if hf
        refine va_iald (f := s0.2 9) hx hb hK hP 5 0 rfl rfl (inb_in hg_23) dX5_barOfMark_23 ?_
        refine lv_goto (tgt := 28) hx hb dX5_barOfMark_24 (by decide) ?_
        rw [← Option.some.inj hf]
        exact g_iret hx hb hr hlk hK hP hD hS dX5_barOfMark_28
def f_X5_latestBar (fu : Nat) (s0 : St)   : Option (Int32) := (f_X5_barOfMark fu s0 ((s0.1 3) - 1) 0).bind (fun q_8 => some q_8)
theorem hdX5_latestBar : yX5_latestBar.cls = RX5 ∧ yX5_latestBar.cls ≠ "java/lang/invoke/MethodHandle" ∧ yX5_latestBar.cls ≠ "java/lang/invoke/VarHandle" ∧ (parseMethodDescriptor yX5_latestBar.desc).map (fun d => d.parameters.length) = some 0 := by decide +kernel
set_option maxHeartbeats 4000000 in
set_option maxRecDepth 100000 in
theorem c_X5_latestBar (l : Launch) (D : va_G) (cy : Nat → ClassId) (h0 : Nat) (a0 : Nat → Nat) (s0 : St) (sz fu : Nat)  (out : Int32) (hf : f_X5_latestBar fu s0 = some out) :
    Met l yX5_latestBar (WS yX5_latestBar cX5_latestBar 1 (some .int)) ({ frames := 1, cells := 0, slots := 0, locals := 22 } : Room) (va_Pc [.ref h0] (gP D cy sz (w5 cy h0 a0 s0))) ((fun A : Nat → Prop => gQi D cy A out (w5 cy h0 a0 s0)) (va_A (w5 cy h0 a0 s0) sz)) 0 0 (va_A (w5 cy h0 a0 s0) sz) := by
  refine g_met (cc := cX5_latestBar) (maxL := 1) (ret := (some .int)) (fun A : Nat → Prop => gQi D cy A out (w5 cy h0 a0 s0)) (by decide +kernel) rfl (Nat.le_of_ble_eq_true rfl) ?_
  intro p e s m below meth c A C hA hK hP hD ls hl
  obtain ⟨hx, hb, hr, hml, hown, hts, hlk⟩ := id C
  have hown : s.vm.findClass RX5 = some m.cls := hown
  have hS : va_S A s.heap s.heap [] := va_S.rf
  have hl : lv_has ls 1 [(0, .ref h0)] := hl
  have hk_46 := hts _ (List.mem_cons_of_mem _ fl_RX5_46)
  unfold f_X5_latestBar at hf
  refine lv_aload_n hx hb dX5_latestBar_0 rfl (lv_at hl 0 rfl) ?_
  refine lv_aload_n hx hb dX5_latestBar_1 rfl (lv_at hl 0 rfl) ?_
  refine va_get (ci := 5) (v := .int (s0.1 3)) (C := RX5) (T := TX5) (N := 13) hx hb hts (fun w h => List.mem_cons_of_mem _ (inX5 w h)) hown hK hP 0 rfl rfl 3 (by decide) hk_46 (fun _ h9 => h9) rfl dX5_latestBar_2 ?_
  refine lv_iconst (v := 1) hx hb dX5_latestBar_5 (by decide) ?_
  refine lv_isub hx hb dX5_latestBar_6 ?_
  refine lv_iconst (v := 0) hx hb dX5_latestBar_7 (by decide) ?_
  obtain ⟨q_8, hc_8, hf⟩ := op_bind hf
  refine g_callVi (As := [.int ((s0.1 3) - 1), .int 0]) (rest := []) (w2 := w5 cy h0 a0 s0) ⟨hx, hb, hml, hown, hts⟩ (c_X5_barOfMark l D cy h0 a0 s0 _ fu ((s0.1 3) - 1) 0 _ hc_8) (cwV 2 hts (gi_V ml_RX5_81 im_X5_barOfMark se_X5_barOfMark in_RX5 cd_X5_barOfMark) rfl rfl rfl hdX5_barOfMark ⟨Nat.le_of_ble_eq_true rfl, Nat.le_of_ble_eq_true rfl⟩) (va_recv hK hP (ci := 5) (q0 := 0) rfl rfl) rfl hl.1 rfl (Nat.le_of_ble_eq_true rfl) dX5_latestBar_8 hK hP hD hS hA [0, 1, 2, 3, 4, 5, 6, 7, 8] [] [0, 1, 2, 3, 4, 5, 6, 7, 8] rfl rfl rfl rfl (by decide) rfl rfl (fun H locs hP hD hS => ?_)
  rw [← Option.some.inj hf]
  exact g_iret hx hb hr hlk hK hP hD hS dX5_latestBar_11
def f_X5_barOf (fu : Nat) (s0 : St)  (p1 : Int32) : Option (Int32) := (f_X5_hasTitle fu s0 p1).bind (fun q_2 => if q_2 = 0 then (some 0) else (if inb p1 40 = true then ((f_X5_barOfMark fu s0 (s0.2 10 p1.toNatClampNeg) 0).bind (fun q_16 => some q_16)) else none))
theorem hdX5_barOf : yX5_barOf.cls = RX5 ∧ yX5_barOf.cls ≠ "java/lang/invoke/MethodHandle" ∧ yX5_barOf.cls ≠ "java/lang/invoke/VarHandle" ∧ (parseMethodDescriptor yX5_barOf.desc).map (fun d => d.parameters.length) = some 1 := by decide +kernel
set_option maxHeartbeats 4000000 in
set_option maxRecDepth 100000 in
theorem c_X5_barOf (l : Launch) (D : va_G) (cy : Nat → ClassId) (h0 : Nat) (a0 : Nat → Nat) (s0 : St) (sz fu : Nat) (p1 : Int32) (out : Int32) (hf : f_X5_barOf fu s0 p1 = some out) :
    Met l yX5_barOf (WS yX5_barOf cX5_barOf 2 (some .int)) ({ frames := 1, cells := 0, slots := 0, locals := 22 } : Room) (va_Pc [.ref h0, .int p1] (gP D cy sz (w5 cy h0 a0 s0))) ((fun A : Nat → Prop => gQi D cy A out (w5 cy h0 a0 s0)) (va_A (w5 cy h0 a0 s0) sz)) 0 0 (va_A (w5 cy h0 a0 s0) sz) := by
  refine g_met (cc := cX5_barOf) (maxL := 2) (ret := (some .int)) (fun A : Nat → Prop => gQi D cy A out (w5 cy h0 a0 s0)) (by decide +kernel) rfl (Nat.le_of_ble_eq_true rfl) ?_
  intro p e s m below meth c A C hA hK hP hD ls hl
  obtain ⟨hx, hb, hr, hml, hown, hts, hlk⟩ := id C
  have hown : s.vm.findClass RX5 = some m.cls := hown
  have hS : va_S A s.heap s.heap [] := va_S.rf
  have hl : lv_has ls 2 [(0, .ref h0), (1, .int p1)] := hl
  have hk_31 := hts _ (List.mem_cons_of_mem _ fl_RX5_31)
  unfold f_X5_barOf at hf
  refine lv_aload_n hx hb dX5_barOf_0 rfl (lv_at hl 0 rfl) ?_
  refine lv_iload_n hx hb dX5_barOf_1 rfl (lv_at hl 1 rfl) ?_
  obtain ⟨q_2, hc_2, hf⟩ := op_bind hf
  refine g_callVi (As := [.int p1]) (rest := []) (w2 := w5 cy h0 a0 s0) ⟨hx, hb, hml, hown, hts⟩ (c_X5_hasTitle l D cy h0 a0 s0 _ fu p1 _ hc_2) (cwV 1 hts (gi_V ml_RX5_84 im_X5_hasTitle se_X5_hasTitle in_RX5 cd_X5_hasTitle) rfl rfl rfl hdX5_hasTitle ⟨Nat.le_of_ble_eq_true rfl, Nat.le_of_ble_eq_true rfl⟩) (va_recv hK hP (ci := 5) (q0 := 0) rfl rfl) rfl hl.1 rfl (Nat.le_of_ble_eq_true rfl) dX5_barOf_2 hK hP hD hS hA [0, 1, 2, 3, 4, 5, 6, 7, 8] [] [0, 1, 2, 3, 4, 5, 6, 7, 8] rfl rfl rfl rfl (by decide) rfl rfl (fun H locs hP hD hS => ?_)
  refine lv_if_eq (tgt := 22) hx hb dX5_barOf_5 (by decide) (fun c_5 => ?_) (fun c_5 => ?_)
  · have hf := op_pos c_5 hf
    refine lv_iconst (v := 0) hx hb dX5_barOf_22 (by decide) ?_
    rw [← Option.some.inj hf]
    exact g_iret hx hb hr hlk hK hP hD hS dX5_barOf_23
  · have hf := op_neg c_5 hf
    refine lv_aload_n hx hb dX5_barOf_8 rfl (lv_at hl 0 rfl) ?_
    refine lv_aload_n hx hb dX5_barOf_9 rfl (lv_at hl 0 rfl) ?_
    refine va_get (ci := 5) (v := .ref (a0 10)) (C := RX5) (T := TX5) (N := 13) hx hb hts (fun w h => List.mem_cons_of_mem _ (inX5 w h)) hown hK hP 0 rfl rfl 10 (by decide) hk_31 (fun _ h9 => h9) rfl dX5_barOf_10 ?_
    refine lv_iload_n hx hb dX5_barOf_13 rfl (lv_at hl 1 rfl) ?_
    obtain ⟨hg_14, hf⟩ := op_if hf
    refine va_iald (f := s0.2 10) hx hb hK hP 6 0 rfl rfl (inb_in hg_14) dX5_barOf_14 ?_
    refine lv_iconst (v := 0) hx hb dX5_barOf_15 (by decide) ?_
    obtain ⟨q_16, hc_16, hf⟩ := op_bind hf
    refine g_callVi (As := [.int (s0.2 10 p1.toNatClampNeg), .int 0]) (rest := []) (w2 := w5 cy h0 a0 s0) ⟨hx, hb, hml, hown, hts⟩ (c_X5_barOfMark l D cy h0 a0 s0 _ fu (s0.2 10 p1.toNatClampNeg) 0 _ hc_16) (cwV 2 hts (gi_V ml_RX5_81 im_X5_barOfMark se_X5_barOfMark in_RX5 cd_X5_barOfMark) rfl rfl rfl hdX5_barOfMark ⟨Nat.le_of_ble_eq_true rfl, Nat.le_of_ble_eq_true rfl⟩) (va_recv hK hP (ci := 5) (q0 := 0) rfl rfl) rfl hl.1 rfl (Nat.le_of_ble_eq_true rfl) dX5_barOf_16 hK hP hD hS hA [0, 1, 2, 3, 4, 5, 6, 7, 8] [] [0, 1, 2, 3, 4, 5, 6, 7, 8] rfl rfl rfl rfl (by decide) rfl rfl (fun H locs hP hD hS => ?_)
    refine lv_goto (tgt := 23) hx hb dX5_barOf_19 (by decide) ?_
    rw [← Option.some.inj hf]
    exact g_iret hx hb hr hlk hK hP hD hS dX5_barOf_23
def f_X5_endOf (fu : Nat) (s0 : St)  (p1 : Int32) : Option (Int32) := (f_X5_hasTitle fu s0 p1).bind (fun q_2 => if q_2 = 0 then (some 0) else (if inb p1 40 = true then ((f_X5_barOfMark fu s0 ((s0.2 10 p1.toNatClampNeg) + 1) 1000).bind (fun q_20 => some q_20)) else none))
theorem hdX5_endOf : yX5_endOf.cls = RX5 ∧ yX5_endOf.cls ≠ "java/lang/invoke/MethodHandle" ∧ yX5_endOf.cls ≠ "java/lang/invoke/VarHandle" ∧ (parseMethodDescriptor yX5_endOf.desc).map (fun d => d.parameters.length) = some 1 := by decide +kernel
set_option maxHeartbeats 4000000 in
set_option maxRecDepth 100000 in
theorem c_X5_endOf (l : Launch) (D : va_G) (cy : Nat → ClassId) (h0 : Nat) (a0 : Nat → Nat) (s0 : St) (sz fu : Nat) (p1 : Int32) (out : Int32) (hf : f_X5_endOf fu s0 p1 = some out) :
    Met l yX5_endOf (WS yX5_endOf cX5_endOf 2 (some .int)) ({ frames := 1, cells := 0, slots := 0, locals := 22 } : Room) (va_Pc [.ref h0, .int p1] (gP D cy sz (w5 cy h0 a0 s0))) ((fun A : Nat → Prop => gQi D cy A out (w5 cy h0 a0 s0)) (va_A (w5 cy h0 a0 s0) sz)) 0 0 (va_A (w5 cy h0 a0 s0) sz) := by
  refine g_met (cc := cX5_endOf) (maxL := 2) (ret := (some .int)) (fun A : Nat → Prop => gQi D cy A out (w5 cy h0 a0 s0)) (by decide +kernel) rfl (Nat.le_of_ble_eq_true rfl) ?_
  intro p e s m below meth c A C hA hK hP hD ls hl
  obtain ⟨hx, hb, hr, hml, hown, hts, hlk⟩ := id C
  have hown : s.vm.findClass RX5 = some m.cls := hown
  have hS : va_S A s.heap s.heap [] := va_S.rf
  have hl : lv_has ls 2 [(0, .ref h0), (1, .int p1)] := hl
  have hk_31 := hts _ (List.mem_cons_of_mem _ fl_RX5_31)
  unfold f_X5_endOf at hf
  refine lv_aload_n hx hb dX5_endOf_0 rfl (lv_at hl 0 rfl) ?_
  refine lv_iload_n hx hb dX5_endOf_1 rfl (lv_at hl 1 rfl) ?_
  obtain ⟨q_2, hc_2, hf⟩ := op_bind hf
  refine g_callVi (As := [.int p1]) (rest := []) (w2 := w5 cy h0 a0 s0) ⟨hx, hb, hml, hown, hts⟩ (c_X5_hasTitle l D cy h0 a0 s0 _ fu p1 _ hc_2) (cwV 1 hts (gi_V ml_RX5_84 im_X5_hasTitle se_X5_hasTitle in_RX5 cd_X5_hasTitle) rfl rfl rfl hdX5_hasTitle ⟨Nat.le_of_ble_eq_true rfl, Nat.le_of_ble_eq_true rfl⟩) (va_recv hK hP (ci := 5) (q0 := 0) rfl rfl) rfl hl.1 rfl (Nat.le_of_ble_eq_true rfl) dX5_endOf_2 hK hP hD hS hA [0, 1, 2, 3, 4, 5, 6, 7, 8] [] [0, 1, 2, 3, 4, 5, 6, 7, 8] rfl rfl rfl rfl (by decide) rfl rfl (fun H locs hP hD hS => ?_)
  refine lv_if_eq (tgt := 26) hx hb dX5_endOf_5 (by decide) (fun c_5 => ?_) (fun c_5 => ?_)
  · have hf := op_pos c_5 hf
    refine lv_iconst (v := 0) hx hb dX5_endOf_26 (by decide) ?_
    rw [← Option.some.inj hf]
    exact g_iret hx hb hr hlk hK hP hD hS dX5_endOf_27
  · have hf := op_neg c_5 hf
    refine lv_aload_n hx hb dX5_endOf_8 rfl (lv_at hl 0 rfl) ?_
    refine lv_aload_n hx hb dX5_endOf_9 rfl (lv_at hl 0 rfl) ?_
    refine va_get (ci := 5) (v := .ref (a0 10)) (C := RX5) (T := TX5) (N := 13) hx hb hts (fun w h => List.mem_cons_of_mem _ (inX5 w h)) hown hK hP 0 rfl rfl 10 (by decide) hk_31 (fun _ h9 => h9) rfl dX5_endOf_10 ?_
    refine lv_iload_n hx hb dX5_endOf_13 rfl (lv_at hl 1 rfl) ?_
    obtain ⟨hg_14, hf⟩ := op_if hf
    refine va_iald (f := s0.2 10) hx hb hK hP 6 0 rfl rfl (inb_in hg_14) dX5_endOf_14 ?_
    refine lv_iconst (v := 1) hx hb dX5_endOf_15 (by decide) ?_
    refine lv_iadd hx hb dX5_endOf_16 ?_
    refine lv_sipush (v := 1000) hx hb dX5_endOf_17 (by decide) ?_
    obtain ⟨q_20, hc_20, hf⟩ := op_bind hf
    refine g_callVi (As := [.int ((s0.2 10 p1.toNatClampNeg) + 1), .int 1000]) (rest := []) (w2 := w5 cy h0 a0 s0) ⟨hx, hb, hml, hown, hts⟩ (c_X5_barOfMark l D cy h0 a0 s0 _ fu ((s0.2 10 p1.toNatClampNeg) + 1) 1000 _ hc_20) (cwV 2 hts (gi_V ml_RX5_81 im_X5_barOfMark se_X5_barOfMark in_RX5 cd_X5_barOfMark) rfl rfl rfl hdX5_barOfMark ⟨Nat.le_of_ble_eq_true rfl, Nat.le_of_ble_eq_true rfl⟩) (va_recv hK hP (ci := 5) (q0 := 0) rfl rfl) rfl hl.1 rfl (Nat.le_of_ble_eq_true rfl) dX5_endOf_20 hK hP hD hS hA [0, 1, 2, 3, 4, 5, 6, 7, 8] [] [0, 1, 2, 3, 4, 5, 6, 7, 8] rfl rfl rfl rfl (by decide) rfl rfl (fun H locs hP hD hS => ?_)
    refine lv_goto (tgt := 27) hx hb dX5_endOf_23 (by decide) ?_
    rw [← Option.some.inj hf]
    exact g_iret hx hb hr hlk hK hP hD hS dX5_endOf_27
def f_X5_titleAt_L2  (fu : Nat) (s0 : St) : Nat → Int32 → Int32 → Option (Int32)
  | 0, _, _ => none
  | n_2 + 1, x1, x2 => if (s0.1 1) ≤ x2 then (some (-1)) else ((f_X5_barOf fu s0 x2).bind (fun q_12 => if x1 < q_12 then (f_X5_titleAt_L2 fu s0 n_2 x1 (x2 + 1)) else ((f_X5_endOf fu s0 x2).bind (fun q_22 => if q_22 ≤ x1 then (f_X5_titleAt_L2 fu s0 n_2 x1 (x2 + 1)) else (some x2)))))
set_option maxHeartbeats 4000000 in
set_option maxRecDepth 100000 in
theorem b_X5_titleAt_L2 {p : Program} {e : Env} {s : State} {m : MethodId} {args : Array Value} {below : List Frame} {meth : Method} {c : Code} {A : Nat → Prop} (l : Launch) (D : va_G) (cy : Nat → ClassId) (h0 : Nat) (a0 : Nat → Nat) (s0 : St) (fu : Nat) (out : Int32) (C : gC p s m args meth c (WS yX5_titleAt cX5_titleAt 3 (some .int)) cX5_titleAt 3 (some .int) RX5) (hA : ∀ q : Nat, s.heap.size ≤ q → A q) (hK : va_K D vwCl (TY cy) s)  :
    ∀ (n_2 : Nat), ∀ (x1 : Int32) (x2 : Int32), f_X5_titleAt_L2 fu s0 n_2 x1 x2 = some out → ∀ (H : Heap) (locs : List Loc) (ls : Array Slot), va_P D vwCl (w5 cy h0 a0 s0) H → va_D A (w5 cy h0 a0 s0) → va_S A s.heap H locs → lv_has ls 3 [(0, .ref h0), (1, .int x1), (2, .int x2)] → W p l e ({ frames := 2, cells := 0, slots := 0, locals := 43 } : Room) s m args below meth c H locs 0 0 (MQ below (gQi D cy A out (w5 cy h0 a0 s0)) args s 0 0 A) (F0 m 2 ls []) := by
  obtain ⟨hx, hb, hr, hml, hown, hts, hlk⟩ := id C
  have hown : s.vm.findClass RX5 = some m.cls := hown
  have hk_40 := hts _ (List.mem_cons_of_mem _ fl_RX5_40)
  intro n_2
  induction n_2 with
  | zero => intro x1 x2 hf; exact op_no hf
  | succ n_2 ih_2 =>
    intro x1 x2 hf H locs ls hP hD hS hl
    rw [f_X5_titleAt_L2] at hf
    refine lv_iload_n hx hb dX5_titleAt_2 rfl (lv_at hl 2 rfl) ?_
    refine lv_aload_n hx hb dX5_titleAt_3 rfl (lv_at hl 0 rfl) ?_
    refine va_get (ci := 5) (v := .int (s0.1 1)) (C := RX5) (T := TX5) (N := 13) hx hb hts (fun w h => List.mem_cons_of_mem _ (inX5 w h)) hown hK hP 0 rfl rfl 1 (by decide) hk_40 (fun _ h9 => h9) rfl dX5_titleAt_4 ?_
    refine lv_icmp_ge (tgt := 36) hx hb dX5_titleAt_7 (by decide) (fun c_7 => ?_) (fun c_7 => ?_)
    · have hf := op_pos c_7 hf
      refine lv_iconst (v := (-1)) hx hb dX5_titleAt_36 (by decide) ?_
      rw [← Option.some.inj hf]
      exact g_iret hx hb hr hlk hK hP hD hS dX5_titleAt_37
    · have hf := op_neg c_7 hf
      refine lv_aload_n hx hb dX5_titleAt_10 rfl (lv_at hl 0 rfl) ?_
      refine lv_iload_n hx hb dX5_titleAt_11 rfl (lv_at hl 2 rfl) ?_
      obtain ⟨q_12, hc_12, hf⟩ := op_bind hf
      refine g_callVi (As := [.int x2]) (rest := []) (w2 := w5 cy h0 a0 s0) ⟨hx, hb, hml, hown, hts⟩ (c_X5_barOf l D cy h0 a0 s0 _ fu x2 _ hc_12) (cwV 1 hts (gi_V ml_RX5_87 im_X5_barOf se_X5_barOf in_RX5 cd_X5_barOf) rfl rfl rfl hdX5_barOf ⟨Nat.le_of_ble_eq_true rfl, Nat.le_of_ble_eq_true rfl⟩) (va_recv hK hP (ci := 5) (q0 := 0) rfl rfl) rfl hl.1 rfl (Nat.le_of_ble_eq_true rfl) dX5_titleAt_12 hK hP hD hS hA [0, 1, 2, 3, 4, 5, 6, 7, 8] [] [0, 1, 2, 3, 4, 5, 6, 7, 8] rfl rfl rfl rfl (by decide) rfl rfl (fun H locs hP hD hS => ?_)
      refine lv_iload_n hx hb dX5_titleAt_15 rfl (lv_at hl 1 rfl) ?_
      refine lv_icmp_gt (tgt := 30) hx hb dX5_titleAt_16 (by decide) (fun c_16 => ?_) (fun c_16 => ?_)
      · have hf := op_pos c_16 hf
        refine lv_iinc (v := x2 + 1) (lv' := [(2, .int (x2 + 1)), (0, .ref h0), (1, .int x1)]) hx hb dX5_titleAt_30 hl (k := 2) rfl rfl (by decide) rfl (fun ls hl => ?_)
        refine lv_goto (tgt := 2) hx hb dX5_titleAt_33 (by decide) ?_
        exact ih_2 x1 (x2 + 1) hf _ _ ls hP hD hS (lv_sub hl [1, 2, 0] rfl)
      · have hf := op_neg c_16 hf
        refine lv_iload_n hx hb dX5_titleAt_19 rfl (lv_at hl 1 rfl) ?_
        refine lv_aload_n hx hb dX5_titleAt_20 rfl (lv_at hl 0 rfl) ?_
        refine lv_iload_n hx hb dX5_titleAt_21 rfl (lv_at hl 2 rfl) ?_
        obtain ⟨q_22, hc_22, hf⟩ := op_bind hf
        refine g_callVi (As := [.int x2]) (rest := [.int x1]) (w2 := w5 cy h0 a0 s0) ⟨hx, hb, hml, hown, hts⟩ (c_X5_endOf l D cy h0 a0 s0 _ fu x2 _ hc_22) (cwV 1 hts (gi_V ml_RX5_91 im_X5_endOf se_X5_endOf in_RX5 cd_X5_endOf) rfl rfl rfl hdX5_endOf ⟨Nat.le_of_ble_eq_true rfl, Nat.le_of_ble_eq_true rfl⟩) (va_recv hK hP (ci := 5) (q0 := 0) rfl rfl) rfl hl.1 rfl (Nat.le_of_ble_eq_true rfl) dX5_titleAt_22 hK hP hD hS hA [0, 1, 2, 3, 4, 5, 6, 7, 8] [] [0, 1, 2, 3, 4, 5, 6, 7, 8] rfl rfl rfl rfl (by decide) rfl rfl (fun H locs hP hD hS => ?_)
        refine lv_icmp_ge (tgt := 30) hx hb dX5_titleAt_25 (by decide) (fun c_25 => ?_) (fun c_25 => ?_)
        · have hf := op_pos c_25 hf
          refine lv_iinc (v := x2 + 1) (lv' := [(2, .int (x2 + 1)), (0, .ref h0), (1, .int x1)]) hx hb dX5_titleAt_30 hl (k := 2) rfl rfl (by decide) rfl (fun ls hl => ?_)
          refine lv_goto (tgt := 2) hx hb dX5_titleAt_33 (by decide) ?_
          exact ih_2 x1 (x2 + 1) hf _ _ ls hP hD hS (lv_sub hl [1, 2, 0] rfl)
        · have hf := op_neg c_25 hf
          refine lv_iload_n hx hb dX5_titleAt_28 rfl (lv_at hl 2 rfl) ?_
          rw [← Option.some.inj hf]
          exact g_iret hx hb hr hlk hK hP hD hS dX5_titleAt_29
def f_X5_titleAt (fu : Nat) (s0 : St)  (p1 : Int32) : Option (Int32) := f_X5_titleAt_L2 fu s0 fu p1 0
theorem hdX5_titleAt : yX5_titleAt.cls = RX5 ∧ yX5_titleAt.cls ≠ "java/lang/invoke/MethodHandle" ∧ yX5_titleAt.cls ≠ "java/lang/invoke/VarHandle" ∧ (parseMethodDescriptor yX5_titleAt.desc).map (fun d => d.parameters.length) = some 1 := by decide +kernel
set_option maxHeartbeats 4000000 in
set_option maxRecDepth 100000 in
theorem c_X5_titleAt (l : Launch) (D : va_G) (cy : Nat → ClassId) (h0 : Nat) (a0 : Nat → Nat) (s0 : St) (sz fu : Nat) (p1 : Int32) (out : Int32) (hf : f_X5_titleAt fu s0 p1 = some out) :
    Met l yX5_titleAt (WS yX5_titleAt cX5_titleAt 3 (some .int)) ({ frames := 2, cells := 0, slots := 0, locals := 43 } : Room) (va_Pc [.ref h0, .int p1] (gP D cy sz (w5 cy h0 a0 s0))) ((fun A : Nat → Prop => gQi D cy A out (w5 cy h0 a0 s0)) (va_A (w5 cy h0 a0 s0) sz)) 0 0 (va_A (w5 cy h0 a0 s0) sz) := by
  refine g_met (cc := cX5_titleAt) (maxL := 3) (ret := (some .int)) (fun A : Nat → Prop => gQi D cy A out (w5 cy h0 a0 s0)) (by decide +kernel) rfl (Nat.le_of_ble_eq_true rfl) ?_
  intro p e s m below meth c A C hA hK hP hD ls hl
  obtain ⟨hx, hb, hr, hml, hown, hts, hlk⟩ := id C
  have hown : s.vm.findClass RX5 = some m.cls := hown
  have hS : va_S A s.heap s.heap [] := va_S.rf
  have hl : lv_has ls 3 [(0, .ref h0), (1, .int p1)] := hl
  unfold f_X5_titleAt at hf
  refine lv_iconst (v := 0) hx hb dX5_titleAt_0 (by decide) ?_
  refine lv_istore_n (lv' := [(2, .int 0), (0, .ref h0), (1, .int p1)]) hx hb dX5_titleAt_1 rfl hl (by decide) rfl (fun ls hl => ?_)
  exact b_X5_titleAt_L2 l D cy h0 a0 s0 fu out C hA hK fu p1 0 hf _ _ ls hP hD hS (lv_sub hl [1, 2, 0] rfl)
def f_X5_stringFrom (fu : Nat) (s0 : St)  (p1 : Int32) (p2 : Int32) : Option (Int32) := (f_X5_slotOf fu p1 p2).bind (fun q_2 => if q_2 = (-1) then (some 0) else (if inb q_2 160 = true then (some (s0.2 11 q_2.toNatClampNeg)) else none))
theorem hdX5_stringFrom : yX5_stringFrom.cls = RX5 ∧ yX5_stringFrom.cls ≠ "java/lang/invoke/MethodHandle" ∧ yX5_stringFrom.cls ≠ "java/lang/invoke/VarHandle" ∧ (parseMethodDescriptor yX5_stringFrom.desc).map (fun d => d.parameters.length) = some 2 := by decide +kernel
set_option maxHeartbeats 4000000 in
set_option maxRecDepth 100000 in
theorem c_X5_stringFrom (l : Launch) (D : va_G) (cy : Nat → ClassId) (h0 : Nat) (a0 : Nat → Nat) (s0 : St) (sz fu : Nat) (p1 : Int32) (p2 : Int32) (out : Int32) (hf : f_X5_stringFrom fu s0 p1 p2 = some out) :
    Met l yX5_stringFrom (WS yX5_stringFrom cX5_stringFrom 4 (some .int)) ({ frames := 1, cells := 0, slots := 0, locals := 21 } : Room) (va_Pc [.ref h0, .int p1, .int p2] (gP D cy sz (w5 cy h0 a0 s0))) ((fun A : Nat → Prop => gQi D cy A out (w5 cy h0 a0 s0)) (va_A (w5 cy h0 a0 s0) sz)) 0 0 (va_A (w5 cy h0 a0 s0) sz) := by
  refine g_met (cc := cX5_stringFrom) (maxL := 4) (ret := (some .int)) (fun A : Nat → Prop => gQi D cy A out (w5 cy h0 a0 s0)) (by decide +kernel) rfl (Nat.le_of_ble_eq_true rfl) ?_
  intro p e s m below meth c A C hA hK hP hD ls hl
  obtain ⟨hx, hb, hr, hml, hown, hts, hlk⟩ := id C
  have hown : s.vm.findClass RX5 = some m.cls := hown
  have hS : va_S A s.heap s.heap [] := va_S.rf
  have hl : lv_has ls 4 [(0, .ref h0), (1, .int p1), (2, .int p2)] := hl
  have hk_34 := hts _ (List.mem_cons_of_mem _ fl_RX5_34)
  unfold f_X5_stringFrom at hf
  refine lv_iload_n hx hb dX5_stringFrom_0 rfl (lv_at hl 1 rfl) ?_
  refine lv_iload_n hx hb dX5_stringFrom_1 rfl (lv_at hl 2 rfl) ?_
  obtain ⟨q_2, hc_2, hf⟩ := op_bind hf
  refine g_callSi (As := [.int p1, .int p2]) (rest := []) (w2 := w5 cy h0 a0 s0) ⟨hx, hb, hml, hown, hts⟩ (c_X5_slotOf l D cy _ fu p1 p2 _ hc_2) (va_cwS 2 hts (gi_S ml_RX5_77 sm_X5_slotOf in_RX5 cd_X5_slotOf) rfl rfl rfl hdX5_slotOf ⟨Nat.le_of_ble_eq_true rfl, Nat.le_of_ble_eq_true rfl⟩) rfl hl.1 rfl (Nat.le_of_ble_eq_true rfl) dX5_stringFrom_2 hK hP hD hS hA [] [0, 1, 2, 3, 4, 5, 6, 7, 8] [0, 1, 2, 3, 4, 5, 6, 7, 8] rfl rfl rfl rfl (by decide) rfl rfl (fun H locs hP hD hS => ?_)
  refine lv_istore_n (lv' := [(3, .int q_2), (0, .ref h0), (1, .int p1), (2, .int p2)]) hx hb dX5_stringFrom_5 rfl hl (by decide) rfl (fun ls hl => ?_)
  refine lv_iload_n hx hb dX5_stringFrom_6 rfl (lv_at hl 0 rfl) ?_
  refine lv_iconst (v := (-1)) hx hb dX5_stringFrom_7 (by decide) ?_
  refine lv_icmp_ne (tgt := 15) hx hb dX5_stringFrom_8 (by decide) (fun c_8 => ?_) (fun c_8 => ?_)
  · have hf := op_neg c_8 hf
    refine lv_aload_n hx hb dX5_stringFrom_15 rfl (lv_at hl 1 rfl) ?_
    refine va_get (ci := 5) (v := .ref (a0 11)) (C := RX5) (T := TX5) (N := 13) hx hb hts (fun w h => List.mem_cons_of_mem _ (inX5 w h)) hown hK hP 0 rfl rfl 11 (by decide) hk_34 (fun _ h9 => h9) rfl dX5_stringFrom_16 ?_
    refine lv_iload_n hx hb dX5_stringFrom_19 rfl (lv_at hl 0 rfl) ?_
    obtain ⟨hg_20, hf⟩ := op_if hf
    refine va_iald (f := s0.2 11) hx hb hK hP 7 0 rfl rfl (inb_in hg_20) dX5_stringFrom_20 ?_
    rw [← Option.some.inj hf]
    exact g_iret hx hb hr hlk hK hP hD hS dX5_stringFrom_21
  · have hf := op_pos c_8 hf
    refine lv_iconst (v := 0) hx hb dX5_stringFrom_11 (by decide) ?_
    refine lv_goto (tgt := 21) hx hb dX5_stringFrom_12 (by decide) ?_
    rw [← Option.some.inj hf]
    exact g_iret hx hb hr hlk hK hP hD hS dX5_stringFrom_21
def f_X5_stringLength (fu : Nat) (s0 : St)  (p1 : Int32) (p2 : Int32) : Option (Int32) := (f_X5_slotOf fu p1 p2).bind (fun q_2 => if q_2 = (-1) then (some 0) else (if inb q_2 160 = true then (some (s0.2 12 q_2.toNatClampNeg)) else none))
theorem hdX5_stringLength : yX5_stringLength.cls = RX5 ∧ yX5_stringLength.cls ≠ "java/lang/invoke/MethodHandle" ∧ yX5_stringLength.cls ≠ "java/lang/invoke/VarHandle" ∧ (parseMethodDescriptor yX5_stringLength.desc).map (fun d => d.parameters.length) = some 2 := by decide +kernel
set_option maxHeartbeats 4000000 in
set_option maxRecDepth 100000 in
theorem c_X5_stringLength (l : Launch) (D : va_G) (cy : Nat → ClassId) (h0 : Nat) (a0 : Nat → Nat) (s0 : St) (sz fu : Nat) (p1 : Int32) (p2 : Int32) (out : Int32) (hf : f_X5_stringLength fu s0 p1 p2 = some out) :
    Met l yX5_stringLength (WS yX5_stringLength cX5_stringLength 4 (some .int)) ({ frames := 1, cells := 0, slots := 0, locals := 21 } : Room) (va_Pc [.ref h0, .int p1, .int p2] (gP D cy sz (w5 cy h0 a0 s0))) ((fun A : Nat → Prop => gQi D cy A out (w5 cy h0 a0 s0)) (va_A (w5 cy h0 a0 s0) sz)) 0 0 (va_A (w5 cy h0 a0 s0) sz) := by
  refine g_met (cc := cX5_stringLength) (maxL := 4) (ret := (some .int)) (fun A : Nat → Prop => gQi D cy A out (w5 cy h0 a0 s0)) (by decide +kernel) rfl (Nat.le_of_ble_eq_true rfl) ?_
  intro p e s m below meth c A C hA hK hP hD ls hl
  obtain ⟨hx, hb, hr, hml, hown, hts, hlk⟩ := id C
  have hown : s.vm.findClass RX5 = some m.cls := hown
  have hS : va_S A s.heap s.heap [] := va_S.rf
  have hl : lv_has ls 4 [(0, .ref h0), (1, .int p1), (2, .int p2)] := hl
  have hk_37 := hts _ (List.mem_cons_of_mem _ fl_RX5_37)
  unfold f_X5_stringLength at hf
  refine lv_iload_n hx hb dX5_stringLength_0 rfl (lv_at hl 1 rfl) ?_
  refine lv_iload_n hx hb dX5_stringLength_1 rfl (lv_at hl 2 rfl) ?_
  obtain ⟨q_2, hc_2, hf⟩ := op_bind hf
  refine g_callSi (As := [.int p1, .int p2]) (rest := []) (w2 := w5 cy h0 a0 s0) ⟨hx, hb, hml, hown, hts⟩ (c_X5_slotOf l D cy _ fu p1 p2 _ hc_2) (va_cwS 2 hts (gi_S ml_RX5_77 sm_X5_slotOf in_RX5 cd_X5_slotOf) rfl rfl rfl hdX5_slotOf ⟨Nat.le_of_ble_eq_true rfl, Nat.le_of_ble_eq_true rfl⟩) rfl hl.1 rfl (Nat.le_of_ble_eq_true rfl) dX5_stringLength_2 hK hP hD hS hA [] [0, 1, 2, 3, 4, 5, 6, 7, 8] [0, 1, 2, 3, 4, 5, 6, 7, 8] rfl rfl rfl rfl (by decide) rfl rfl (fun H locs hP hD hS => ?_)
  refine lv_istore_n (lv' := [(3, .int q_2), (0, .ref h0), (1, .int p1), (2, .int p2)]) hx hb dX5_stringLength_5 rfl hl (by decide) rfl (fun ls hl => ?_)
  refine lv_iload_n hx hb dX5_stringLength_6 rfl (lv_at hl 0 rfl) ?_
  refine lv_iconst (v := (-1)) hx hb dX5_stringLength_7 (by decide) ?_
  refine lv_icmp_ne (tgt := 15) hx hb dX5_stringLength_8 (by decide) (fun c_8 => ?_) (fun c_8 => ?_)
  · have hf := op_neg c_8 hf
    refine lv_aload_n hx hb dX5_stringLength_15 rfl (lv_at hl 1 rfl) ?_
    refine va_get (ci := 5) (v := .ref (a0 12)) (C := RX5) (T := TX5) (N := 13) hx hb hts (fun w h => List.mem_cons_of_mem _ (inX5 w h)) hown hK hP 0 rfl rfl 12 (by decide) hk_37 (fun _ h9 => h9) rfl dX5_stringLength_16 ?_
    refine lv_iload_n hx hb dX5_stringLength_19 rfl (lv_at hl 0 rfl) ?_
    obtain ⟨hg_20, hf⟩ := op_if hf
    refine va_iald (f := s0.2 12) hx hb hK hP 8 0 rfl rfl (inb_in hg_20) dX5_stringLength_20 ?_
    rw [← Option.some.inj hf]
    exact g_iret hx hb hr hlk hK hP hD hS dX5_stringLength_21
  · have hf := op_pos c_8 hf
    refine lv_iconst (v := 0) hx hb dX5_stringLength_11 (by decide) ?_
    refine lv_goto (tgt := 21) hx hb dX5_stringLength_12 (by decide) ?_
    rw [← Option.some.inj hf]
    exact g_iret hx hb hr hlk hK hP hD hS dX5_stringLength_21
def f_X5_cutTakes (fu : Nat) (s0 : St)  (p1 : Int32) (p2 : Int32) : Option (Int32) := (f_X5_hasCut fu s0 p1).bind (fun q_2 => if q_2 = 0 then (some 0) else (if inb p1 8 = true then (if p2 < (s0.2 7 p1.toNatClampNeg) then (some 0) else (if inb p1 8 = true then (if (s0.2 8 p1.toNatClampNeg) ≤ p2 then (some 0) else (some 1)) else none)) else none))
theorem hdX5_cutTakes : yX5_cutTakes.cls = RX5 ∧ yX5_cutTakes.cls ≠ "java/lang/invoke/MethodHandle" ∧ yX5_cutTakes.cls ≠ "java/lang/invoke/VarHandle" ∧ (parseMethodDescriptor yX5_cutTakes.desc).map (fun d => d.parameters.length) = some 2 := by decide +kernel
set_option maxHeartbeats 4000000 in
set_option maxRecDepth 100000 in
theorem c_X5_cutTakes (l : Launch) (D : va_G) (cy : Nat → ClassId) (h0 : Nat) (a0 : Nat → Nat) (s0 : St) (sz fu : Nat) (p1 : Int32) (p2 : Int32) (out : Int32) (hf : f_X5_cutTakes fu s0 p1 p2 = some out) :
    Met l yX5_cutTakes (WS yX5_cutTakes cX5_cutTakes 3 (some .boolean)) ({ frames := 1, cells := 0, slots := 0, locals := 21 } : Room) (va_Pc [.ref h0, .int p1, .int p2] (gP D cy sz (w5 cy h0 a0 s0))) ((fun A : Nat → Prop => gQi D cy A out (w5 cy h0 a0 s0)) (va_A (w5 cy h0 a0 s0) sz)) 0 0 (va_A (w5 cy h0 a0 s0) sz) := by
  refine g_met (cc := cX5_cutTakes) (maxL := 3) (ret := (some .boolean)) (fun A : Nat → Prop => gQi D cy A out (w5 cy h0 a0 s0)) (by decide +kernel) rfl (Nat.le_of_ble_eq_true rfl) ?_
  intro p e s m below meth c A C hA hK hP hD ls hl
  obtain ⟨hx, hb, hr, hml, hown, hts, hlk⟩ := id C
  have hown : s.vm.findClass RX5 = some m.cls := hown
  have hS : va_S A s.heap s.heap [] := va_S.rf
  have hl : lv_has ls 3 [(0, .ref h0), (1, .int p1), (2, .int p2)] := hl
  have hk_22 := hts _ (List.mem_cons_of_mem _ fl_RX5_22)
  have hk_25 := hts _ (List.mem_cons_of_mem _ fl_RX5_25)
  unfold f_X5_cutTakes at hf
  refine lv_aload_n hx hb dX5_cutTakes_0 rfl (lv_at hl 0 rfl) ?_
  refine lv_iload_n hx hb dX5_cutTakes_1 rfl (lv_at hl 1 rfl) ?_
  obtain ⟨q_2, hc_2, hf⟩ := op_bind hf
  refine g_callVi (As := [.int p1]) (rest := []) (w2 := w5 cy h0 a0 s0) ⟨hx, hb, hml, hown, hts⟩ (c_X5_hasCut l D cy h0 a0 s0 _ fu p1 _ hc_2) (cwV 1 hts (gi_V ml_RX5_94 im_X5_hasCut se_X5_hasCut in_RX5 cd_X5_hasCut) rfl rfl rfl hdX5_hasCut ⟨Nat.le_of_ble_eq_true rfl, Nat.le_of_ble_eq_true rfl⟩) (va_recv hK hP (ci := 5) (q0 := 0) rfl rfl) rfl hl.1 rfl (Nat.le_of_ble_eq_true rfl) dX5_cutTakes_2 hK hP hD hS hA [0, 1, 2, 3, 4, 5, 6, 7, 8] [] [0, 1, 2, 3, 4, 5, 6, 7, 8] rfl rfl rfl rfl (by decide) rfl rfl (fun H locs hP hD hS => ?_)
  refine lv_if_eq (tgt := 32) hx hb dX5_cutTakes_5 (by decide) (fun c_5 => ?_) (fun c_5 => ?_)
  · have hf := op_pos c_5 hf
    refine lv_iconst (v := 0) hx hb dX5_cutTakes_32 (by decide) ?_
    rw [← Option.some.inj hf]
    exact g_zret hx hb hr hlk (show isB 0 = true by decide) hK hP hD hS dX5_cutTakes_33
  · have hf := op_neg c_5 hf
    refine lv_aload_n hx hb dX5_cutTakes_8 rfl (lv_at hl 0 rfl) ?_
    refine va_get (ci := 5) (v := .ref (a0 7)) (C := RX5) (T := TX5) (N := 13) hx hb hts (fun w h => List.mem_cons_of_mem _ (inX5 w h)) hown hK hP 0 rfl rfl 7 (by decide) hk_22 (fun _ h9 => h9) rfl dX5_cutTakes_9 ?_
    refine lv_iload_n hx hb dX5_cutTakes_12 rfl (lv_at hl 1 rfl) ?_
    obtain ⟨hg_13, hf⟩ := op_if hf
    refine va_iald (f := s0.2 7) hx hb hK hP 3 0 rfl rfl (inb_in hg_13) dX5_cutTakes_13 ?_
    refine lv_iload_n hx hb dX5_cutTakes_14 rfl (lv_at hl 2 rfl) ?_
    refine lv_icmp_gt (tgt := 32) hx hb dX5_cutTakes_15 (by decide) (fun c_15 => ?_) (fun c_15 => ?_)
    · have hf := op_pos c_15 hf
      refine lv_iconst (v := 0) hx hb dX5_cutTakes_32 (by decide) ?_
      rw [← Option.some.inj hf]
      exact g_zret hx hb hr hlk (show isB 0 = true by decide) hK hP hD hS dX5_cutTakes_33
    · have hf := op_neg c_15 hf
      refine lv_iload_n hx hb dX5_cutTakes_18 rfl (lv_at hl 2 rfl) ?_
      refine lv_aload_n hx hb dX5_cutTakes_19 rfl (lv_at hl 0 rfl) ?_
      refine va_get (ci := 5) (v := .ref (a0 8)) (C := RX5) (T := TX5) (N := 13) hx hb hts (fun w h => List.mem_cons_of_mem _ (inX5 w h)) hown hK hP 0 rfl rfl 8 (by decide) hk_25 (fun _ h9 => h9) rfl dX5_cutTakes_20 ?_
      refine lv_iload_n hx hb dX5_cutTakes_23 rfl (lv_at hl 1 rfl) ?_
      obtain ⟨hg_24, hf⟩ := op_if hf
      refine va_iald (f := s0.2 8) hx hb hK hP 4 0 rfl rfl (inb_in hg_24) dX5_cutTakes_24 ?_
      refine lv_icmp_ge (tgt := 32) hx hb dX5_cutTakes_25 (by decide) (fun c_25 => ?_) (fun c_25 => ?_)
      · have hf := op_pos c_25 hf
        refine lv_iconst (v := 0) hx hb dX5_cutTakes_32 (by decide) ?_
        rw [← Option.some.inj hf]
        exact g_zret hx hb hr hlk (show isB 0 = true by decide) hK hP hD hS dX5_cutTakes_33
      · have hf := op_neg c_25 hf
        refine lv_iconst (v := 1) hx hb dX5_cutTakes_28 (by decide) ?_
        refine lv_goto (tgt := 33) hx hb dX5_cutTakes_29 (by decide) ?_
        rw [← Option.some.inj hf]
        exact g_zret hx hb hr hlk (show isB 1 = true by decide) hK hP hD hS dX5_cutTakes_33
def f_X5_cutFirst (fu : Nat) (s0 : St)  (p1 : Int32) : Option (Int32) := (f_X5_hasCut fu s0 p1).bind (fun q_2 => if q_2 = 0 then (some 1000) else (if inb p1 8 = true then (some (s0.2 7 p1.toNatClampNeg)) else none))
theorem hdX5_cutFirst : yX5_cutFirst.cls = RX5 ∧ yX5_cutFirst.cls ≠ "java/lang/invoke/MethodHandle" ∧ yX5_cutFirst.cls ≠ "java/lang/invoke/VarHandle" ∧ (parseMethodDescriptor yX5_cutFirst.desc).map (fun d => d.parameters.length) = some 1 := by decide +kernel
set_option maxHeartbeats 4000000 in
set_option maxRecDepth 100000 in
theorem c_X5_cutFirst (l : Launch) (D : va_G) (cy : Nat → ClassId) (h0 : Nat) (a0 : Nat → Nat) (s0 : St) (sz fu : Nat) (p1 : Int32) (out : Int32) (hf : f_X5_cutFirst fu s0 p1 = some out) :
    Met l yX5_cutFirst (WS yX5_cutFirst cX5_cutFirst 2 (some .int)) ({ frames := 1, cells := 0, slots := 0, locals := 21 } : Room) (va_Pc [.ref h0, .int p1] (gP D cy sz (w5 cy h0 a0 s0))) ((fun A : Nat → Prop => gQi D cy A out (w5 cy h0 a0 s0)) (va_A (w5 cy h0 a0 s0) sz)) 0 0 (va_A (w5 cy h0 a0 s0) sz) := by
  refine g_met (cc := cX5_cutFirst) (maxL := 2) (ret := (some .int)) (fun A : Nat → Prop => gQi D cy A out (w5 cy h0 a0 s0)) (by decide +kernel) rfl (Nat.le_of_ble_eq_true rfl) ?_
  intro p e s m below meth c A C hA hK hP hD ls hl
  obtain ⟨hx, hb, hr, hml, hown, hts, hlk⟩ := id C
  have hown : s.vm.findClass RX5 = some m.cls := hown
  have hS : va_S A s.heap s.heap [] := va_S.rf
  have hl : lv_has ls 2 [(0, .ref h0), (1, .int p1)] := hl
  have hk_22 := hts _ (List.mem_cons_of_mem _ fl_RX5_22)
  unfold f_X5_cutFirst at hf
  refine lv_aload_n hx hb dX5_cutFirst_0 rfl (lv_at hl 0 rfl) ?_
  refine lv_iload_n hx hb dX5_cutFirst_1 rfl (lv_at hl 1 rfl) ?_
  obtain ⟨q_2, hc_2, hf⟩ := op_bind hf
  refine g_callVi (As := [.int p1]) (rest := []) (w2 := w5 cy h0 a0 s0) ⟨hx, hb, hml, hown, hts⟩ (c_X5_hasCut l D cy h0 a0 s0 _ fu p1 _ hc_2) (cwV 1 hts (gi_V ml_RX5_94 im_X5_hasCut se_X5_hasCut in_RX5 cd_X5_hasCut) rfl rfl rfl hdX5_hasCut ⟨Nat.le_of_ble_eq_true rfl, Nat.le_of_ble_eq_true rfl⟩) (va_recv hK hP (ci := 5) (q0 := 0) rfl rfl) rfl hl.1 rfl (Nat.le_of_ble_eq_true rfl) dX5_cutFirst_2 hK hP hD hS hA [0, 1, 2, 3, 4, 5, 6, 7, 8] [] [0, 1, 2, 3, 4, 5, 6, 7, 8] rfl rfl rfl rfl (by decide) rfl rfl (fun H locs hP hD hS => ?_)
  refine lv_if_eq (tgt := 17) hx hb dX5_cutFirst_5 (by decide) (fun c_5 => ?_) (fun c_5 => ?_)
  · have hf := op_pos c_5 hf
    refine lv_sipush (v := 1000) hx hb dX5_cutFirst_17 (by decide) ?_
    rw [← Option.some.inj hf]
    exact g_iret hx hb hr hlk hK hP hD hS dX5_cutFirst_20
  · have hf := op_neg c_5 hf
    refine lv_aload_n hx hb dX5_cutFirst_8 rfl (lv_at hl 0 rfl) ?_
    refine va_get (ci := 5) (v := .ref (a0 7)) (C := RX5) (T := TX5) (N := 13) hx hb hts (fun w h => List.mem_cons_of_mem _ (inX5 w h)) hown hK hP 0 rfl rfl 7 (by decide) hk_22 (fun _ h9 => h9) rfl dX5_cutFirst_9 ?_
    refine lv_iload_n hx hb dX5_cutFirst_12 rfl (lv_at hl 1 rfl) ?_
    obtain ⟨hg_13, hf⟩ := op_if hf
    refine va_iald (f := s0.2 7) hx hb hK hP 3 0 rfl rfl (inb_in hg_13) dX5_cutFirst_13 ?_
    refine lv_goto (tgt := 20) hx hb dX5_cutFirst_14 (by decide) ?_
    rw [← Option.some.inj hf]
    exact g_iret hx hb hr hlk hK hP hD hS dX5_cutFirst_20
def f_X5_cutBehind (fu : Nat) (s0 : St)  (p1 : Int32) : Option (Int32) := (f_X5_hasCut fu s0 p1).bind (fun q_2 => if q_2 = 0 then (some 0) else (if inb p1 8 = true then (some (s0.2 8 p1.toNatClampNeg)) else none))
theorem hdX5_cutBehind : yX5_cutBehind.cls = RX5 ∧ yX5_cutBehind.cls ≠ "java/lang/invoke/MethodHandle" ∧ yX5_cutBehind.cls ≠ "java/lang/invoke/VarHandle" ∧ (parseMethodDescriptor yX5_cutBehind.desc).map (fun d => d.parameters.length) = some 1 := by decide +kernel
set_option maxHeartbeats 4000000 in
set_option maxRecDepth 100000 in
theorem c_X5_cutBehind (l : Launch) (D : va_G) (cy : Nat → ClassId) (h0 : Nat) (a0 : Nat → Nat) (s0 : St) (sz fu : Nat) (p1 : Int32) (out : Int32) (hf : f_X5_cutBehind fu s0 p1 = some out) :
    Met l yX5_cutBehind (WS yX5_cutBehind cX5_cutBehind 2 (some .int)) ({ frames := 1, cells := 0, slots := 0, locals := 21 } : Room) (va_Pc [.ref h0, .int p1] (gP D cy sz (w5 cy h0 a0 s0))) ((fun A : Nat → Prop => gQi D cy A out (w5 cy h0 a0 s0)) (va_A (w5 cy h0 a0 s0) sz)) 0 0 (va_A (w5 cy h0 a0 s0) sz) := by
  refine g_met (cc := cX5_cutBehind) (maxL := 2) (ret := (some .int)) (fun A : Nat → Prop => gQi D cy A out (w5 cy h0 a0 s0)) (by decide +kernel) rfl (Nat.le_of_ble_eq_true rfl) ?_
  intro p e s m below meth c A C hA hK hP hD ls hl
  obtain ⟨hx, hb, hr, hml, hown, hts, hlk⟩ := id C
  have hown : s.vm.findClass RX5 = some m.cls := hown
  have hS : va_S A s.heap s.heap [] := va_S.rf
  have hl : lv_has ls 2 [(0, .ref h0), (1, .int p1)] := hl
  have hk_25 := hts _ (List.mem_cons_of_mem _ fl_RX5_25)
  unfold f_X5_cutBehind at hf
  refine lv_aload_n hx hb dX5_cutBehind_0 rfl (lv_at hl 0 rfl) ?_
  refine lv_iload_n hx hb dX5_cutBehind_1 rfl (lv_at hl 1 rfl) ?_
  obtain ⟨q_2, hc_2, hf⟩ := op_bind hf
  refine g_callVi (As := [.int p1]) (rest := []) (w2 := w5 cy h0 a0 s0) ⟨hx, hb, hml, hown, hts⟩ (c_X5_hasCut l D cy h0 a0 s0 _ fu p1 _ hc_2) (cwV 1 hts (gi_V ml_RX5_94 im_X5_hasCut se_X5_hasCut in_RX5 cd_X5_hasCut) rfl rfl rfl hdX5_hasCut ⟨Nat.le_of_ble_eq_true rfl, Nat.le_of_ble_eq_true rfl⟩) (va_recv hK hP (ci := 5) (q0 := 0) rfl rfl) rfl hl.1 rfl (Nat.le_of_ble_eq_true rfl) dX5_cutBehind_2 hK hP hD hS hA [0, 1, 2, 3, 4, 5, 6, 7, 8] [] [0, 1, 2, 3, 4, 5, 6, 7, 8] rfl rfl rfl rfl (by decide) rfl rfl (fun H locs hP hD hS => ?_)
  refine lv_if_eq (tgt := 17) hx hb dX5_cutBehind_5 (by decide) (fun c_5 => ?_) (fun c_5 => ?_)
  · have hf := op_pos c_5 hf
    refine lv_iconst (v := 0) hx hb dX5_cutBehind_17 (by decide) ?_
    rw [← Option.some.inj hf]
    exact g_iret hx hb hr hlk hK hP hD hS dX5_cutBehind_18
  · have hf := op_neg c_5 hf
    refine lv_aload_n hx hb dX5_cutBehind_8 rfl (lv_at hl 0 rfl) ?_
    refine va_get (ci := 5) (v := .ref (a0 8)) (C := RX5) (T := TX5) (N := 13) hx hb hts (fun w h => List.mem_cons_of_mem _ (inX5 w h)) hown hK hP 0 rfl rfl 8 (by decide) hk_25 (fun _ h9 => h9) rfl dX5_cutBehind_9 ?_
    refine lv_iload_n hx hb dX5_cutBehind_12 rfl (lv_at hl 1 rfl) ?_
    obtain ⟨hg_13, hf⟩ := op_if hf
    refine va_iald (f := s0.2 8) hx hb hK hP 4 0 rfl rfl (inb_in hg_13) dX5_cutBehind_13 ?_
    refine lv_goto (tgt := 18) hx hb dX5_cutBehind_14 (by decide) ?_
    rw [← Option.some.inj hf]
    exact g_iret hx hb hr hlk hK hP hD hS dX5_cutBehind_18
