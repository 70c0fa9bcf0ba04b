def f_X9_sign (fu : Nat) (s0 : St) (s1 : St) (s2 : St) (s3 : St) (s5 : FSt) (L6 : List Nat) (c6 : Nat → Nat × (Nat → Int32))  (p1 : Int32) (p2 : Int32) (p3 : Int32) (p4 : Int32) (p5 : Int32) : Option (Int32) := (f_X0_wordingOf fu s3 s1 p1 p2).bind (fun q_6 => if ltb q_6 161 = true then (if memb (s5.2 q_6) L6 = true then ((f_X7_signAt fu (s5.1 q_6) ((c6 (s5.2 q_6)).1) ((c6 (s5.2 q_6)).2) p3 p4 p5).bind (fun q_14 => some q_14)) else none) else none)
theorem hdX9_sign : yX9_sign.cls = RX9 ∧ yX9_sign.cls ≠ "java/lang/invoke/MethodHandle" ∧ yX9_sign.cls ≠ "java/lang/invoke/VarHandle" ∧ (parseMethodDescriptor yX9_sign.desc).map (fun d => d.parameters.length) = some 5 := by decide +kernel
set_option maxHeartbeats 4000000 in
set_option maxRecDepth 100000 in
theorem c_X9_sign (l : Launch) (D : va_G) (cy : Nat → ClassId) (h0 : Nat) (r0_0 : Nat) (r0_1 : Nat) (r0_3 : Nat) (r0_4 : Nat) (s0 : St) (h1 : Nat) (a1 : Nat → Nat) (s1 : St) (h2 : Nat) (a2 : Nat → Nat) (s2 : St) (h3 : Nat) (r3_2 : Nat) (r3_4 : Nat) (s3 : St) (h4 : Nat)  (a5 : Nat → Nat) (y5 : Nat → Nat) (s5 : FSt)  (L6 : List Nat) (c6 : Nat → Nat × (Nat → Int32)) (sz fu : Nat) (p1 : Int32) (p2 : Int32) (p3 : Int32) (p4 : Int32) (p5 : Int32) (out : Int32) (hf : f_X9_sign fu s0 s1 s2 s3 s5 L6 c6 p1 p2 p3 p4 p5 = some out) :
    Met l yX9_sign (WS yX9_sign cX9_sign 6 (some .int)) ({ frames := 3, cells := 0, slots := 0, locals := 67 } : Room) (va_Pc [.ref h0, .int p1, .int p2, .int p3, .int p4, .int p5] (gP D cy sz (((w9 cy h0 r0_0 r0_1 h1 r0_3 r0_4 h3 h2 s0) ++ (w5 cy h1 a1 s1) ++ (w2 cy h2 h1 a2 s2) ++ (w0 cy h3 h4 (a5 160) r3_2 h1 r3_4 s3) ++ (wWa cy h4 a5)) ++ ((wF cy a5 y5 s5) ++ (wK cy L6 c6))))) ((fun A : Nat → Prop => gQi D cy A out (((w9 cy h0 r0_0 r0_1 h1 r0_3 r0_4 h3 h2 s0) ++ (w5 cy h1 a1 s1) ++ (w2 cy h2 h1 a2 s2) ++ (w0 cy h3 h4 (a5 160) r3_2 h1 r3_4 s3) ++ (wWa cy h4 a5)) ++ ((wF cy a5 y5 s5) ++ (wK cy L6 c6)))) (va_A (((w9 cy h0 r0_0 r0_1 h1 r0_3 r0_4 h3 h2 s0) ++ (w5 cy h1 a1 s1) ++ (w2 cy h2 h1 a2 s2) ++ (w0 cy h3 h4 (a5 160) r3_2 h1 r3_4 s3) ++ (wWa cy h4 a5)) ++ ((wF cy a5 y5 s5) ++ (wK cy L6 c6))) sz)) 0 0 (va_A (((w9 cy h0 r0_0 r0_1 h1 r0_3 r0_4 h3 h2 s0) ++ (w5 cy h1 a1 s1) ++ (w2 cy h2 h1 a2 s2) ++ (w0 cy h3 h4 (a5 160) r3_2 h1 r3_4 s3) ++ (wWa cy h4 a5)) ++ ((wF cy a5 y5 s5) ++ (wK cy L6 c6))) sz) := by
  refine g_met (cc := cX9_sign) (maxL := 6) (ret := (some .int)) (fun A : Nat → Prop => gQi D cy A out (((w9 cy h0 r0_0 r0_1 h1 r0_3 r0_4 h3 h2 s0) ++ (w5 cy h1 a1 s1) ++ (w2 cy h2 h1 a2 s2) ++ (w0 cy h3 h4 (a5 160) r3_2 h1 r3_4 s3) ++ (wWa cy h4 a5)) ++ ((wF cy a5 y5 s5) ++ (wK cy L6 c6)))) (by decide +kernel) rfl (Nat.le_of_ble_eq_true rfl) ?_
  intro p e s m below meth c A C hA hK hP hD ls hl
  obtain ⟨hx, hb, hr, hml, hown, hts, hlk⟩ := id C
  have hown : s.vm.findClass RX9 = some m.cls := hown
  have hS : va_S A s.heap s.heap [] := va_S.rf
  have hl : lv_has ls 6 [(0, .ref h0), (1, .int p1), (2, .int p2), (3, .int p3), (4, .int p4), (5, .int p5)] := hl
  have hk_45 := hts _ (List.mem_cons_of_mem _ fl_RX9_45)
  unfold f_X9_sign at hf
  refine lv_aload_n hx hb dX9_sign_0 rfl (lv_at hl 0 rfl) ?_
  refine va_get (ci := 8) (v := .ref h3) (C := RX9) (T := TX9) (N := 7) hx hb hts (fun w h => List.mem_cons_of_mem _ (inX9 w h)) hown hK hP 0 rfl rfl 5 (by decide) hk_45 (fun _ h9 => h9) rfl dX9_sign_1 ?_
  refine lv_iload_n hx hb dX9_sign_4 rfl (lv_at hl 1 rfl) ?_
  refine lv_iload_n hx hb dX9_sign_5 rfl (lv_at hl 2 rfl) ?_
  obtain ⟨q_6, hc_6, hf⟩ := op_bind hf
  refine g_callVrT (As := [.int p1, .int p2]) (rest := []) (w2 := (w9 cy h0 r0_0 r0_1 h1 r0_3 r0_4 h3 h2 s0) ++ (w5 cy h1 a1 s1) ++ (w2 cy h2 h1 a2 s2) ++ (w0 cy h3 h4 (a5 160) r3_2 h1 r3_4 s3) ++ (wWa cy h4 a5)) ⟨hx, hb, hml, hown, hts⟩ (c_X0_wordingOf l D cy h3 r3_2 r3_4 s3 h4 a5 h1 a1 s1 _ fu p1 p2 _ hc_6) (cwV 2 hts (gi_V ml_RX9_187 im_X0_wordingOf se_X0_wordingOf in_RX0 cd_X0_wordingOf) rfl rfl rfl hdX0_wordingOf ⟨Nat.le_of_ble_eq_true rfl, Nat.le_of_ble_eq_true rfl⟩) (va_recv hK hP (ci := 0) (q0 := 12) rfl rfl) rfl hl.1 rfl (Nat.le_of_ble_eq_true rfl) dX9_sign_6 hK hP hD hS hA [12, 13, 1, 2, 3, 4, 5, 6, 7, 8, 9] [0, 10, 11] [0, 5, 6, 7, 8, 9, 10, 11, 12, 13, 1, 2, 3, 4] rfl rfl rfl rfl (by decide) rfl rfl (fun H locs hP hD hS => ?_)
  refine lv_iload_n hx hb dX9_sign_9 rfl (lv_at hl 3 rfl) ?_
  refine lv_iload hx hb dX9_sign_10 (lv_at hl 4 rfl) ?_
  refine lv_iload hx hb dX9_sign_12 (lv_at hl 5 rfl) ?_
  obtain ⟨hj_14, hf⟩ := op_if hf
  obtain ⟨hm_14, hf⟩ := op_if hf
  obtain ⟨q_14, hc_14, hf⟩ := op_bind hf
  have hP := va_P_perm (foc7V cy a5 y5 s5 L6 c6 ((w9 cy h0 r0_0 r0_1 h1 r0_3 r0_4 h3 h2 s0) ++ (w5 cy h1 a1 s1) ++ (w2 cy h2 h1 a2 s2) ++ (w0 cy h3 h4 (a5 160) r3_2 h1 r3_4 s3) ++ (wWa cy h4 a5)) (ltb_lt hj_14) (memb_in hm_14)) hP
  have hD := va_D_perm (foc7V cy a5 y5 s5 L6 c6 ((w9 cy h0 r0_0 r0_1 h1 r0_3 r0_4 h3 h2 s0) ++ (w5 cy h1 a1 s1) ++ (w2 cy h2 h1 a2 s2) ++ (w0 cy h3 h4 (a5 160) r3_2 h1 r3_4 s3) ++ (wWa cy h4 a5)) (ltb_lt hj_14) (memb_in hm_14)) hD
  refine g_callViT (As := [.int p3, .int p4, .int p5]) (rest := []) (w2 := (w9 cy h0 r0_0 r0_1 h1 r0_3 r0_4 h3 h2 s0) ++ (w5 cy h1 a1 s1) ++ (w2 cy h2 h1 a2 s2) ++ (w0 cy h3 h4 (a5 160) r3_2 h1 r3_4 s3) ++ (wWa cy h4 a5) ++ (w7 cy (a5 q_6) (s5.2 q_6) (fun _ => y5 q_6) (s5.1 q_6)) ++ (wV cy (s5.2 q_6) ((c6 (s5.2 q_6)).1) ((c6 (s5.2 q_6)).2))) ⟨hx, hb, hml, hown, hts⟩ (c_X7_signAt l D cy (a5 q_6) (fun _ => y5 q_6) (s5.1 q_6) (s5.2 q_6) ((c6 (s5.2 q_6)).1) ((c6 (s5.2 q_6)).2) _ fu p3 p4 p5 _ hc_14) (cwV 3 hts (gi_V ml_RX9_201 im_X7_signAt se_X7_signAt in_RX7 cd_X7_signAt) rfl rfl rfl hdX7_signAt ⟨Nat.le_of_ble_eq_true rfl, Nat.le_of_ble_eq_true rfl⟩) (va_recv hK hP (ci := 7) (q0 := 14) rfl rfl) rfl hl.1 rfl (Nat.le_of_ble_eq_true rfl) dX9_sign_14 hK hP hD hS hA [14, 15, 16] [0, 1, 2, 3, 4, 5, 6, 7, 8, 9, 10, 11, 12, 13] [0, 1, 2, 3, 4, 5, 6, 7, 8, 9, 10, 11, 12, 13, 14, 15, 16] rfl rfl rfl rfl (by decide) rfl rfl (fun H locs hP hD hS => ?_)
  have hP := va_P_perm (foc7V cy a5 y5 s5 L6 c6 ((w9 cy h0 r0_0 r0_1 h1 r0_3 r0_4 h3 h2 s0) ++ (w5 cy h1 a1 s1) ++ (w2 cy h2 h1 a2 s2) ++ (w0 cy h3 h4 (a5 160) r3_2 h1 r3_4 s3) ++ (wWa cy h4 a5)) (ltb_lt hj_14) (memb_in hm_14)).symm hP
  have hD := va_D_perm (foc7V cy a5 y5 s5 L6 c6 ((w9 cy h0 r0_0 r0_1 h1 r0_3 r0_4 h3 h2 s0) ++ (w5 cy h1 a1 s1) ++ (w2 cy h2 h1 a2 s2) ++ (w0 cy h3 h4 (a5 160) r3_2 h1 r3_4 s3) ++ (wWa cy h4 a5)) (ltb_lt hj_14) (memb_in hm_14)).symm hD
  rw [← Option.some.inj hf]
  exact g_iret hx hb hr hlk hK hP hD hS dX9_sign_17
def f_X9_shownStep (fu : Nat) (s0 : St) (s1 : St) (s2 : St) (s3 : St) (s5 : FSt) (L6 : List Nat) (c6 : Nat → Nat × (Nat → Int32))  (p1 : Int32) : Option (Int32) := (f_X5_barOf fu s1 p1).bind (fun q_9 => (f_X2_countedBars fu s2 s1 q_9 (s2.1 0)).bind (fun q_19 => (f_X9_countedBarsOf fu s0 s1 s2 p1).bind (fun q_31 => (f_X0_stepBehind fu s3 s1 s5 L6 c6 p1 q_19 q_31).bind (fun q_34 => some q_34))))
theorem hdX9_shownStep : yX9_shownStep.cls = RX9 ∧ yX9_shownStep.cls ≠ "java/lang/invoke/MethodHandle" ∧ yX9_shownStep.cls ≠ "java/lang/invoke/VarHandle" ∧ (parseMethodDescriptor yX9_shownStep.desc).map (fun d => d.parameters.length) = some 1 := by decide +kernel
set_option maxHeartbeats 4000000 in
set_option maxRecDepth 100000 in
theorem c_X9_shownStep (l : Launch) (D : va_G) (cy : Nat → ClassId) (adK adV : Nat → Nat) (h0 : Nat) (r0_0 : Nat) (r0_1 : Nat) (r0_3 : Nat) (r0_4 : Nat) (s0 : St) (h1 : Nat) (a1 : Nat → Nat) (s1 : St) (h2 : Nat) (a2 : Nat → Nat) (s2 : St) (h3 : Nat) (r3_2 : Nat) (r3_4 : Nat) (s3 : St) (h4 : Nat)  (a5 : Nat → Nat) (y5 : Nat → Nat) (s5 : FSt)  (L6 : List Nat) (c6 : Nat → Nat × (Nat → Int32)) (sz fu : Nat) (p1 : Int32) (out : Int32) (hf : f_X9_shownStep fu s0 s1 s2 s3 s5 L6 c6 p1 = some out) :
    Met l yX9_shownStep (WS yX9_shownStep cX9_shownStep 3 (some .int)) ({ frames := 5, cells := 0, slots := 0, locals := 115 } : Room) (va_Pc [.ref h0, .int p1] (gPE D cy adK adV sz (((w9 cy h0 r0_0 r0_1 h1 r0_3 r0_4 h3 h2 s0) ++ (w5 cy h1 a1 s1) ++ (w2 cy h2 h1 a2 s2) ++ (w0 cy h3 h4 (a5 160) r3_2 h1 r3_4 s3) ++ (wWa cy h4 a5)) ++ ((wF cy a5 y5 s5) ++ (wK cy L6 c6))))) ((fun A : Nat → Prop => gQi D cy A out (((w9 cy h0 r0_0 r0_1 h1 r0_3 r0_4 h3 h2 s0) ++ (w5 cy h1 a1 s1) ++ (w2 cy h2 h1 a2 s2) ++ (w0 cy h3 h4 (a5 160) r3_2 h1 r3_4 s3) ++ (wWa cy h4 a5)) ++ ((wF cy a5 y5 s5) ++ (wK cy L6 c6)))) (va_A (((w9 cy h0 r0_0 r0_1 h1 r0_3 r0_4 h3 h2 s0) ++ (w5 cy h1 a1 s1) ++ (w2 cy h2 h1 a2 s2) ++ (w0 cy h3 h4 (a5 160) r3_2 h1 r3_4 s3) ++ (wWa cy h4 a5)) ++ ((wF cy a5 y5 s5) ++ (wK cy L6 c6))) sz)) 0 0 (va_A (((w9 cy h0 r0_0 r0_1 h1 r0_3 r0_4 h3 h2 s0) ++ (w5 cy h1 a1 s1) ++ (w2 cy h2 h1 a2 s2) ++ (w0 cy h3 h4 (a5 160) r3_2 h1 r3_4 s3) ++ (wWa cy h4 a5)) ++ ((wF cy a5 y5 s5) ++ (wK cy L6 c6))) sz) := by
  refine g_metE (cc := cX9_shownStep) (maxL := 3) (ret := (some .int)) (fun A : Nat → Prop => gQi D cy A out (((w9 cy h0 r0_0 r0_1 h1 r0_3 r0_4 h3 h2 s0) ++ (w5 cy h1 a1 s1) ++ (w2 cy h2 h1 a2 s2) ++ (w0 cy h3 h4 (a5 160) r3_2 h1 r3_4 s3) ++ (wWa cy h4 a5)) ++ ((wF cy a5 y5 s5) ++ (wK cy L6 c6)))) (by decide +kernel) rfl (Nat.le_of_ble_eq_true rfl) ?_
  intro p e s m below meth c A C hA hE hK hP hD ls hl
  obtain ⟨hx, hb, hr, hml, hown, hts, hlk⟩ := id C
  have hown : s.vm.findClass RX9 = some m.cls := hown
  have hS : va_S A s.heap s.heap [] := va_S.rf
  have hl : lv_has ls 3 [(0, .ref h0), (1, .int p1)] := hl
  have hk_54 := hts _ (List.mem_cons_of_mem _ fl_RX9_54)
  have hk_22 := hts _ (List.mem_cons_of_mem _ fl_RX9_22)
  have hk_150 := hts _ (List.mem_cons_of_mem _ fl_RX9_150)
  have hk_45 := hts _ (List.mem_cons_of_mem _ fl_RX9_45)
  unfold f_X9_shownStep at hf
  refine lv_aload_n hx hb dX9_shownStep_0 rfl (lv_at hl 0 rfl) ?_
  refine va_get (ci := 8) (v := .ref h2) (C := RX9) (T := TX9) (N := 7) hx hb hts (fun w h => List.mem_cons_of_mem _ (inX9 w h)) hown hK hP 0 rfl rfl 6 (by decide) hk_54 (fun _ h9 => h9) rfl dX9_shownStep_1 ?_
  refine lv_aload_n hx hb dX9_shownStep_4 rfl (lv_at hl 0 rfl) ?_
  refine va_get (ci := 8) (v := .ref h1) (C := RX9) (T := TX9) (N := 7) hx hb hts (fun w h => List.mem_cons_of_mem _ (inX9 w h)) hown hK hP 0 rfl rfl 2 (by decide) hk_22 (fun _ h9 => h9) rfl dX9_shownStep_5 ?_
  refine lv_iload_n hx hb dX9_shownStep_8 rfl (lv_at hl 1 rfl) ?_
  obtain ⟨q_9, hc_9, hf⟩ := op_bind hf
  refine g_callViT (As := [.int p1]) (rest := [.ref h2]) (w2 := (w9 cy h0 r0_0 r0_1 h1 r0_3 r0_4 h3 h2 s0) ++ (w5 cy h1 a1 s1) ++ (w2 cy h2 h1 a2 s2) ++ (w0 cy h3 h4 (a5 160) r3_2 h1 r3_4 s3) ++ (wWa cy h4 a5)) ⟨hx, hb, hml, hown, hts⟩ (c_X5_barOf l D cy h1 a1 s1 _ fu p1 _ hc_9) (cwV 1 hts (gi_V ml_RX9_163 im_X5_barOf se_X5_barOf in_RX5 cd_X5_barOf) rfl rfl rfl hdX5_barOf ⟨Nat.le_of_ble_eq_true rfl, Nat.le_of_ble_eq_true rfl⟩) (va_recv hK hP (ci := 5) (q0 := 1) rfl rfl) rfl hl.1 rfl (Nat.le_of_ble_eq_true rfl) dX9_shownStep_9 hK hP hD hS hA [1, 2, 3, 4, 5, 6, 7, 8, 9] [0, 10, 11, 12, 13] [0, 5, 6, 7, 8, 9, 10, 11, 12, 13, 1, 2, 3, 4] rfl rfl rfl rfl (by decide) rfl rfl (fun H locs hP hD hS => ?_)
  refine lv_aload_n hx hb dX9_shownStep_12 rfl (lv_at hl 0 rfl) ?_
  refine va_get (ci := 8) (v := .ref h2) (C := RX9) (T := TX9) (N := 7) hx hb hts (fun w h => List.mem_cons_of_mem _ (inX9 w h)) hown hK hP 0 rfl rfl 6 (by decide) hk_54 (fun _ h9 => h9) rfl dX9_shownStep_13 ?_
  refine va_get (ci := 2) (v := .int (s2.1 0)) (C := RX2) (T := TX2) (N := 6) hx hb hts (fun w h => List.mem_cons_of_mem _ (inX2 w h)) hown hK hP 10 rfl rfl 0 (by decide) hk_150 (fun _ h9 => h9) rfl dX9_shownStep_16 ?_
  obtain ⟨q_19, hc_19, hf⟩ := op_bind hf
  refine g_callViT (As := [.int q_9, .int (s2.1 0)]) (rest := []) (w2 := (w9 cy h0 r0_0 r0_1 h1 r0_3 r0_4 h3 h2 s0) ++ (w5 cy h1 a1 s1) ++ (w2 cy h2 h1 a2 s2) ++ (w0 cy h3 h4 (a5 160) r3_2 h1 r3_4 s3) ++ (wWa cy h4 a5)) ⟨hx, hb, hml, hown, hts⟩ (c_X2_countedBars l D cy h2 a2 s2 h1 a1 s1 _ fu q_9 (s2.1 0) _ hc_19) (cwV 2 hts (gi_V ml_RX9_233 im_X2_countedBars se_X2_countedBars in_RX2 cd_X2_countedBars) rfl rfl rfl hdX2_countedBars ⟨Nat.le_of_ble_eq_true rfl, Nat.le_of_ble_eq_true rfl⟩) (va_recv hK hP (ci := 2) (q0 := 10) rfl rfl) rfl hl.1 rfl (Nat.le_of_ble_eq_true rfl) dX9_shownStep_19 hK hP hD hS hA [10, 11, 1, 2, 3, 4, 5, 6, 7, 8, 9] [0, 12, 13] [0, 5, 6, 7, 8, 9, 10, 11, 12, 13, 3, 4, 1, 2] rfl rfl rfl rfl (by decide) rfl rfl (fun H locs hP hD hS => ?_)
  refine lv_istore_n (lv' := [(2, .int q_19), (0, .ref h0), (1, .int p1)]) hx hb dX9_shownStep_22 rfl hl (by decide) rfl (fun ls hl => ?_)
  refine lv_aload_n hx hb dX9_shownStep_23 rfl (lv_at hl 1 rfl) ?_
  refine va_get (ci := 8) (v := .ref h3) (C := RX9) (T := TX9) (N := 7) hx hb hts (fun w h => List.mem_cons_of_mem _ (inX9 w h)) hown hK hP 0 rfl rfl 5 (by decide) hk_45 (fun _ h9 => h9) rfl dX9_shownStep_24 ?_
  refine lv_iload_n hx hb dX9_shownStep_27 rfl (lv_at hl 2 rfl) ?_
  refine lv_iload_n hx hb dX9_shownStep_28 rfl (lv_at hl 0 rfl) ?_
  refine lv_aload_n hx hb dX9_shownStep_29 rfl (lv_at hl 1 rfl) ?_
  refine lv_iload_n hx hb dX9_shownStep_30 rfl (lv_at hl 2 rfl) ?_
  obtain ⟨q_31, hc_31, hf⟩ := op_bind hf
  refine g_callViT (As := [.int p1]) (rest := [.int q_19, .int p1, .ref h3]) (w2 := (w9 cy h0 r0_0 r0_1 h1 r0_3 r0_4 h3 h2 s0) ++ (w5 cy h1 a1 s1) ++ (w2 cy h2 h1 a2 s2) ++ (w0 cy h3 h4 (a5 160) r3_2 h1 r3_4 s3) ++ (wWa cy h4 a5)) ⟨hx, hb, hml, hown, hts⟩ (c_X9_countedBarsOf l D cy h0 r0_0 r0_1 r0_3 r0_4 h3 s0 h1 a1 s1 h2 a2 s2 _ fu p1 _ hc_31) (cwV 1 hts (gi_V ml_RX9_169 im_X9_countedBarsOf se_X9_countedBarsOf in_RX9 cd_X9_countedBarsOf) rfl rfl rfl hdX9_countedBarsOf ⟨Nat.le_of_ble_eq_true rfl, Nat.le_of_ble_eq_true rfl⟩) (va_recv hK hP (ci := 8) (q0 := 0) rfl rfl) rfl hl.1 rfl (Nat.le_of_ble_eq_true rfl) dX9_shownStep_31 hK hP hD hS hA [0, 1, 2, 3, 4, 5, 6, 7, 8, 9, 10, 11] [12, 13] [2, 3, 4, 5, 6, 7, 8, 9, 10, 11, 12, 13, 0, 1] rfl rfl rfl rfl (by decide) rfl rfl (fun H locs hP hD hS => ?_)
  obtain ⟨q_34, hc_34, hf⟩ := op_bind hf
  refine g_callViUE (As := [.int p1, .int q_19, .int q_31]) (rest := []) (w2 := (w9 cy h0 r0_0 r0_1 h1 r0_3 r0_4 h3 h2 s0) ++ (w5 cy h1 a1 s1) ++ (w2 cy h2 h1 a2 s2) ++ (w0 cy h3 h4 (a5 160) r3_2 h1 r3_4 s3) ++ (wWa cy h4 a5)) (tl1 := (wF cy a5 y5 s5) ++ (wK cy L6 c6)) ⟨hx, hb, hml, hown, hts⟩ (c_X0_stepBehind l D cy adK adV h3 r3_2 r3_4 s3 h4 h1 a1 s1 a5 y5 s5 L6 c6 _ fu p1 q_19 q_31 _ hc_34) (cwV 3 hts (gi_V ml_RX9_236 im_X0_stepBehind se_X0_stepBehind in_RX0 cd_X0_stepBehind) rfl rfl rfl hdX0_stepBehind ⟨Nat.le_of_ble_eq_true rfl, Nat.le_of_ble_eq_true rfl⟩) (va_recv hK hP (ci := 0) (q0 := 12) rfl rfl) rfl hl.1 rfl (Nat.le_of_ble_eq_true rfl) dX9_shownStep_34 hE hK hP hD hS hA [12, 13, 1, 2, 3, 4, 5, 6, 7, 8, 9] [0, 10, 11] [0, 5, 6, 7, 8, 9, 10, 11, 12, 13, 1, 2, 3, 4] rfl rfl rfl rfl (by decide) rfl rfl (fun H locs hP hD hS => ?_)
  rw [← Option.some.inj hf]
  exact g_iret hx hb hr hlk hK hP hD hS dX9_shownStep_37
def f_X9_shownPage (fu : Nat) (s0 : St) (s1 : St) (s2 : St) (s3 : St) (s5 : FSt) (L6 : List Nat) (c6 : Nat → Nat × (Nat → Int32))  (p1 : Int32) (p2 : Int32) (p3 : Int32) : Option (Int32) := (f_X5_hasTongue fu s1 p2).bind (fun q_5 => if q_5 = 0 then (some (-1)) else ((f_X0_pageInStep fu s3 s1 s5 L6 c6 p1 p2 p3).bind (fun q_18 => some q_18)))
theorem hdX9_shownPage : yX9_shownPage.cls = RX9 ∧ yX9_shownPage.cls ≠ "java/lang/invoke/MethodHandle" ∧ yX9_shownPage.cls ≠ "java/lang/invoke/VarHandle" ∧ (parseMethodDescriptor yX9_shownPage.desc).map (fun d => d.parameters.length) = some 3 := by decide +kernel
set_option maxHeartbeats 4000000 in
set_option maxRecDepth 100000 in
theorem c_X9_shownPage (l : Launch) (D : va_G) (cy : Nat → ClassId) (adK adV : Nat → Nat) (h0 : Nat) (r0_0 : Nat) (r0_1 : Nat) (r0_3 : Nat) (r0_4 : Nat) (s0 : St) (h1 : Nat) (a1 : Nat → Nat) (s1 : St) (h2 : Nat) (a2 : Nat → Nat) (s2 : St) (h3 : Nat) (r3_2 : Nat) (r3_4 : Nat) (s3 : St) (h4 : Nat)  (a5 : Nat → Nat) (y5 : Nat → Nat) (s5 : FSt)  (L6 : List Nat) (c6 : Nat → Nat × (Nat → Int32)) (sz fu : Nat) (p1 : Int32) (p2 : Int32) (p3 : Int32) (out : Int32) (hf : f_X9_shownPage fu s0 s1 s2 s3 s5 L6 c6 p1 p2 p3 = some out) :
    Met l yX9_shownPage (WS yX9_shownPage cX9_shownPage 4 (some .int)) ({ frames := 5, cells := 0, slots := 0, locals := 111 } : Room) (va_Pc [.ref h0, .int p1, .int p2, .int p3] (gPE D cy adK adV sz (((w9 cy h0 r0_0 r0_1 h1 r0_3 r0_4 h3 h2 s0) ++ (w5 cy h1 a1 s1) ++ (w2 cy h2 h1 a2 s2) ++ (w0 cy h3 h4 (a5 160) r3_2 h1 r3_4 s3) ++ (wWa cy h4 a5)) ++ ((wF cy a5 y5 s5) ++ (wK cy L6 c6))))) ((fun A : Nat → Prop => gQi D cy A out (((w9 cy h0 r0_0 r0_1 h1 r0_3 r0_4 h3 h2 s0) ++ (w5 cy h1 a1 s1) ++ (w2 cy h2 h1 a2 s2) ++ (w0 cy h3 h4 (a5 160) r3_2 h1 r3_4 s3) ++ (wWa cy h4 a5)) ++ ((wF cy a5 y5 s5) ++ (wK cy L6 c6)))) (va_A (((w9 cy h0 r0_0 r0_1 h1 r0_3 r0_4 h3 h2 s0) ++ (w5 cy h1 a1 s1) ++ (w2 cy h2 h1 a2 s2) ++ (w0 cy h3 h4 (a5 160) r3_2 h1 r3_4 s3) ++ (wWa cy h4 a5)) ++ ((wF cy a5 y5 s5) ++ (wK cy L6 c6))) sz)) 0 0 (va_A (((w9 cy h0 r0_0 r0_1 h1 r0_3 r0_4 h3 h2 s0) ++ (w5 cy h1 a1 s1) ++ (w2 cy h2 h1 a2 s2) ++ (w0 cy h3 h4 (a5 160) r3_2 h1 r3_4 s3) ++ (wWa cy h4 a5)) ++ ((wF cy a5 y5 s5) ++ (wK cy L6 c6))) sz) := by
  refine g_metE (cc := cX9_shownPage) (maxL := 4) (ret := (some .int)) (fun A : Nat → Prop => gQi D cy A out (((w9 cy h0 r0_0 r0_1 h1 r0_3 r0_4 h3 h2 s0) ++ (w5 cy h1 a1 s1) ++ (w2 cy h2 h1 a2 s2) ++ (w0 cy h3 h4 (a5 160) r3_2 h1 r3_4 s3) ++ (wWa cy h4 a5)) ++ ((wF cy a5 y5 s5) ++ (wK cy L6 c6)))) (by decide +kernel) rfl (Nat.le_of_ble_eq_true rfl) ?_
  intro p e s m below meth c A C hA hE hK hP hD ls hl
  obtain ⟨hx, hb, hr, hml, hown, hts, hlk⟩ := id C
  have hown : s.vm.findClass RX9 = some m.cls := hown
  have hS : va_S A s.heap s.heap [] := va_S.rf
  have hl : lv_has ls 4 [(0, .ref h0), (1, .int p1), (2, .int p2), (3, .int p3)] := hl
  have hk_22 := hts _ (List.mem_cons_of_mem _ fl_RX9_22)
  have hk_45 := hts _ (List.mem_cons_of_mem _ fl_RX9_45)
  unfold f_X9_shownPage at hf
  refine lv_aload_n hx hb dX9_shownPage_0 rfl (lv_at hl 0 rfl) ?_
  refine va_get (ci := 8) (v := .ref h1) (C := RX9) (T := TX9) (N := 7) hx hb hts (fun w h => List.mem_cons_of_mem _ (inX9 w h)) hown hK hP 0 rfl rfl 2 (by decide) hk_22 (fun _ h9 => h9) rfl dX9_shownPage_1 ?_
  refine lv_iload_n hx hb dX9_shownPage_4 rfl (lv_at hl 2 rfl) ?_
  obtain ⟨q_5, hc_5, hf⟩ := op_bind hf
  refine g_callViT (As := [.int p2]) (rest := []) (w2 := (w9 cy h0 r0_0 r0_1 h1 r0_3 r0_4 h3 h2 s0) ++ (w5 cy h1 a1 s1) ++ (w2 cy h2 h1 a2 s2) ++ (w0 cy h3 h4 (a5 160) r3_2 h1 r3_4 s3) ++ (wWa cy h4 a5)) ⟨hx, hb, hml, hown, hts⟩ (c_X5_hasTongue l D cy h1 a1 s1 _ fu p2 _ hc_5) (cwV 1 hts (gi_V ml_RX9_112 im_X5_hasTongue se_X5_hasTongue in_RX5 cd_X5_hasTongue) rfl rfl rfl hdX5_hasTongue ⟨Nat.le_of_ble_eq_true rfl, Nat.le_of_ble_eq_true rfl⟩) (va_recv hK hP (ci := 5) (q0 := 1) rfl rfl) rfl hl.1 rfl (Nat.le_of_ble_eq_true rfl) dX9_shownPage_5 hK hP hD hS hA [1, 2, 3, 4, 5, 6, 7, 8, 9] [0, 10, 11, 12, 13] [0, 5, 6, 7, 8, 9, 10, 11, 12, 13, 1, 2, 3, 4] rfl rfl rfl rfl (by decide) rfl rfl (fun H locs hP hD hS => ?_)
  refine lv_if_eq (tgt := 24) hx hb dX9_shownPage_8 (by decide) (fun c_8 => ?_) (fun c_8 => ?_)
  · have hf := op_pos c_8 hf
    refine lv_iconst (v := (-1)) hx hb dX9_shownPage_24 (by decide) ?_
    rw [← Option.some.inj hf]
    exact g_iret hx hb hr hlk hK hP hD hS dX9_shownPage_25
  · have hf := op_neg c_8 hf
    refine lv_aload_n hx hb dX9_shownPage_11 rfl (lv_at hl 0 rfl) ?_
    refine va_get (ci := 8) (v := .ref h3) (C := RX9) (T := TX9) (N := 7) hx hb hts (fun w h => List.mem_cons_of_mem _ (inX9 w h)) hown hK hP 0 rfl rfl 5 (by decide) hk_45 (fun _ h9 => h9) rfl dX9_shownPage_12 ?_
    refine lv_iload_n hx hb dX9_shownPage_15 rfl (lv_at hl 1 rfl) ?_
    refine lv_iload_n hx hb dX9_shownPage_16 rfl (lv_at hl 2 rfl) ?_
    refine lv_iload_n hx hb dX9_shownPage_17 rfl (lv_at hl 3 rfl) ?_
    obtain ⟨q_18, hc_18, hf⟩ := op_bind hf
    refine g_callViUE (As := [.int p1, .int p2, .int p3]) (rest := []) (w2 := (w9 cy h0 r0_0 r0_1 h1 r0_3 r0_4 h3 h2 s0) ++ (w5 cy h1 a1 s1) ++ (w2 cy h2 h1 a2 s2) ++ (w0 cy h3 h4 (a5 160) r3_2 h1 r3_4 s3) ++ (wWa cy h4 a5)) (tl1 := (wF cy a5 y5 s5) ++ (wK cy L6 c6)) ⟨hx, hb, hml, hown, hts⟩ (c_X0_pageInStep l D cy adK adV h3 r3_2 r3_4 s3 h4 h1 a1 s1 a5 y5 s5 L6 c6 _ fu p1 p2 p3 _ hc_18) (cwV 3 hts (gi_V ml_RX9_239 im_X0_pageInStep se_X0_pageInStep in_RX0 cd_X0_pageInStep) rfl rfl rfl hdX0_pageInStep ⟨Nat.le_of_ble_eq_true rfl, Nat.le_of_ble_eq_true rfl⟩) (va_recv hK hP (ci := 0) (q0 := 12) rfl rfl) rfl hl.1 rfl (Nat.le_of_ble_eq_true rfl) dX9_shownPage_18 hE hK hP hD hS hA [12, 13, 1, 2, 3, 4, 5, 6, 7, 8, 9] [0, 10, 11] [0, 5, 6, 7, 8, 9, 10, 11, 12, 13, 1, 2, 3, 4] rfl rfl rfl rfl (by decide) rfl rfl (fun H locs hP hD hS => ?_)
    refine lv_goto (tgt := 25) hx hb dX9_shownPage_21 (by decide) ?_
    rw [← Option.some.inj hf]
    exact g_iret hx hb hr hlk hK hP hD hS dX9_shownPage_25
def f_X9_shown (fu : Nat) (s0 : St) (s1 : St) (s2 : St) (s3 : St) (s5 : FSt) (L6 : List Nat) (c6 : Nat → Nat × (Nat → Int32))  (p1 : Int32) : Option (Int32) := (f_X5_titleAt fu s1 (s2.1 0)).bind (fun q_11 => if q_11 = (-1) then (some (-1)) else (if p1 = 0 then (some q_11) else (if p1 = 1 then ((f_X9_shownStep fu s0 s1 s2 s3 s5 L6 c6 q_11).bind (fun q_64 => some q_64)) else (if p1 = 2 then ((f_X9_shownStep fu s0 s1 s2 s3 s5 L6 c6 q_11).bind (fun q_75 => (f_X9_shownPage fu s0 s1 s2 s3 s5 L6 c6 q_11 (p1 - 2) q_75).bind (fun q_78 => some q_78))) else (if p1 = 3 then ((f_X9_shownStep fu s0 s1 s2 s3 s5 L6 c6 q_11).bind (fun q_75 => (f_X9_shownPage fu s0 s1 s2 s3 s5 L6 c6 q_11 (p1 - 2) q_75).bind (fun q_78 => some q_78))) else (if p1 = 4 then ((f_X9_shownStep fu s0 s1 s2 s3 s5 L6 c6 q_11).bind (fun q_75 => (f_X9_shownPage fu s0 s1 s2 s3 s5 L6 c6 q_11 (p1 - 2) q_75).bind (fun q_78 => some q_78))) else (if p1 = 5 then ((f_X9_shownStep fu s0 s1 s2 s3 s5 L6 c6 q_11).bind (fun q_75 => (f_X9_shownPage fu s0 s1 s2 s3 s5 L6 c6 q_11 (p1 - 2) q_75).bind (fun q_78 => some q_78))) else (some (-1)))))))))
theorem hdX9_shown : yX9_shown.cls = RX9 ∧ yX9_shown.cls ≠ "java/lang/invoke/MethodHandle" ∧ yX9_shown.cls ≠ "java/lang/invoke/VarHandle" ∧ (parseMethodDescriptor yX9_shown.desc).map (fun d => d.parameters.length) = some 1 := by decide +kernel
set_option maxHeartbeats 4000000 in
set_option maxRecDepth 100000 in
theorem c_X9_shown (l : Launch) (D : va_G) (cy : Nat → ClassId) (adK adV : Nat → Nat) (h0 : Nat) (r0_0 : Nat) (r0_1 : Nat) (r0_3 : Nat) (r0_4 : Nat) (s0 : St) (h1 : Nat) (a1 : Nat → Nat) (s1 : St) (h2 : Nat) (a2 : Nat → Nat) (s2 : St) (h3 : Nat) (r3_2 : Nat) (r3_4 : Nat) (s3 : St) (h4 : Nat)  (a5 : Nat → Nat) (y5 : Nat → Nat) (s5 : FSt)  (L6 : List Nat) (c6 : Nat → Nat × (Nat → Int32)) (sz fu : Nat) (p1 : Int32) (out : Int32) (hf : f_X9_shown fu s0 s1 s2 s3 s5 L6 c6 p1 = some out) :
    Met l yX9_shown (WS yX9_shown cX9_shown 3 (some .int)) ({ frames := 6, cells := 0, slots := 0, locals := 137 } : Room) (va_Pc [.ref h0, .int p1] (gPE D cy adK adV sz (((w9 cy h0 r0_0 r0_1 h1 r0_3 r0_4 h3 h2 s0) ++ (w5 cy h1 a1 s1) ++ (w2 cy h2 h1 a2 s2) ++ (w0 cy h3 h4 (a5 160) r3_2 h1 r3_4 s3) ++ (wWa cy h4 a5)) ++ ((wF cy a5 y5 s5) ++ (wK cy L6 c6))))) ((fun A : Nat → Prop => gQi D cy A out (((w9 cy h0 r0_0 r0_1 h1 r0_3 r0_4 h3 h2 s0) ++ (w5 cy h1 a1 s1) ++ (w2 cy h2 h1 a2 s2) ++ (w0 cy h3 h4 (a5 160) r3_2 h1 r3_4 s3) ++ (wWa cy h4 a5)) ++ ((wF cy a5 y5 s5) ++ (wK cy L6 c6)))) (va_A (((w9 cy h0 r0_0 r0_1 h1 r0_3 r0_4 h3 h2 s0) ++ (w5 cy h1 a1 s1) ++ (w2 cy h2 h1 a2 s2) ++ (w0 cy h3 h4 (a5 160) r3_2 h1 r3_4 s3) ++ (wWa cy h4 a5)) ++ ((wF cy a5 y5 s5) ++ (wK cy L6 c6))) sz)) 0 0 (va_A (((w9 cy h0 r0_0 r0_1 h1 r0_3 r0_4 h3 h2 s0) ++ (w5 cy h1 a1 s1) ++ (w2 cy h2 h1 a2 s2) ++ (w0 cy h3 h4 (a5 160) r3_2 h1 r3_4 s3) ++ (wWa cy h4 a5)) ++ ((wF cy a5 y5 s5) ++ (wK cy L6 c6))) sz) := by
  refine g_metE (cc := cX9_shown) (maxL := 3) (ret := (some .int)) (fun A : Nat → Prop => gQi D cy A out (((w9 cy h0 r0_0 r0_1 h1 r0_3 r0_4 h3 h2 s0) ++ (w5 cy h1 a1 s1) ++ (w2 cy h2 h1 a2 s2) ++ (w0 cy h3 h4 (a5 160) r3_2 h1 r3_4 s3) ++ (wWa cy h4 a5)) ++ ((wF cy a5 y5 s5) ++ (wK cy L6 c6)))) (by decide +kernel) rfl (Nat.le_of_ble_eq_true rfl) ?_
  intro p e s m below meth c A C hA hE hK hP hD ls hl
  obtain ⟨hx, hb, hr, hml, hown, hts, hlk⟩ := id C
  have hown : s.vm.findClass RX9 = some m.cls := hown
  have hS : va_S A s.heap s.heap [] := va_S.rf
  have hl : lv_has ls 3 [(0, .ref h0), (1, .int p1)] := hl
  have hk_22 := hts _ (List.mem_cons_of_mem _ fl_RX9_22)
  have hk_54 := hts _ (List.mem_cons_of_mem _ fl_RX9_54)
  have hk_150 := hts _ (List.mem_cons_of_mem _ fl_RX9_150)
  unfold f_X9_shown at hf
  refine lv_aload_n hx hb dX9_shown_0 rfl (lv_at hl 0 rfl) ?_
  refine va_get (ci := 8) (v := .ref h1) (C := RX9) (T := TX9) (N := 7) hx hb hts (fun w h => List.mem_cons_of_mem _ (inX9 w h)) hown hK hP 0 rfl rfl 2 (by decide) hk_22 (fun _ h9 => h9) rfl dX9_shown_1 ?_
  refine lv_aload_n hx hb dX9_shown_4 rfl (lv_at hl 0 rfl) ?_
  refine va_get (ci := 8) (v := .ref h2) (C := RX9) (T := TX9) (N := 7) hx hb hts (fun w h => List.mem_cons_of_mem _ (inX9 w h)) hown hK hP 0 rfl rfl 6 (by decide) hk_54 (fun _ h9 => h9) rfl dX9_shown_5 ?_
  refine va_get (ci := 2) (v := .int (s2.1 0)) (C := RX2) (T := TX2) (N := 6) hx hb hts (fun w h => List.mem_cons_of_mem _ (inX2 w h)) hown hK hP 10 rfl rfl 0 (by decide) hk_150 (fun _ h9 => h9) rfl dX9_shown_8 ?_
  obtain ⟨q_11, hc_11, hf⟩ := op_bind hf
  refine g_callViT (As := [.int (s2.1 0)]) (rest := []) (w2 := (w9 cy h0 r0_0 r0_1 h1 r0_3 r0_4 h3 h2 s0) ++ (w5 cy h1 a1 s1) ++ (w2 cy h2 h1 a2 s2) ++ (w0 cy h3 h4 (a5 160) r3_2 h1 r3_4 s3) ++ (wWa cy h4 a5)) ⟨hx, hb, hml, hown, hts⟩ (c_X5_titleAt l D cy h1 a1 s1 _ fu (s2.1 0) _ hc_11) (cwV 1 hts (gi_V ml_RX9_205 im_X5_titleAt se_X5_titleAt in_RX5 cd_X5_titleAt) rfl rfl rfl hdX5_titleAt ⟨Nat.le_of_ble_eq_true rfl, Nat.le_of_ble_eq_true rfl⟩) (va_recv hK hP (ci := 5) (q0 := 1) rfl rfl) rfl hl.1 rfl (Nat.le_of_ble_eq_true rfl) dX9_shown_11 hK hP hD hS hA [1, 2, 3, 4, 5, 6, 7, 8, 9] [0, 10, 11, 12, 13] [0, 5, 6, 7, 8, 9, 10, 11, 12, 13, 1, 2, 3, 4] rfl rfl rfl rfl (by decide) rfl rfl (fun H locs hP hD hS => ?_)
  refine lv_istore_n (lv' := [(2, .int q_11), (0, .ref h0), (1, .int p1)]) hx hb dX9_shown_14 rfl hl (by decide) rfl (fun ls hl => ?_)
  refine lv_iload_n hx hb dX9_shown_15 rfl (lv_at hl 0 rfl) ?_
  refine lv_iconst (v := (-1)) hx hb dX9_shown_16 (by decide) ?_
  refine lv_icmp_ne (tgt := 22) hx hb dX9_shown_17 (by decide) (fun c_17 => ?_) (fun c_17 => ?_)
  · have hf := op_neg c_17 hf
    refine lv_iload_n hx hb dX9_shown_22 rfl (lv_at hl 2 rfl) ?_
    by_cases c_23_0 : p1 = 0
    · have hf := op_pos c_23_0 hf
      refine lv_tableIn (tgt := 60) (off := 37) hx hb dX9_shown_23 (by rw [c_23_0]; decide) (by rw [c_23_0]; decide) (by rw [c_23_0]; decide) (by decide) ?_
      refine lv_iload_n hx hb dX9_shown_60 rfl (lv_at hl 0 rfl) ?_
      rw [← Option.some.inj hf]
      exact g_iret hx hb hr hlk hK hP hD hS dX9_shown_61
    · have hf := op_neg c_23_0 hf
      by_cases c_23_1 : p1 = 1
      · have hf := op_pos c_23_1 hf
        refine lv_tableIn (tgt := 62) (off := 39) hx hb dX9_shown_23 (by rw [c_23_1]; decide) (by rw [c_23_1]; decide) (by rw [c_23_1]; decide) (by decide) ?_
        refine lv_aload_n hx hb dX9_shown_62 rfl (lv_at hl 1 rfl) ?_
        refine lv_iload_n hx hb dX9_shown_63 rfl (lv_at hl 0 rfl) ?_
        obtain ⟨q_64, hc_64, hf⟩ := op_bind hf
        refine g_callViUE (As := [.int q_11]) (rest := []) (w2 := (w9 cy h0 r0_0 r0_1 h1 r0_3 r0_4 h3 h2 s0) ++ (w5 cy h1 a1 s1) ++ (w2 cy h2 h1 a2 s2) ++ (w0 cy h3 h4 (a5 160) r3_2 h1 r3_4 s3) ++ (wWa cy h4 a5)) (tl1 := (wF cy a5 y5 s5) ++ (wK cy L6 c6)) ⟨hx, hb, hml, hown, hts⟩ (c_X9_shownStep l D cy adK adV h0 r0_0 r0_1 r0_3 r0_4 s0 h1 a1 s1 h2 a2 s2 h3 r3_2 r3_4 s3 h4 a5 y5 s5 L6 c6 _ fu q_11 _ hc_64) (cwV 1 hts (gi_V ml_RX9_208 im_X9_shownStep se_X9_shownStep in_RX9 cd_X9_shownStep) rfl rfl rfl hdX9_shownStep ⟨Nat.le_of_ble_eq_true rfl, Nat.le_of_ble_eq_true rfl⟩) (va_recv hK hP (ci := 8) (q0 := 0) rfl rfl) rfl hl.1 rfl (Nat.le_of_ble_eq_true rfl) dX9_shown_64 hE hK hP hD hS hA [0, 1, 2, 3, 4, 5, 6, 7, 8, 9, 10, 11, 12, 13] [] [0, 1, 2, 3, 4, 5, 6, 7, 8, 9, 10, 11, 12, 13] rfl rfl rfl rfl (by decide) rfl rfl (fun H locs hP hD hS => ?_)
        rw [← Option.some.inj hf]
        exact g_iret hx hb hr hlk hK hP hD hS dX9_shown_67
      · have hf := op_neg c_23_1 hf
        by_cases c_23_2 : p1 = 2
        · have hf := op_pos c_23_2 hf
          refine lv_tableIn (tgt := 68) (off := 45) hx hb dX9_shown_23 (by rw [c_23_2]; decide) (by rw [c_23_2]; decide) (by rw [c_23_2]; decide) (by decide) ?_
          refine lv_aload_n hx hb dX9_shown_68 rfl (lv_at hl 1 rfl) ?_
          refine lv_iload_n hx hb dX9_shown_69 rfl (lv_at hl 0 rfl) ?_
          refine lv_iload_n hx hb dX9_shown_70 rfl (lv_at hl 2 rfl) ?_
          refine lv_iconst (v := 2) hx hb dX9_shown_71 (by decide) ?_
          refine lv_isub hx hb dX9_shown_72 ?_
          refine lv_aload_n hx hb dX9_shown_73 rfl (lv_at hl 1 rfl) ?_
          refine lv_iload_n hx hb dX9_shown_74 rfl (lv_at hl 0 rfl) ?_
          obtain ⟨q_75, hc_75, hf⟩ := op_bind hf
          refine g_callViUE (As := [.int q_11]) (rest := [.int (p1 - 2), .int q_11, .ref h0]) (w2 := (w9 cy h0 r0_0 r0_1 h1 r0_3 r0_4 h3 h2 s0) ++ (w5 cy h1 a1 s1) ++ (w2 cy h2 h1 a2 s2) ++ (w0 cy h3 h4 (a5 160) r3_2 h1 r3_4 s3) ++ (wWa cy h4 a5)) (tl1 := (wF cy a5 y5 s5) ++ (wK cy L6 c6)) ⟨hx, hb, hml, hown, hts⟩ (c_X9_shownStep l D cy adK adV h0 r0_0 r0_1 r0_3 r0_4 s0 h1 a1 s1 h2 a2 s2 h3 r3_2 r3_4 s3 h4 a5 y5 s5 L6 c6 _ fu q_11 _ hc_75) (cwV 1 hts (gi_V ml_RX9_208 im_X9_shownStep se_X9_shownStep in_RX9 cd_X9_shownStep) rfl rfl rfl hdX9_shownStep ⟨Nat.le_of_ble_eq_true rfl, Nat.le_of_ble_eq_true rfl⟩) (va_recv hK hP (ci := 8) (q0 := 0) rfl rfl) rfl hl.1 rfl (Nat.le_of_ble_eq_true rfl) dX9_shown_75 hE hK hP hD hS hA [0, 1, 2, 3, 4, 5, 6, 7, 8, 9, 10, 11, 12, 13] [] [0, 1, 2, 3, 4, 5, 6, 7, 8, 9, 10, 11, 12, 13] rfl rfl rfl rfl (by decide) rfl rfl (fun H locs hP hD hS => ?_)
          obtain ⟨q_78, hc_78, hf⟩ := op_bind hf
          refine g_callViUE (As := [.int q_11, .int (p1 - 2), .int q_75]) (rest := []) (w2 := (w9 cy h0 r0_0 r0_1 h1 r0_3 r0_4 h3 h2 s0) ++ (w5 cy h1 a1 s1) ++ (w2 cy h2 h1 a2 s2) ++ (w0 cy h3 h4 (a5 160) r3_2 h1 r3_4 s3) ++ (wWa cy h4 a5)) (tl1 := (wF cy a5 y5 s5) ++ (wK cy L6 c6)) ⟨hx, hb, hml, hown, hts⟩ (c_X9_shownPage l D cy adK adV h0 r0_0 r0_1 r0_3 r0_4 s0 h1 a1 s1 h2 a2 s2 h3 r3_2 r3_4 s3 h4 a5 y5 s5 L6 c6 _ fu q_11 (p1 - 2) q_75 _ hc_78) (cwV 3 hts (gi_V ml_RX9_211 im_X9_shownPage se_X9_shownPage in_RX9 cd_X9_shownPage) rfl rfl rfl hdX9_shownPage ⟨Nat.le_of_ble_eq_true rfl, Nat.le_of_ble_eq_true rfl⟩) (va_recv hK hP (ci := 8) (q0 := 0) rfl rfl) rfl hl.1 rfl (Nat.le_of_ble_eq_true rfl) dX9_shown_78 hE hK hP hD hS hA [0, 1, 2, 3, 4, 5, 6, 7, 8, 9, 10, 11, 12, 13] [] [0, 1, 2, 3, 4, 5, 6, 7, 8, 9, 10, 11, 12, 13] rfl rfl rfl rfl (by decide) rfl rfl (fun H locs hP hD hS => ?_)
          rw [← Option.some.inj hf]
          exact g_iret hx hb hr hlk hK hP hD hS dX9_shown_81
        · have hf := op_neg c_23_2 hf
          by_cases c_23_3 : p1 = 3
          · have hf := op_pos c_23_3 hf
            refine lv_tableIn (tgt := 68) (off := 45) hx hb dX9_shown_23 (by rw [c_23_3]; decide) (by rw [c_23_3]; decide) (by rw [c_23_3]; decide) (by decide) ?_
            refine lv_aload_n hx hb dX9_shown_68 rfl (lv_at hl 1 rfl) ?_
            refine lv_iload_n hx hb dX9_shown_69 rfl (lv_at hl 0 rfl) ?_
            refine lv_iload_n hx hb dX9_shown_70 rfl (lv_at hl 2 rfl) ?_
            refine lv_iconst (v := 2) hx hb dX9_shown_71 (by decide) ?_
            refine lv_isub hx hb dX9_shown_72 ?_
            refine lv_aload_n hx hb dX9_shown_73 rfl (lv_at hl 1 rfl) ?_
            refine lv_iload_n hx hb dX9_shown_74 rfl (lv_at hl 0 rfl) ?_
            obtain ⟨q_75, hc_75, hf⟩ := op_bind hf
            refine g_callViUE (As := [.int q_11]) (rest := [.int (p1 - 2), .int q_11, .ref h0]) (w2 := (w9 cy h0 r0_0 r0_1 h1 r0_3 r0_4 h3 h2 s0) ++ (w5 cy h1 a1 s1) ++ (w2 cy h2 h1 a2 s2) ++ (w0 cy h3 h4 (a5 160) r3_2 h1 r3_4 s3) ++ (wWa cy h4 a5)) (tl1 := (wF cy a5 y5 s5) ++ (wK cy L6 c6)) ⟨hx, hb, hml, hown, hts⟩ (c_X9_shownStep l D cy adK adV h0 r0_0 r0_1 r0_3 r0_4 s0 h1 a1 s1 h2 a2 s2 h3 r3_2 r3_4 s3 h4 a5 y5 s5 L6 c6 _ fu q_11 _ hc_75) (cwV 1 hts (gi_V ml_RX9_208 im_X9_shownStep se_X9_shownStep in_RX9 cd_X9_shownStep) rfl rfl rfl hdX9_shownStep ⟨Nat.le_of_ble_eq_true rfl, Nat.le_of_ble_eq_true rfl⟩) (va_recv hK hP (ci := 8) (q0 := 0) rfl rfl) rfl hl.1 rfl (Nat.le_of_ble_eq_true rfl) dX9_shown_75 hE hK hP hD hS hA [0, 1, 2, 3, 4, 5, 6, 7, 8, 9, 10, 11, 12, 13] [] [0, 1, 2, 3, 4, 5, 6, 7, 8, 9, 10, 11, 12, 13] rfl rfl rfl rfl (by decide) rfl rfl (fun H locs hP hD hS => ?_)
            obtain ⟨q_78, hc_78, hf⟩ := op_bind hf
            refine g_callViUE (As := [.int q_11, .int (p1 - 2), .int q_75]) (rest := []) (w2 := (w9 cy h0 r0_0 r0_1 h1 r0_3 r0_4 h3 h2 s0) ++ (w5 cy h1 a1 s1) ++ (w2 cy h2 h1 a2 s2) ++ (w0 cy h3 h4 (a5 160) r3_2 h1 r3_4 s3) ++ (wWa cy h4 a5)) (tl1 := (wF cy a5 y5 s5) ++ (wK cy L6 c6)) ⟨hx, hb, hml, hown, hts⟩ (c_X9_shownPage l D cy adK adV h0 r0_0 r0_1 r0_3 r0_4 s0 h1 a1 s1 h2 a2 s2 h3 r3_2 r3_4 s3 h4 a5 y5 s5 L6 c6 _ fu q_11 (p1 - 2) q_75 _ hc_78) (cwV 3 hts (gi_V ml_RX9_211 im_X9_shownPage se_X9_shownPage in_RX9 cd_X9_shownPage) rfl rfl rfl hdX9_shownPage ⟨Nat.le_of_ble_eq_true rfl, Nat.le_of_ble_eq_true rfl⟩) (va_recv hK hP (ci := 8) (q0 := 0) rfl rfl) rfl hl.1 rfl (Nat.le_of_ble_eq_true rfl) dX9_shown_78 hE hK hP hD hS hA [0, 1, 2, 3, 4, 5, 6, 7, 8, 9, 10, 11, 12, 13] [] [0, 1, 2, 3, 4, 5, 6, 7, 8, 9, 10, 11, 12, 13] rfl rfl rfl rfl (by decide) rfl rfl (fun H locs hP hD hS => ?_)
            rw [← Option.some.inj hf]
            exact g_iret hx hb hr hlk hK hP hD hS dX9_shown_81
          · have hf := op_neg c_23_3 hf
            by_cases c_23_4 : p1 = 4
            · have hf := op_pos c_23_4 hf
              refine lv_tableIn (tgt := 68) (off := 45) hx hb dX9_shown_23 (by rw [c_23_4]; decide) (by rw [c_23_4]; decide) (by rw [c_23_4]; decide) (by decide) ?_
              refine lv_aload_n hx hb dX9_shown_68 rfl (lv_at hl 1 rfl) ?_
              refine lv_iload_n hx hb dX9_shown_69 rfl (lv_at hl 0 rfl) ?_
              refine lv_iload_n hx hb dX9_shown_70 rfl (lv_at hl 2 rfl) ?_
              refine lv_iconst (v := 2) hx hb dX9_shown_71 (by decide) ?_
              refine lv_isub hx hb dX9_shown_72 ?_
              refine lv_aload_n hx hb dX9_shown_73 rfl (lv_at hl 1 rfl) ?_
              refine lv_iload_n hx hb dX9_shown_74 rfl (lv_at hl 0 rfl) ?_
              obtain ⟨q_75, hc_75, hf⟩ := op_bind hf
              refine g_callViUE (As := [.int q_11]) (rest := [.int (p1 - 2), .int q_11, .ref h0]) (w2 := (w9 cy h0 r0_0 r0_1 h1 r0_3 r0_4 h3 h2 s0) ++ (w5 cy h1 a1 s1) ++ (w2 cy h2 h1 a2 s2) ++ (w0 cy h3 h4 (a5 160) r3_2 h1 r3_4 s3) ++ (wWa cy h4 a5)) (tl1 := (wF cy a5 y5 s5) ++ (wK cy L6 c6)) ⟨hx, hb, hml, hown, hts⟩ (c_X9_shownStep l D cy adK adV h0 r0_0 r0_1 r0_3 r0_4 s0 h1 a1 s1 h2 a2 s2 h3 r3_2 r3_4 s3 h4 a5 y5 s5 L6 c6 _ fu q_11 _ hc_75) (cwV 1 hts (gi_V ml_RX9_208 im_X9_shownStep se_X9_shownStep in_RX9 cd_X9_shownStep) rfl rfl rfl hdX9_shownStep ⟨Nat.le_of_ble_eq_true rfl, Nat.le_of_ble_eq_true rfl⟩) (va_recv hK hP (ci := 8) (q0 := 0) rfl rfl) rfl hl.1 rfl (Nat.le_of_ble_eq_true rfl) dX9_shown_75 hE hK hP hD hS hA [0, 1, 2, 3, 4, 5, 6, 7, 8, 9, 10, 11, 12, 13] [] [0, 1, 2, 3, 4, 5, 6, 7, 8, 9, 10, 11, 12, 13] rfl rfl rfl rfl (by decide) rfl rfl (fun H locs hP hD hS => ?_)
              obtain ⟨q_78, hc_78, hf⟩ := op_bind hf
              refine g_callViUE (As := [.int q_11, .int (p1 - 2), .int q_75]) (rest := []) (w2 := (w9 cy h0 r0_0 r0_1 h1 r0_3 r0_4 h3 h2 s0) ++ (w5 cy h1 a1 s1) ++ (w2 cy h2 h1 a2 s2) ++ (w0 cy h3 h4 (a5 160) r3_2 h1 r3_4 s3) ++ (wWa cy h4 a5)) (tl1 := (wF cy a5 y5 s5) ++ (wK cy L6 c6)) ⟨hx, hb, hml, hown, hts⟩ (c_X9_shownPage l D cy adK adV h0 r0_0 r0_1 r0_3 r0_4 s0 h1 a1 s1 h2 a2 s2 h3 r3_2 r3_4 s3 h4 a5 y5 s5 L6 c6 _ fu q_11 (p1 - 2) q_75 _ hc_78) (cwV 3 hts (gi_V ml_RX9_211 im_X9_shownPage se_X9_shownPage in_RX9 cd_X9_shownPage) rfl rfl rfl hdX9_shownPage ⟨Nat.le_of_ble_eq_true rfl, Nat.le_of_ble_eq_true rfl⟩) (va_recv hK hP (ci := 8) (q0 := 0) rfl rfl) rfl hl.1 rfl (Nat.le_of_ble_eq_true rfl) dX9_shown_78 hE hK hP hD hS hA [0, 1, 2, 3, 4, 5, 6, 7, 8, 9, 10, 11, 12, 13] [] [0, 1, 2, 3, 4, 5, 6, 7, 8, 9, 10, 11, 12, 13] rfl rfl rfl rfl (by decide) rfl rfl (fun H locs hP hD hS => ?_)
              rw [← Option.some.inj hf]
              exact g_iret hx hb hr hlk hK hP hD hS dX9_shown_81
            · have hf := op_neg c_23_4 hf
              by_cases c_23_5 : p1 = 5
              · have hf := op_pos c_23_5 hf
                refine lv_tableIn (tgt := 68) (off := 45) hx hb dX9_shown_23 (by rw [c_23_5]; decide) (by rw [c_23_5]; decide) (by rw [c_23_5]; decide) (by decide) ?_
                refine lv_aload_n hx hb dX9_shown_68 rfl (lv_at hl 1 rfl) ?_
                refine lv_iload_n hx hb dX9_shown_69 rfl (lv_at hl 0 rfl) ?_
                refine lv_iload_n hx hb dX9_shown_70 rfl (lv_at hl 2 rfl) ?_
                refine lv_iconst (v := 2) hx hb dX9_shown_71 (by decide) ?_
                refine lv_isub hx hb dX9_shown_72 ?_
                refine lv_aload_n hx hb dX9_shown_73 rfl (lv_at hl 1 rfl) ?_
                refine lv_iload_n hx hb dX9_shown_74 rfl (lv_at hl 0 rfl) ?_
                obtain ⟨q_75, hc_75, hf⟩ := op_bind hf
                refine g_callViUE (As := [.int q_11]) (rest := [.int (p1 - 2), .int q_11, .ref h0]) (w2 := (w9 cy h0 r0_0 r0_1 h1 r0_3 r0_4 h3 h2 s0) ++ (w5 cy h1 a1 s1) ++ (w2 cy h2 h1 a2 s2) ++ (w0 cy h3 h4 (a5 160) r3_2 h1 r3_4 s3) ++ (wWa cy h4 a5)) (tl1 := (wF cy a5 y5 s5) ++ (wK cy L6 c6)) ⟨hx, hb, hml, hown, hts⟩ (c_X9_shownStep l D cy adK adV h0 r0_0 r0_1 r0_3 r0_4 s0 h1 a1 s1 h2 a2 s2 h3 r3_2 r3_4 s3 h4 a5 y5 s5 L6 c6 _ fu q_11 _ hc_75) (cwV 1 hts (gi_V ml_RX9_208 im_X9_shownStep se_X9_shownStep in_RX9 cd_X9_shownStep) rfl rfl rfl hdX9_shownStep ⟨Nat.le_of_ble_eq_true rfl, Nat.le_of_ble_eq_true rfl⟩) (va_recv hK hP (ci := 8) (q0 := 0) rfl rfl) rfl hl.1 rfl (Nat.le_of_ble_eq_true rfl) dX9_shown_75 hE hK hP hD hS hA [0, 1, 2, 3, 4, 5, 6, 7, 8, 9, 10, 11, 12, 13] [] [0, 1, 2, 3, 4, 5, 6, 7, 8, 9, 10, 11, 12, 13] rfl rfl rfl rfl (by decide) rfl rfl (fun H locs hP hD hS => ?_)
                obtain ⟨q_78, hc_78, hf⟩ := op_bind hf
                refine g_callViUE (As := [.int q_11, .int (p1 - 2), .int q_75]) (rest := []) (w2 := (w9 cy h0 r0_0 r0_1 h1 r0_3 r0_4 h3 h2 s0) ++ (w5 cy h1 a1 s1) ++ (w2 cy h2 h1 a2 s2) ++ (w0 cy h3 h4 (a5 160) r3_2 h1 r3_4 s3) ++ (wWa cy h4 a5)) (tl1 := (wF cy a5 y5 s5) ++ (wK cy L6 c6)) ⟨hx, hb, hml, hown, hts⟩ (c_X9_shownPage l D cy adK adV h0 r0_0 r0_1 r0_3 r0_4 s0 h1 a1 s1 h2 a2 s2 h3 r3_2 r3_4 s3 h4 a5 y5 s5 L6 c6 _ fu q_11 (p1 - 2) q_75 _ hc_78) (cwV 3 hts (gi_V ml_RX9_211 im_X9_shownPage se_X9_shownPage in_RX9 cd_X9_shownPage) rfl rfl rfl hdX9_shownPage ⟨Nat.le_of_ble_eq_true rfl, Nat.le_of_ble_eq_true rfl⟩) (va_recv hK hP (ci := 8) (q0 := 0) rfl rfl) rfl hl.1 rfl (Nat.le_of_ble_eq_true rfl) dX9_shown_78 hE hK hP hD hS hA [0, 1, 2, 3, 4, 5, 6, 7, 8, 9, 10, 11, 12, 13] [] [0, 1, 2, 3, 4, 5, 6, 7, 8, 9, 10, 11, 12, 13] rfl rfl rfl rfl (by decide) rfl rfl (fun H locs hP hD hS => ?_)
                rw [← Option.some.inj hf]
                exact g_iret hx hb hr hlk hK hP hD hS dX9_shown_81
              · have hf := op_neg c_23_5 hf
                have e_0 : ¬ (p1).toInt = 0 := fun h => c_23_0 (Int32.toInt_inj.mp (h.trans (by decide)))
                have e_1 : ¬ (p1).toInt = 1 := fun h => c_23_1 (Int32.toInt_inj.mp (h.trans (by decide)))
                have e_2 : ¬ (p1).toInt = 2 := fun h => c_23_2 (Int32.toInt_inj.mp (h.trans (by decide)))
                have e_3 : ¬ (p1).toInt = 3 := fun h => c_23_3 (Int32.toInt_inj.mp (h.trans (by decide)))
                have e_4 : ¬ (p1).toInt = 4 := fun h => c_23_4 (Int32.toInt_inj.mp (h.trans (by decide)))
                have e_5 : ¬ (p1).toInt = 5 := fun h => c_23_5 (Int32.toInt_inj.mp (h.trans (by decide)))
                refine lv_tableOut (tgt := 82) hx hb dX9_shown_23 (by omega) (by decide) ?_
                refine lv_iconst (v := (-1)) hx hb dX9_shown_82 (by decide) ?_
                rw [← Option.some.inj hf]
                exact g_iret hx hb hr hlk hK hP hD hS dX9_shown_83
  · have hf := op_pos c_17 hf
    refine lv_iconst (v := (-1)) hx hb dX9_shown_20 (by decide) ?_
    rw [← Option.some.inj hf]
    exact g_iret hx hb hr hlk hK hP hD hS dX9_shown_21
def f_X9_now (fu : Nat) (s0 : St) (s1 : St) (s2 : St) (s3 : St) (s5 : FSt) (L6 : List Nat) (c6 : Nat → Nat × (Nat → Int32))  (p1 : Int32) (p2 : Int32) (p3 : Int32) : Option (Int32) := (f_X5_titleAt fu s1 (s2.1 0)).bind (fun q_11 => if q_11 = (-1) then (some (-1)) else ((f_X9_shownStep fu s0 s1 s2 s3 s5 L6 c6 q_11).bind (fun q_31 => (f_X9_shownPage fu s0 s1 s2 s3 s5 L6 c6 q_11 p1 q_31).bind (fun q_34 => (f_X0_wordingOf fu s3 s1 q_11 p1).bind (fun q_46 => if ltb q_46 161 = true then (if memb (s5.2 q_46) L6 = true then ((f_X7_signAt fu (s5.1 q_46) ((c6 (s5.2 q_46)).1) ((c6 (s5.2 q_46)).2) q_34 p2 p3).bind (fun q_53 => some q_53)) else none) else none)))))
theorem hdX9_now : yX9_now.cls = RX9 ∧ yX9_now.cls ≠ "java/lang/invoke/MethodHandle" ∧ yX9_now.cls ≠ "java/lang/invoke/VarHandle" ∧ (parseMethodDescriptor yX9_now.desc).map (fun d => d.parameters.length) = some 3 := by decide +kernel
set_option maxHeartbeats 4000000 in
set_option maxRecDepth 100000 in
theorem c_X9_now (l : Launch) (D : va_G) (cy : Nat → ClassId) (adK adV : Nat → Nat) (h0 : Nat) (r0_0 : Nat) (r0_1 : Nat) (r0_3 : Nat) (r0_4 : Nat) (s0 : St) (h1 : Nat) (a1 : Nat → Nat) (s1 : St) (h2 : Nat) (a2 : Nat → Nat) (s2 : St) (h3 : Nat) (r3_2 : Nat) (r3_4 : Nat) (s3 : St) (h4 : Nat)  (a5 : Nat → Nat) (y5 : Nat → Nat) (s5 : FSt)  (L6 : List Nat) (c6 : Nat → Nat × (Nat → Int32)) (sz fu : Nat) (p1 : Int32) (p2 : Int32) (p3 : Int32) (out : Int32) (hf : f_X9_now fu s0 s1 s2 s3 s5 L6 c6 p1 p2 p3 = some out) :
    Met l yX9_now (WS yX9_now cX9_now 6 (some .int)) ({ frames := 6, cells := 0, slots := 0, locals := 137 } : Room) (va_Pc [.ref h0, .int p1, .int p2, .int p3] (gPE D cy adK adV sz (((w9 cy h0 r0_0 r0_1 h1 r0_3 r0_4 h3 h2 s0) ++ (w5 cy h1 a1 s1) ++ (w2 cy h2 h1 a2 s2) ++ (w0 cy h3 h4 (a5 160) r3_2 h1 r3_4 s3) ++ (wWa cy h4 a5)) ++ ((wF cy a5 y5 s5) ++ (wK cy L6 c6))))) ((fun A : Nat → Prop => gQi D cy A out (((w9 cy h0 r0_0 r0_1 h1 r0_3 r0_4 h3 h2 s0) ++ (w5 cy h1 a1 s1) ++ (w2 cy h2 h1 a2 s2) ++ (w0 cy h3 h4 (a5 160) r3_2 h1 r3_4 s3) ++ (wWa cy h4 a5)) ++ ((wF cy a5 y5 s5) ++ (wK cy L6 c6)))) (va_A (((w9 cy h0 r0_0 r0_1 h1 r0_3 r0_4 h3 h2 s0) ++ (w5 cy h1 a1 s1) ++ (w2 cy h2 h1 a2 s2) ++ (w0 cy h3 h4 (a5 160) r3_2 h1 r3_4 s3) ++ (wWa cy h4 a5)) ++ ((wF cy a5 y5 s5) ++ (wK cy L6 c6))) sz)) 0 0 (va_A (((w9 cy h0 r0_0 r0_1 h1 r0_3 r0_4 h3 h2 s0) ++ (w5 cy h1 a1 s1) ++ (w2 cy h2 h1 a2 s2) ++ (w0 cy h3 h4 (a5 160) r3_2 h1 r3_4 s3) ++ (wWa cy h4 a5)) ++ ((wF cy a5 y5 s5) ++ (wK cy L6 c6))) sz) := by
  refine g_metE (cc := cX9_now) (maxL := 6) (ret := (some .int)) (fun A : Nat → Prop => gQi D cy A out (((w9 cy h0 r0_0 r0_1 h1 r0_3 r0_4 h3 h2 s0) ++ (w5 cy h1 a1 s1) ++ (w2 cy h2 h1 a2 s2) ++ (w0 cy h3 h4 (a5 160) r3_2 h1 r3_4 s3) ++ (wWa cy h4 a5)) ++ ((wF cy a5 y5 s5) ++ (wK cy L6 c6)))) (by decide +kernel) rfl (Nat.le_of_ble_eq_true rfl) ?_
  intro p e s m below meth c A C hA hE hK hP hD ls hl
  obtain ⟨hx, hb, hr, hml, hown, hts, hlk⟩ := id C
  have hown : s.vm.findClass RX9 = some m.cls := hown
  have hS : va_S A s.heap s.heap [] := va_S.rf
  have hl : lv_has ls 6 [(0, .ref h0), (1, .int p1), (2, .int p2), (3, .int p3)] := hl
  have hk_22 := hts _ (List.mem_cons_of_mem _ fl_RX9_22)
  have hk_54 := hts _ (List.mem_cons_of_mem _ fl_RX9_54)
  have hk_150 := hts _ (List.mem_cons_of_mem _ fl_RX9_150)
  have hk_45 := hts _ (List.mem_cons_of_mem _ fl_RX9_45)
  unfold f_X9_now at hf
  refine lv_aload_n hx hb dX9_now_0 rfl (lv_at hl 0 rfl) ?_
  refine va_get (ci := 8) (v := .ref h1) (C := RX9) (T := TX9) (N := 7) hx hb hts (fun w h => List.mem_cons_of_mem _ (inX9 w h)) hown hK hP 0 rfl rfl 2 (by decide) hk_22 (fun _ h9 => h9) rfl dX9_now_1 ?_
  refine lv_aload_n hx hb dX9_now_4 rfl (lv_at hl 0 rfl) ?_
  refine va_get (ci := 8) (v := .ref h2) (C := RX9) (T := TX9) (N := 7) hx hb hts (fun w h => List.mem_cons_of_mem _ (inX9 w h)) hown hK hP 0 rfl rfl 6 (by decide) hk_54 (fun _ h9 => h9) rfl dX9_now_5 ?_
  refine va_get (ci := 2) (v := .int (s2.1 0)) (C := RX2) (T := TX2) (N := 6) hx hb hts (fun w h => List.mem_cons_of_mem _ (inX2 w h)) hown hK hP 10 rfl rfl 0 (by decide) hk_150 (fun _ h9 => h9) rfl dX9_now_8 ?_
  obtain ⟨q_11, hc_11, hf⟩ := op_bind hf
  refine g_callViT (As := [.int (s2.1 0)]) (rest := []) (w2 := (w9 cy h0 r0_0 r0_1 h1 r0_3 r0_4 h3 h2 s0) ++ (w5 cy h1 a1 s1) ++ (w2 cy h2 h1 a2 s2) ++ (w0 cy h3 h4 (a5 160) r3_2 h1 r3_4 s3) ++ (wWa cy h4 a5)) ⟨hx, hb, hml, hown, hts⟩ (c_X5_titleAt l D cy h1 a1 s1 _ fu (s2.1 0) _ hc_11) (cwV 1 hts (gi_V ml_RX9_205 im_X5_titleAt se_X5_titleAt in_RX5 cd_X5_titleAt) rfl rfl rfl hdX5_titleAt ⟨Nat.le_of_ble_eq_true rfl, Nat.le_of_ble_eq_true rfl⟩) (va_recv hK hP (ci := 5) (q0 := 1) rfl rfl) rfl hl.1 rfl (Nat.le_of_ble_eq_true rfl) dX9_now_11 hK hP hD hS hA [1, 2, 3, 4, 5, 6, 7, 8, 9] [0, 10, 11, 12, 13] [0, 5, 6, 7, 8, 9, 10, 11, 12, 13, 1, 2, 3, 4] rfl rfl rfl rfl (by decide) rfl rfl (fun H locs hP hD hS => ?_)
  refine lv_istore (lv' := [(4, .int q_11), (0, .ref h0), (1, .int p1), (2, .int p2), (3, .int p3)]) hx hb dX9_now_14 hl (by decide) rfl (fun ls hl => ?_)
  refine lv_iload hx hb dX9_now_16 (lv_at hl 0 rfl) ?_
  refine lv_iconst (v := (-1)) hx hb dX9_now_18 (by decide) ?_
  refine lv_icmp_ne (tgt := 24) hx hb dX9_now_19 (by decide) (fun c_19 => ?_) (fun c_19 => ?_)
  · have hf := op_neg c_19 hf
    refine lv_aload_n hx hb dX9_now_24 rfl (lv_at hl 1 rfl) ?_
    refine lv_iload hx hb dX9_now_25 (lv_at hl 0 rfl) ?_
    refine lv_iload_n hx hb dX9_now_27 rfl (lv_at hl 2 rfl) ?_
    refine lv_aload_n hx hb dX9_now_28 rfl (lv_at hl 1 rfl) ?_
    refine lv_iload hx hb dX9_now_29 (lv_at hl 0 rfl) ?_
    obtain ⟨q_31, hc_31, hf⟩ := op_bind hf
    refine g_callViUE (As := [.int q_11]) (rest := [.int p1, .int q_11, .ref h0]) (w2 := (w9 cy h0 r0_0 r0_1 h1 r0_3 r0_4 h3 h2 s0) ++ (w5 cy h1 a1 s1) ++ (w2 cy h2 h1 a2 s2) ++ (w0 cy h3 h4 (a5 160) r3_2 h1 r3_4 s3) ++ (wWa cy h4 a5)) (tl1 := (wF cy a5 y5 s5) ++ (wK cy L6 c6)) ⟨hx, hb, hml, hown, hts⟩ (c_X9_shownStep l D cy adK adV h0 r0_0 r0_1 r0_3 r0_4 s0 h1 a1 s1 h2 a2 s2 h3 r3_2 r3_4 s3 h4 a5 y5 s5 L6 c6 _ fu q_11 _ hc_31) (cwV 1 hts (gi_V ml_RX9_208 im_X9_shownStep se_X9_shownStep in_RX9 cd_X9_shownStep) rfl rfl rfl hdX9_shownStep ⟨Nat.le_of_ble_eq_true rfl, Nat.le_of_ble_eq_true rfl⟩) (va_recv hK hP (ci := 8) (q0 := 0) rfl rfl) rfl hl.1 rfl (Nat.le_of_ble_eq_true rfl) dX9_now_31 hE hK hP hD hS hA [0, 1, 2, 3, 4, 5, 6, 7, 8, 9, 10, 11, 12, 13] [] [0, 1, 2, 3, 4, 5, 6, 7, 8, 9, 10, 11, 12, 13] rfl rfl rfl rfl (by decide) rfl rfl (fun H locs hP hD hS => ?_)
    obtain ⟨q_34, hc_34, hf⟩ := op_bind hf
    refine g_callViUE (As := [.int q_11, .int p1, .int q_31]) (rest := []) (w2 := (w9 cy h0 r0_0 r0_1 h1 r0_3 r0_4 h3 h2 s0) ++ (w5 cy h1 a1 s1) ++ (w2 cy h2 h1 a2 s2) ++ (w0 cy h3 h4 (a5 160) r3_2 h1 r3_4 s3) ++ (wWa cy h4 a5)) (tl1 := (wF cy a5 y5 s5) ++ (wK cy L6 c6)) ⟨hx, hb, hml, hown, hts⟩ (c_X9_shownPage l D cy adK adV h0 r0_0 r0_1 r0_3 r0_4 s0 h1 a1 s1 h2 a2 s2 h3 r3_2 r3_4 s3 h4 a5 y5 s5 L6 c6 _ fu q_11 p1 q_31 _ hc_34) (cwV 3 hts (gi_V ml_RX9_211 im_X9_shownPage se_X9_shownPage in_RX9 cd_X9_shownPage) rfl rfl rfl hdX9_shownPage ⟨Nat.le_of_ble_eq_true rfl, Nat.le_of_ble_eq_true rfl⟩) (va_recv hK hP (ci := 8) (q0 := 0) rfl rfl) rfl hl.1 rfl (Nat.le_of_ble_eq_true rfl) dX9_now_34 hE hK hP hD hS hA [0, 1, 2, 3, 4, 5, 6, 7, 8, 9, 10, 11, 12, 13] [] [0, 1, 2, 3, 4, 5, 6, 7, 8, 9, 10, 11, 12, 13] rfl rfl rfl rfl (by decide) rfl rfl (fun H locs hP hD hS => ?_)
    refine lv_istore (lv' := [(5, .int q_34), (4, .int q_11), (0, .ref h0), (1, .int p1), (2, .int p2), (3, .int p3)]) hx hb dX9_now_37 hl (by decide) rfl (fun ls hl => ?_)
    refine lv_aload_n hx hb dX9_now_39 rfl (lv_at hl 2 rfl) ?_
    refine va_get (ci := 8) (v := .ref h3) (C := RX9) (T := TX9) (N := 7) hx hb hts (fun w h => List.mem_cons_of_mem _ (inX9 w h)) hown hK hP 0 rfl rfl 5 (by decide) hk_45 (fun _ h9 => h9) rfl dX9_now_40 ?_
    refine lv_iload hx hb dX9_now_43 (lv_at hl 1 rfl) ?_
    refine lv_iload_n hx hb dX9_now_45 rfl (lv_at hl 3 rfl) ?_
    obtain ⟨q_46, hc_46, hf⟩ := op_bind hf
    refine g_callVrT (As := [.int q_11, .int p1]) (rest := []) (w2 := (w9 cy h0 r0_0 r0_1 h1 r0_3 r0_4 h3 h2 s0) ++ (w5 cy h1 a1 s1) ++ (w2 cy h2 h1 a2 s2) ++ (w0 cy h3 h4 (a5 160) r3_2 h1 r3_4 s3) ++ (wWa cy h4 a5)) ⟨hx, hb, hml, hown, hts⟩ (c_X0_wordingOf l D cy h3 r3_2 r3_4 s3 h4 a5 h1 a1 s1 _ fu q_11 p1 _ hc_46) (cwV 2 hts (gi_V ml_RX9_187 im_X0_wordingOf se_X0_wordingOf in_RX0 cd_X0_wordingOf) rfl rfl rfl hdX0_wordingOf ⟨Nat.le_of_ble_eq_true rfl, Nat.le_of_ble_eq_true rfl⟩) (va_recv hK hP (ci := 0) (q0 := 12) rfl rfl) rfl hl.1 rfl (Nat.le_of_ble_eq_true rfl) dX9_now_46 hK hP hD hS hA [12, 13, 1, 2, 3, 4, 5, 6, 7, 8, 9] [0, 10, 11] [0, 5, 6, 7, 8, 9, 10, 11, 12, 13, 1, 2, 3, 4] rfl rfl rfl rfl (by decide) rfl rfl (fun H locs hP hD hS => ?_)
    refine lv_iload hx hb dX9_now_49 (lv_at hl 0 rfl) ?_
    refine lv_iload_n hx hb dX9_now_51 rfl (lv_at hl 4 rfl) ?_
    refine lv_iload_n hx hb dX9_now_52 rfl (lv_at hl 5 rfl) ?_
    obtain ⟨hj_53, hf⟩ := op_if hf
    obtain ⟨hm_53, hf⟩ := op_if hf
    obtain ⟨q_53, hc_53, hf⟩ := op_bind hf
    have hP := va_P_perm (foc7V cy a5 y5 s5 L6 c6 ((w9 cy h0 r0_0 r0_1 h1 r0_3 r0_4 h3 h2 s0) ++ (w5 cy h1 a1 s1) ++ (w2 cy h2 h1 a2 s2) ++ (w0 cy h3 h4 (a5 160) r3_2 h1 r3_4 s3) ++ (wWa cy h4 a5)) (ltb_lt hj_53) (memb_in hm_53)) hP
    have hD := va_D_perm (foc7V cy a5 y5 s5 L6 c6 ((w9 cy h0 r0_0 r0_1 h1 r0_3 r0_4 h3 h2 s0) ++ (w5 cy h1 a1 s1) ++ (w2 cy h2 h1 a2 s2) ++ (w0 cy h3 h4 (a5 160) r3_2 h1 r3_4 s3) ++ (wWa cy h4 a5)) (ltb_lt hj_53) (memb_in hm_53)) hD
    refine g_callViT (As := [.int q_34, .int p2, .int p3]) (rest := []) (w2 := (w9 cy h0 r0_0 r0_1 h1 r0_3 r0_4 h3 h2 s0) ++ (w5 cy h1 a1 s1) ++ (w2 cy h2 h1 a2 s2) ++ (w0 cy h3 h4 (a5 160) r3_2 h1 r3_4 s3) ++ (wWa cy h4 a5) ++ (w7 cy (a5 q_46) (s5.2 q_46) (fun _ => y5 q_46) (s5.1 q_46)) ++ (wV cy (s5.2 q_46) ((c6 (s5.2 q_46)).1) ((c6 (s5.2 q_46)).2))) ⟨hx, hb, hml, hown, hts⟩ (c_X7_signAt l D cy (a5 q_46) (fun _ => y5 q_46) (s5.1 q_46) (s5.2 q_46) ((c6 (s5.2 q_46)).1) ((c6 (s5.2 q_46)).2) _ fu q_34 p2 p3 _ hc_53) (cwV 3 hts (gi_V ml_RX9_201 im_X7_signAt se_X7_signAt in_RX7 cd_X7_signAt) rfl rfl rfl hdX7_signAt ⟨Nat.le_of_ble_eq_true rfl, Nat.le_of_ble_eq_true rfl⟩) (va_recv hK hP (ci := 7) (q0 := 14) rfl rfl) rfl hl.1 rfl (Nat.le_of_ble_eq_true rfl) dX9_now_53 hK hP hD hS hA [14, 15, 16] [0, 1, 2, 3, 4, 5, 6, 7, 8, 9, 10, 11, 12, 13] [0, 1, 2, 3, 4, 5, 6, 7, 8, 9, 10, 11, 12, 13, 14, 15, 16] rfl rfl rfl rfl (by decide) rfl rfl (fun H locs hP hD hS => ?_)
    have hP := va_P_perm (foc7V cy a5 y5 s5 L6 c6 ((w9 cy h0 r0_0 r0_1 h1 r0_3 r0_4 h3 h2 s0) ++ (w5 cy h1 a1 s1) ++ (w2 cy h2 h1 a2 s2) ++ (w0 cy h3 h4 (a5 160) r3_2 h1 r3_4 s3) ++ (wWa cy h4 a5)) (ltb_lt hj_53) (memb_in hm_53)).symm hP
    have hD := va_D_perm (foc7V cy a5 y5 s5 L6 c6 ((w9 cy h0 r0_0 r0_1 h1 r0_3 r0_4 h3 h2 s0) ++ (w5 cy h1 a1 s1) ++ (w2 cy h2 h1 a2 s2) ++ (w0 cy h3 h4 (a5 160) r3_2 h1 r3_4 s3) ++ (wWa cy h4 a5)) (ltb_lt hj_53) (memb_in hm_53)).symm hD
    rw [← Option.some.inj hf]
    exact g_iret hx hb hr hlk hK hP hD hS dX9_now_56
  · have hf := op_pos c_19 hf
    refine lv_iconst (v := (-1)) hx hb dX9_now_22 (by decide) ?_
    rw [← Option.some.inj hf]
    exact g_iret hx hb hr hlk hK hP hD hS dX9_now_23
def f_X9_begin (fu : Nat) (r3_4 : Nat) (s0 : St) (s1 : St) (s3 : St) (L8 : List Nat) (c8 : Nat → Nat × (Nat → Int32)) (s2 : St) (s5 : St) (s6 : St) (s7 : FSt)  : Option (St × St × St × FSt) := (f_X0_restoreAll fu r3_4 s3 s1 L8 c8 s5 s6 s7).bind (fun q_4 => (f_X2_start fu s1 s2).bind (fun q_15 => some (q_15, q_4.1, q_4.2.1, q_4.2.2)))
theorem hdX9_begin : yX9_begin.cls = RX9 ∧ yX9_begin.cls ≠ "java/lang/invoke/MethodHandle" ∧ yX9_begin.cls ≠ "java/lang/invoke/VarHandle" ∧ (parseMethodDescriptor yX9_begin.desc).map (fun d => d.parameters.length) = some 0 := by decide +kernel
set_option maxHeartbeats 4000000 in
set_option maxRecDepth 100000 in
theorem c_X9_begin (l : Launch) (D : va_G) (cy : Nat → ClassId) (h0 : Nat) (r0_0 : Nat) (r0_1 : Nat) (r0_3 : Nat) (r0_4 : Nat) (s0 : St) (h1 : Nat) (a1 : Nat → Nat) (s1 : St) (h2 : Nat) (r2_5 : Nat) (a2 : Nat → Nat) (s2 : St) (h3 : Nat) (r3_4 : Nat) (s3 : St) (h4 : Nat) (h5 : Nat) (a5 : Nat → Nat) (s5 : St) (h6 : Nat) (a6 : Nat → Nat) (s6 : St)  (a7 : Nat → Nat) (y7 : Nat → Nat) (s7 : FSt)  (L8 : List Nat) (c8 : Nat → Nat × (Nat → Int32)) (sz fu : Nat)  (out : St × St × St × FSt) (hf : f_X9_begin fu r3_4 s0 s1 s3 L8 c8 s2 s5 s6 s7 = some out) :
    Met l yX9_begin (WS yX9_begin cX9_begin 1 none) ({ frames := 6, cells := 0, slots := 0, locals := 140 } : Room) (va_Pc [.ref h0] (gP D cy sz (((w9 cy h0 r0_0 r0_1 h1 r0_3 r0_4 h3 h2 s0) ++ (w5 cy h1 a1 s1) ++ (w2 cy h2 r2_5 a2 s2) ++ (w0 cy h3 h4 (a7 160) h5 h1 r3_4 s3) ++ (wWa cy h4 a7) ++ (w1 cy h5 h6 a5 s5) ++ (wP cy h6 a6 s6)) ++ ((wF cy a7 y7 s7) ++ (wK cy L8 c8))))) ((fun A : Nat → Prop => gQv D cy A (((w9 cy h0 r0_0 r0_1 h1 r0_3 r0_4 h3 h2 s0) ++ (w5 cy h1 a1 s1) ++ (w2 cy h2 h1 a2 out.1) ++ (w0 cy h3 h4 (a7 160) h5 h1 r3_4 s3) ++ (wWa cy h4 a7) ++ (w1 cy h5 h6 a5 out.2.1) ++ (wP cy h6 a6 out.2.2.1)) ++ ((wF cy a7 y7 out.2.2.2) ++ (wK cy L8 c8)))) (va_A (((w9 cy h0 r0_0 r0_1 h1 r0_3 r0_4 h3 h2 s0) ++ (w5 cy h1 a1 s1) ++ (w2 cy h2 r2_5 a2 s2) ++ (w0 cy h3 h4 (a7 160) h5 h1 r3_4 s3) ++ (wWa cy h4 a7) ++ (w1 cy h5 h6 a5 s5) ++ (wP cy h6 a6 s6)) ++ ((wF cy a7 y7 s7) ++ (wK cy L8 c8))) sz)) 0 0 (va_A (((w9 cy h0 r0_0 r0_1 h1 r0_3 r0_4 h3 h2 s0) ++ (w5 cy h1 a1 s1) ++ (w2 cy h2 r2_5 a2 s2) ++ (w0 cy h3 h4 (a7 160) h5 h1 r3_4 s3) ++ (wWa cy h4 a7) ++ (w1 cy h5 h6 a5 s5) ++ (wP cy h6 a6 s6)) ++ ((wF cy a7 y7 s7) ++ (wK cy L8 c8))) sz) := by
  refine g_met (cc := cX9_begin) (maxL := 1) (ret := none) (fun A : Nat → Prop => gQv D cy A (((w9 cy h0 r0_0 r0_1 h1 r0_3 r0_4 h3 h2 s0) ++ (w5 cy h1 a1 s1) ++ (w2 cy h2 h1 a2 out.1) ++ (w0 cy h3 h4 (a7 160) h5 h1 r3_4 s3) ++ (wWa cy h4 a7) ++ (w1 cy h5 h6 a5 out.2.1) ++ (wP cy h6 a6 out.2.2.1)) ++ ((wF cy a7 y7 out.2.2.2) ++ (wK cy L8 c8)))) (by decide +kernel) rfl (Nat.le_of_ble_eq_true rfl) ?_
  intro p e s m below meth c A C hA hK hP hD ls hl
  obtain ⟨hx, hb, hr, hml, hown, hts, hlk⟩ := id C
  have hown : s.vm.findClass RX9 = some m.cls := hown
  have hS : va_S A s.heap s.heap [] := va_S.rf
  have hl : lv_has ls 1 [(0, .ref h0)] := hl
  have hk_45 := hts _ (List.mem_cons_of_mem _ fl_RX9_45)
  have hk_54 := hts _ (List.mem_cons_of_mem _ fl_RX9_54)
  have hk_22 := hts _ (List.mem_cons_of_mem _ fl_RX9_22)
  unfold f_X9_begin at hf
  refine lv_aload_n hx hb dX9_begin_0 rfl (lv_at hl 0 rfl) ?_
  refine va_get (ci := 8) (v := .ref h3) (C := RX9) (T := TX9) (N := 7) hx hb hts (fun w h => List.mem_cons_of_mem _ (inX9 w h)) hown hK hP 0 rfl rfl 5 (by decide) hk_45 (fun _ h9 => h9) rfl dX9_begin_1 ?_
  obtain ⟨q_4, hc_4, hf⟩ := op_bind hf
  refine g_callVvU (As := []) (rest := []) (w2 := (w9 cy h0 r0_0 r0_1 h1 r0_3 r0_4 h3 h2 s0) ++ (w5 cy h1 a1 s1) ++ (w2 cy h2 r2_5 a2 s2) ++ (w0 cy h3 h4 (a7 160) h5 h1 r3_4 s3) ++ (wWa cy h4 a7) ++ (w1 cy h5 h6 a5 q_4.1) ++ (wP cy h6 a6 q_4.2.1)) (tl1 := (wF cy a7 y7 q_4.2.2) ++ (wK cy L8 c8)) ⟨hx, hb, hml, hown, hts⟩ (c_X0_restoreAll l D cy h3 r3_4 s3 h4 h1 a1 s1 h5 a5 s5 h6 a6 s6 a7 y7 s7 L8 c8 _ fu _ hc_4) (cwV 0 hts (gi_V ml_RX9_99 im_X0_restoreAll se_X0_restoreAll in_RX0 cd_X0_restoreAll) rfl rfl rfl hdX0_restoreAll ⟨Nat.le_of_ble_eq_true rfl, Nat.le_of_ble_eq_true rfl⟩) (va_recv hK hP (ci := 0) (q0 := 12) rfl rfl) rfl hl.1 rfl (Nat.le_of_ble_eq_true rfl) dX9_begin_4 hK hP hD hS hA [12, 13, 1, 2, 3, 4, 5, 6, 7, 8, 9, 14, 15, 16, 17, 18, 19, 20, 21, 22, 23, 24, 25, 26, 27, 28, 29, 30, 31, 32, 33] [0, 10, 11] [0, 5, 6, 7, 8, 9, 10, 11, 12, 13, 1, 2, 3, 4, 14, 15, 16, 17, 18, 19, 20, 21, 22, 23, 24, 25, 26, 27, 28, 29, 30, 31, 32, 33] rfl rfl rfl rfl (by decide) rfl rfl (fun H locs hP hD hS => ?_)
  refine lv_aload_n hx hb dX9_begin_7 rfl (lv_at hl 0 rfl) ?_
  refine va_get (ci := 8) (v := .ref h2) (C := RX9) (T := TX9) (N := 7) hx hb hts (fun w h => List.mem_cons_of_mem _ (inX9 w h)) hown hK hP 0 rfl rfl 6 (by decide) hk_54 (fun _ h9 => h9) rfl dX9_begin_8 ?_
  refine lv_aload_n hx hb dX9_begin_11 rfl (lv_at hl 0 rfl) ?_
  refine va_get (ci := 8) (v := .ref h1) (C := RX9) (T := TX9) (N := 7) hx hb hts (fun w h => List.mem_cons_of_mem _ (inX9 w h)) hown hK hP 0 rfl rfl 2 (by decide) hk_22 (fun _ h9 => h9) rfl dX9_begin_12 ?_
  obtain ⟨q_15, hc_15, hf⟩ := op_bind hf
  refine g_callVvT (As := [.ref h1]) (rest := []) (w2 := (w9 cy h0 r0_0 r0_1 h1 r0_3 r0_4 h3 h2 s0) ++ (w5 cy h1 a1 s1) ++ (w2 cy h2 h1 a2 q_15) ++ (w0 cy h3 h4 (a7 160) h5 h1 r3_4 s3) ++ (wWa cy h4 a7) ++ (w1 cy h5 h6 a5 q_4.1) ++ (wP cy h6 a6 q_4.2.1)) ⟨hx, hb, hml, hown, hts⟩ (c_X2_start l D cy h2 r2_5 a2 s2 h1 a1 s1 _ fu _ hc_15) (cwV 1 hts (gi_V ml_RX9_84 im_X2_start se_X2_start in_RX2 cd_X2_start) rfl rfl rfl hdX2_start ⟨Nat.le_of_ble_eq_true rfl, Nat.le_of_ble_eq_true rfl⟩) (va_recv hK hP (ci := 2) (q0 := 10) rfl rfl) rfl hl.1 rfl (Nat.le_of_ble_eq_true rfl) dX9_begin_15 hK hP hD hS hA [10, 11, 1, 2, 3, 4, 5, 6, 7, 8, 9] [0, 12, 13, 14, 15, 16, 17, 18, 19, 20, 21, 22, 23, 24, 25, 26, 27, 28, 29, 30, 31, 32, 33] [0, 25, 26, 27, 28, 29, 30, 31, 32, 33, 23, 24, 1, 2, 3, 4, 5, 6, 7, 8, 9, 10, 11, 12, 13, 14, 15, 16, 17, 18, 19, 20, 21, 22] rfl rfl rfl rfl (by decide) rfl rfl (fun H locs hP hD hS => ?_)
  rw [← Option.some.inj hf]
  exact g_vret hx hb hr hlk hK hP hD hS dX9_begin_18
