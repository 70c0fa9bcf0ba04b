def f_X0_restore (fu : Nat) (r0_4 : Nat) (s0 : St) (s2 : St) (L6 : List Nat) (c6 : Nat → Nat × (Nat → Int32)) (s3 : St) (s4 : St) (s5 : FSt) (p1 : Int32) (p2 : Int32) : Option (St × St × FSt) := (f_X0_isThere fu s0 s2 p1 p2).bind (fun q_3 => if q_3 = 0 then (some (s3, s4, s5)) else ((f_X0_wordingOf fu s0 s2 p1 p2).bind (fun q_12 => (f_X5_stringFrom fu s2 p1 p2).bind (fun q_22 => (f_X5_stringLength fu s2 p1 p2).bind (fun q_40 => if ltb q_12 161 = true then ((f_X7_setString fu (s5.1 q_12) q_22 q_40 0).bind (fun q_44 => (f_X5_widthOf fu s2 p2).bind (fun q_57 => if ltb q_12 161 = true then (if memb ((fG s5 q_12 q_44 r0_4).2 q_12) L6 = true then ((f_X1_layOut fu ((c6 ((fG s5 q_12 q_44 r0_4).2 q_12)).1) ((c6 ((fG s5 q_12 q_44 r0_4).2 q_12)).2) s3 s4 ((fG s5 q_12 q_44 r0_4).1 q_12) q_57).bind (fun q_60 => some (q_60.1, q_60.2.1, fU (fG s5 q_12 q_44 r0_4) q_12 q_60.2.2))) else none) else none))) else none)))))
theorem hdX0_restore : yX0_restore.cls = RX0 ∧ yX0_restore.cls ≠ "java/lang/invoke/MethodHandle" ∧ yX0_restore.cls ≠ "java/lang/invoke/VarHandle" ∧ (parseMethodDescriptor yX0_restore.desc).map (fun d => d.parameters.length) = some 2 := by decide +kernel
set_option maxHeartbeats 4000000 in
set_option maxRecDepth 100000 in
theorem c_X0_restore (l : Launch) (D : va_G) (cy : Nat → ClassId) (h0 : Nat) (r0_4 : Nat) (s0 : St) (h1 : Nat) (h2 : Nat) (a2 : Nat → Nat) (s2 : St) (h3 : Nat) (a3 : Nat → Nat) (s3 : St) (h4 : Nat) (a4 : Nat → Nat) (s4 : St)  (a5 : Nat → Nat) (y5 : Nat → Nat) (s5 : FSt)  (L6 : List Nat) (c6 : Nat → Nat × (Nat → Int32)) (sz fu : Nat) (p1 : Int32) (p2 : Int32) (out : St × St × FSt) (hf : f_X0_restore fu r0_4 s0 s2 L6 c6 s3 s4 s5 p1 p2 = some out) :
    Met l yX0_restore (WS yX0_restore cX0_restore 5 none) ({ frames := 4, cells := 0, slots := 0, locals := 94 } : Room) (va_Pc [.ref h0, .int p1, .int p2] (gP D cy sz (((w0 cy h0 h1 (a5 160) h3 h2 r0_4 s0) ++ (wWa cy h1 a5) ++ (w5 cy h2 a2 s2) ++ (w1 cy h3 h4 a3 s3) ++ (wP cy h4 a4 s4)) ++ ((wF cy a5 y5 s5) ++ (wK cy L6 c6))))) ((fun A : Nat → Prop => gQv D cy A (((w0 cy h0 h1 (a5 160) h3 h2 r0_4 s0) ++ (wWa cy h1 a5) ++ (w5 cy h2 a2 s2) ++ (w1 cy h3 h4 a3 out.1) ++ (wP cy h4 a4 out.2.1)) ++ ((wF cy a5 y5 out.2.2) ++ (wK cy L6 c6)))) (va_A (((w0 cy h0 h1 (a5 160) h3 h2 r0_4 s0) ++ (wWa cy h1 a5) ++ (w5 cy h2 a2 s2) ++ (w1 cy h3 h4 a3 s3) ++ (wP cy h4 a4 s4)) ++ ((wF cy a5 y5 s5) ++ (wK cy L6 c6))) sz)) 0 0 (va_A (((w0 cy h0 h1 (a5 160) h3 h2 r0_4 s0) ++ (wWa cy h1 a5) ++ (w5 cy h2 a2 s2) ++ (w1 cy h3 h4 a3 s3) ++ (wP cy h4 a4 s4)) ++ ((wF cy a5 y5 s5) ++ (wK cy L6 c6))) sz) := by
  refine g_met (cc := cX0_restore) (maxL := 5) (ret := none) (fun A : Nat → Prop => gQv D cy A (((w0 cy h0 h1 (a5 160) h3 h2 r0_4 s0) ++ (wWa cy h1 a5) ++ (w5 cy h2 a2 s2) ++ (w1 cy h3 h4 a3 out.1) ++ (wP cy h4 a4 out.2.1)) ++ ((wF cy a5 y5 out.2.2) ++ (wK cy L6 c6)))) (by decide +kernel) rfl (Nat.le_of_ble_eq_true rfl) ?_
  intro p e s m below meth c A C hA hK hP hD ls hl
  obtain ⟨hx, hb, hr, hml, hown, hts, hlk⟩ := id C
  have hown : s.vm.findClass RX0 = some m.cls := hown
  have hS : va_S A s.heap s.heap [] := va_S.rf
  have hl : lv_has ls 5 [(0, .ref h0), (1, .int p1), (2, .int p2)] := hl
  have hk_24 := hts _ (List.mem_cons_of_mem _ fl_RX0_24)
  have hk_28 := hts _ (List.mem_cons_of_mem _ fl_RX0_28)
  have hk_20 := hts _ (List.mem_cons_of_mem _ fl_RX0_20)
  unfold f_X0_restore at hf
  refine lv_aload_n hx hb dX0_restore_0 rfl (lv_at hl 0 rfl) ?_
  refine lv_iload_n hx hb dX0_restore_1 rfl (lv_at hl 1 rfl) ?_
  refine lv_iload_n hx hb dX0_restore_2 rfl (lv_at hl 2 rfl) ?_
  obtain ⟨q_3, hc_3, hf⟩ := op_bind hf
  refine g_callViT (As := [.int p1, .int p2]) (rest := []) (w2 := (w0 cy h0 h1 (a5 160) h3 h2 r0_4 s0) ++ (wWa cy h1 a5) ++ (w5 cy h2 a2 s2) ++ (w1 cy h3 h4 a3 s3) ++ (wP cy h4 a4 s4)) ⟨hx, hb, hml, hown, hts⟩ (c_X0_isThere l D cy h0 h1 (a5 160) h3 r0_4 s0 h2 a2 s2 _ fu p1 p2 _ hc_3) (cwV 2 hts (gi_V ml_RX0_60 im_X0_isThere se_X0_isThere in_RX0 cd_X0_isThere) rfl rfl rfl hdX0_isThere ⟨Nat.le_of_ble_eq_true rfl, Nat.le_of_ble_eq_true rfl⟩) (va_recv hK hP (ci := 0) (q0 := 0) rfl rfl) rfl hl.1 rfl (Nat.le_of_ble_eq_true rfl) dX0_restore_3 hK hP hD hS hA [0, 2, 3, 4, 5, 6, 7, 8, 9, 10] [1, 11, 12, 13, 14, 15, 16, 17, 18, 19, 20, 21, 22, 23, 24, 25, 26, 27, 28, 29, 30] [21, 0, 22, 23, 24, 25, 26, 27, 28, 29, 30, 1, 2, 3, 4, 5, 6, 7, 8, 9, 10, 11, 12, 13, 14, 15, 16, 17, 18, 19, 20] rfl rfl rfl rfl (by decide) rfl rfl (fun H locs hP hD hS => ?_)
  refine lv_if_eq (tgt := 63) hx hb dX0_restore_6 (by decide) (fun c_6 => ?_) (fun c_6 => ?_)
  · have hf := op_pos c_6 hf
    rw [← Option.some.inj hf]
    exact g_vret hx hb hr hlk hK hP hD hS dX0_restore_63
  · have hf := op_neg c_6 hf
    refine lv_aload_n hx hb dX0_restore_9 rfl (lv_at hl 0 rfl) ?_
    refine lv_iload_n hx hb dX0_restore_10 rfl (lv_at hl 1 rfl) ?_
    refine lv_iload_n hx hb dX0_restore_11 rfl (lv_at hl 2 rfl) ?_
    obtain ⟨q_12, hc_12, hf⟩ := op_bind hf
    refine g_callVrT (As := [.int p1, .int p2]) (rest := []) (w2 := (w0 cy h0 h1 (a5 160) h3 h2 r0_4 s0) ++ (wWa cy h1 a5) ++ (w5 cy h2 a2 s2) ++ (w1 cy h3 h4 a3 s3) ++ (wP cy h4 a4 s4)) ⟨hx, hb, hml, hown, hts⟩ (c_X0_wordingOf l D cy h0 h3 r0_4 s0 h1 a5 h2 a2 s2 _ fu p1 p2 _ hc_12) (cwV 2 hts (gi_V ml_RX0_52 im_X0_wordingOf se_X0_wordingOf in_RX0 cd_X0_wordingOf) rfl rfl rfl hdX0_wordingOf ⟨Nat.le_of_ble_eq_true rfl, Nat.le_of_ble_eq_true rfl⟩) (va_recv hK hP (ci := 0) (q0 := 0) rfl rfl) rfl hl.1 rfl (Nat.le_of_ble_eq_true rfl) dX0_restore_12 hK hP hD hS hA [0, 1, 2, 3, 4, 5, 6, 7, 8, 9, 10] [11, 12, 13, 14, 15, 16, 17, 18, 19, 20, 21, 22, 23, 24, 25, 26, 27, 28, 29, 30] [20, 21, 22, 23, 24, 25, 26, 27, 28, 29, 30, 0, 1, 2, 3, 4, 5, 6, 7, 8, 9, 10, 11, 12, 13, 14, 15, 16, 17, 18, 19] rfl rfl rfl rfl (by decide) rfl rfl (fun H locs hP hD hS => ?_)
    refine lv_astore_n (lv' := [(3, .ref (a5 q_12)), (0, .ref h0), (1, .int p1), (2, .int p2)]) hx hb dX0_restore_15 rfl hl (by decide) rfl (fun ls hl => ?_)
    refine lv_aload_n hx hb dX0_restore_16 rfl (lv_at hl 1 rfl) ?_
    refine va_get (ci := 0) (v := .ref h2) (C := RX0) (T := TX0) (N := 5) hx hb hts (fun w h => List.mem_cons_of_mem _ (inX0 w h)) hown hK hP 0 rfl rfl 3 (by decide) hk_24 (fun _ h9 => h9) rfl dX0_restore_17 ?_
    refine lv_iload_n hx hb dX0_restore_20 rfl (lv_at hl 2 rfl) ?_
    refine lv_iload_n hx hb dX0_restore_21 rfl (lv_at hl 3 rfl) ?_
    obtain ⟨q_22, hc_22, hf⟩ := op_bind hf
    refine g_callViT (As := [.int p1, .int p2]) (rest := []) (w2 := (w0 cy h0 h1 (a5 160) h3 h2 r0_4 s0) ++ (wWa cy h1 a5) ++ (w5 cy h2 a2 s2) ++ (w1 cy h3 h4 a3 s3) ++ (wP cy h4 a4 s4)) ⟨hx, hb, hml, hown, hts⟩ (c_X5_stringFrom l D cy h2 a2 s2 _ fu p1 p2 _ hc_22) (cwV 2 hts (gi_V ml_RX0_64 im_X5_stringFrom se_X5_stringFrom in_RX5 cd_X5_stringFrom) rfl rfl rfl hdX5_stringFrom ⟨Nat.le_of_ble_eq_true rfl, Nat.le_of_ble_eq_true rfl⟩) (va_recv hK hP (ci := 5) (q0 := 2) rfl rfl) rfl hl.1 rfl (Nat.le_of_ble_eq_true rfl) dX0_restore_22 hK hP hD hS hA [2, 3, 4, 5, 6, 7, 8, 9, 10] [0, 1, 11, 12, 13, 14, 15, 16, 17, 18, 19, 20, 21, 22, 23, 24, 25, 26, 27, 28, 29, 30] [0, 1, 22, 23, 24, 25, 26, 27, 28, 29, 30, 2, 3, 4, 5, 6, 7, 8, 9, 10, 11, 12, 13, 14, 15, 16, 17, 18, 19, 20, 21] rfl rfl rfl rfl (by decide) rfl rfl (fun H locs hP hD hS => ?_)
    refine lv_istore (lv' := [(4, .int q_22), (3, .ref (a5 q_12)), (0, .ref h0), (1, .int p1), (2, .int p2)]) hx hb dX0_restore_25 hl (by decide) rfl (fun ls hl => ?_)
    refine lv_aload_n hx hb dX0_restore_27 rfl (lv_at hl 1 rfl) ?_
    refine lv_aload_n hx hb dX0_restore_28 rfl (lv_at hl 2 rfl) ?_
    refine va_get (ci := 0) (v := .ref r0_4) (C := RX0) (T := TX0) (N := 5) hx hb hts (fun w h => List.mem_cons_of_mem _ (inX0 w h)) hown hK hP 0 rfl rfl 4 (by decide) hk_28 (fun _ h9 => h9) rfl dX0_restore_29 ?_
    refine lv_iload hx hb dX0_restore_32 (lv_at hl 0 rfl) ?_
    refine lv_aload_n hx hb dX0_restore_34 rfl (lv_at hl 2 rfl) ?_
    refine va_get (ci := 0) (v := .ref h2) (C := RX0) (T := TX0) (N := 5) hx hb hts (fun w h => List.mem_cons_of_mem _ (inX0 w h)) hown hK hP 0 rfl rfl 3 (by decide) hk_24 (fun _ h9 => h9) rfl dX0_restore_35 ?_
    refine lv_iload_n hx hb dX0_restore_38 rfl (lv_at hl 3 rfl) ?_
    refine lv_iload_n hx hb dX0_restore_39 rfl (lv_at hl 4 rfl) ?_
    obtain ⟨q_40, hc_40, hf⟩ := op_bind hf
    refine g_callViT (As := [.int p1, .int p2]) (rest := [.int q_22, .ref r0_4, .ref (a5 q_12)]) (w2 := (w0 cy h0 h1 (a5 160) h3 h2 r0_4 s0) ++ (wWa cy h1 a5) ++ (w5 cy h2 a2 s2) ++ (w1 cy h3 h4 a3 s3) ++ (wP cy h4 a4 s4)) ⟨hx, hb, hml, hown, hts⟩ (c_X5_stringLength l D cy h2 a2 s2 _ fu p1 p2 _ hc_40) (cwV 2 hts (gi_V ml_RX0_68 im_X5_stringLength se_X5_stringLength in_RX5 cd_X5_stringLength) rfl rfl rfl hdX5_stringLength ⟨Nat.le_of_ble_eq_true rfl, Nat.le_of_ble_eq_true rfl⟩) (va_recv hK hP (ci := 5) (q0 := 2) rfl rfl) rfl hl.1 rfl (Nat.le_of_ble_eq_true rfl) dX0_restore_40 hK hP hD hS hA [2, 3, 4, 5, 6, 7, 8, 9, 10] [0, 1, 11, 12, 13, 14, 15, 16, 17, 18, 19, 20, 21, 22, 23, 24, 25, 26, 27, 28, 29, 30] [0, 1, 22, 23, 24, 25, 26, 27, 28, 29, 30, 2, 3, 4, 5, 6, 7, 8, 9, 10, 11, 12, 13, 14, 15, 16, 17, 18, 19, 20, 21] rfl rfl rfl rfl (by decide) rfl rfl (fun H locs hP hD hS => ?_)
    refine lv_iconst (v := 0) hx hb dX0_restore_43 (by decide) ?_
    obtain ⟨hj_44, hf⟩ := op_if hf
    obtain ⟨q_44, hc_44, hf⟩ := op_bind hf
    have hP := va_P_perm (foc7 cy a5 y5 s5 (wK cy L6 c6) ((w0 cy h0 h1 (a5 160) h3 h2 r0_4 s0) ++ (wWa cy h1 a5) ++ (w5 cy h2 a2 s2) ++ (w1 cy h3 h4 a3 s3) ++ (wP cy h4 a4 s4)) (ltb_lt hj_44)) hP
    have hD := va_D_perm (foc7 cy a5 y5 s5 (wK cy L6 c6) ((w0 cy h0 h1 (a5 160) h3 h2 r0_4 s0) ++ (wWa cy h1 a5) ++ (w5 cy h2 a2 s2) ++ (w1 cy h3 h4 a3 s3) ++ (wP cy h4 a4 s4)) (ltb_lt hj_44)) hD
    refine g_callVvT (As := [.ref r0_4, .int q_22, .int q_40, .int 0]) (rest := []) (w2 := (w0 cy h0 h1 (a5 160) h3 h2 r0_4 s0) ++ (wWa cy h1 a5) ++ (w5 cy h2 a2 s2) ++ (w1 cy h3 h4 a3 s3) ++ (wP cy h4 a4 s4) ++ (w7 cy (a5 q_12) r0_4 (fun _ => y5 q_12) q_44)) ⟨hx, hb, hml, hown, hts⟩ (c_X7_setString l D cy (a5 q_12) (s5.2 q_12) (fun _ => y5 q_12) (s5.1 q_12) r0_4 _ fu q_22 q_40 0 _ hc_44) (cwV 4 hts (gi_V ml_RX0_71 im_X7_setString se_X7_setString in_RX7 cd_X7_setString) rfl rfl rfl hdX7_setString ⟨Nat.le_of_ble_eq_true rfl, Nat.le_of_ble_eq_true rfl⟩) (va_recv hK hP (ci := 7) (q0 := 31) rfl rfl) rfl hl.1 rfl (Nat.le_of_ble_eq_true rfl) dX0_restore_44 hK hP hD hS hA [31, 32] [0, 1, 2, 3, 4, 5, 6, 7, 8, 9, 10, 11, 12, 13, 14, 15, 16, 17, 18, 19, 20, 21, 22, 23, 24, 25, 26, 27, 28, 29, 30] [0, 1, 2, 3, 4, 5, 6, 7, 8, 9, 10, 11, 12, 13, 14, 15, 16, 17, 18, 19, 20, 21, 22, 23, 24, 25, 26, 27, 28, 29, 30, 31, 32] rfl rfl rfl rfl (by decide) rfl rfl (fun H locs hP hD hS => ?_)
    have hP := va_P_perm (bak7 cy a5 y5 s5 (wK cy L6 c6) ((w0 cy h0 h1 (a5 160) h3 h2 r0_4 s0) ++ (wWa cy h1 a5) ++ (w5 cy h2 a2 s2) ++ (w1 cy h3 h4 a3 s3) ++ (wP cy h4 a4 s4)) (ltb_lt hj_44) q_44 r0_4) hP
    have hD := va_D_perm (bak7 cy a5 y5 s5 (wK cy L6 c6) ((w0 cy h0 h1 (a5 160) h3 h2 r0_4 s0) ++ (wWa cy h1 a5) ++ (w5 cy h2 a2 s2) ++ (w1 cy h3 h4 a3 s3) ++ (wP cy h4 a4 s4)) (ltb_lt hj_44) q_44 r0_4) hD
    refine lv_aload_n hx hb dX0_restore_47 rfl (lv_at hl 2 rfl) ?_
    refine va_get (ci := 0) (v := .ref h3) (C := RX0) (T := TX0) (N := 5) hx hb hts (fun w h => List.mem_cons_of_mem _ (inX0 w h)) hown hK hP 0 rfl rfl 2 (by decide) hk_20 (fun _ h9 => h9) rfl dX0_restore_48 ?_
    refine lv_aload_n hx hb dX0_restore_51 rfl (lv_at hl 1 rfl) ?_
    refine lv_aload_n hx hb dX0_restore_52 rfl (lv_at hl 2 rfl) ?_
    refine va_get (ci := 0) (v := .ref h2) (C := RX0) (T := TX0) (N := 5) hx hb hts (fun w h => List.mem_cons_of_mem _ (inX0 w h)) hown hK hP 0 rfl rfl 3 (by decide) hk_24 (fun _ h9 => h9) rfl dX0_restore_53 ?_
    refine lv_iload_n hx hb dX0_restore_56 rfl (lv_at hl 4 rfl) ?_
    obtain ⟨q_57, hc_57, hf⟩ := op_bind hf
    refine g_callViT (As := [.int p2]) (rest := [.ref (a5 q_12), .ref h3]) (w2 := (w0 cy h0 h1 (a5 160) h3 h2 r0_4 s0) ++ (wWa cy h1 a5) ++ (w5 cy h2 a2 s2) ++ (w1 cy h3 h4 a3 s3) ++ (wP cy h4 a4 s4)) ⟨hx, hb, hml, hown, hts⟩ (c_X5_widthOf l D cy h2 a2 s2 _ fu p2 _ hc_57) (cwV 1 hts (gi_V ml_RX0_75 im_X5_widthOf se_X5_widthOf in_RX5 cd_X5_widthOf) rfl rfl rfl hdX5_widthOf ⟨Nat.le_of_ble_eq_true rfl, Nat.le_of_ble_eq_true rfl⟩) (va_recv hK hP (ci := 5) (q0 := 2) rfl rfl) rfl hl.1 rfl (Nat.le_of_ble_eq_true rfl) dX0_restore_57 hK hP hD hS hA [2, 3, 4, 5, 6, 7, 8, 9, 10] [0, 1, 11, 12, 13, 14, 15, 16, 17, 18, 19, 20, 21, 22, 23, 24, 25, 26, 27, 28, 29, 30] [0, 1, 22, 23, 24, 25, 26, 27, 28, 29, 30, 2, 3, 4, 5, 6, 7, 8, 9, 10, 11, 12, 13, 14, 15, 16, 17, 18, 19, 20, 21] rfl rfl rfl rfl (by decide) rfl rfl (fun H locs hP hD hS => ?_)
    obtain ⟨hj_60, hf⟩ := op_if hf
    obtain ⟨hm_60, hf⟩ := op_if hf
    obtain ⟨q_60, hc_60, hf⟩ := op_bind hf
    have hP := va_P_perm (foc7V cy a5 y5 (fG s5 q_12 q_44 r0_4) L6 c6 ((w0 cy h0 h1 (a5 160) h3 h2 r0_4 s0) ++ (wWa cy h1 a5) ++ (w5 cy h2 a2 s2) ++ (w1 cy h3 h4 a3 s3) ++ (wP cy h4 a4 s4)) (ltb_lt hj_60) (memb_in hm_60)) hP
    have hD := va_D_perm (foc7V cy a5 y5 (fG s5 q_12 q_44 r0_4) L6 c6 ((w0 cy h0 h1 (a5 160) h3 h2 r0_4 s0) ++ (wWa cy h1 a5) ++ (w5 cy h2 a2 s2) ++ (w1 cy h3 h4 a3 s3) ++ (wP cy h4 a4 s4)) (ltb_lt hj_60) (memb_in hm_60)) hD
    refine g_callVvT (As := [.ref (a5 q_12), .int q_57]) (rest := []) (w2 := (w0 cy h0 h1 (a5 160) h3 h2 r0_4 s0) ++ (wWa cy h1 a5) ++ (w5 cy h2 a2 s2) ++ (w1 cy h3 h4 a3 q_60.1) ++ (wP cy h4 a4 q_60.2.1) ++ (w7 cy (a5 q_12) ((fG s5 q_12 q_44 r0_4).2 q_12) (fun _ => y5 q_12) q_60.2.2) ++ (wV cy ((fG s5 q_12 q_44 r0_4).2 q_12) ((c6 ((fG s5 q_12 q_44 r0_4).2 q_12)).1) ((c6 ((fG s5 q_12 q_44 r0_4).2 q_12)).2))) ⟨hx, hb, hml, hown, hts⟩ (c_X1_layOut l D cy h3 a3 s3 h4 a4 s4 (a5 q_12) (fun _ => y5 q_12) ((fG s5 q_12 q_44 r0_4).1 q_12) ((fG s5 q_12 q_44 r0_4).2 q_12) ((c6 ((fG s5 q_12 q_44 r0_4).2 q_12)).1) ((c6 ((fG s5 q_12 q_44 r0_4).2 q_12)).2) _ fu q_57 _ hc_60) (cwV 2 hts (gi_V ml_RX0_79 im_X1_layOut se_X1_layOut in_RX1 cd_X1_layOut) rfl rfl rfl hdX1_layOut ⟨Nat.le_of_ble_eq_true rfl, Nat.le_of_ble_eq_true rfl⟩) (va_recv hK hP (ci := 1) (q0 := 11) rfl rfl) rfl hl.1 rfl (Nat.le_of_ble_eq_true rfl) dX0_restore_60 hK hP hD hS hA [11, 12, 13, 14, 15, 16, 17, 18, 19, 20, 21, 22, 23, 24, 25, 26, 27, 28, 29, 30, 31, 32, 33] [0, 1, 2, 3, 4, 5, 6, 7, 8, 9, 10] [0, 1, 2, 3, 4, 5, 6, 7, 8, 9, 10, 11, 12, 13, 14, 15, 16, 17, 18, 19, 20, 21, 22, 23, 24, 25, 26, 27, 28, 29, 30, 31, 32, 33] rfl rfl rfl rfl (by decide) rfl rfl (fun H locs hP hD hS => ?_)
    have hP := va_P_perm (bak7V cy a5 y5 (fG s5 q_12 q_44 r0_4) L6 c6 ((w0 cy h0 h1 (a5 160) h3 h2 r0_4 s0) ++ (wWa cy h1 a5) ++ (w5 cy h2 a2 s2) ++ (w1 cy h3 h4 a3 q_60.1) ++ (wP cy h4 a4 q_60.2.1)) (ltb_lt hj_60) (memb_in hm_60) q_60.2.2) hP
    have hD := va_D_perm (bak7V cy a5 y5 (fG s5 q_12 q_44 r0_4) L6 c6 ((w0 cy h0 h1 (a5 160) h3 h2 r0_4 s0) ++ (wWa cy h1 a5) ++ (w5 cy h2 a2 s2) ++ (w1 cy h3 h4 a3 q_60.1) ++ (wP cy h4 a4 q_60.2.1)) (ltb_lt hj_60) (memb_in hm_60) q_60.2.2) hD
    rw [← Option.some.inj hf]
    exact g_vret hx hb hr hlk hK hP hD hS dX0_restore_63
def f_X0_restoreAll_L15 (k_2 : St → St → (FSt) → Int32 → Option (St × St × FSt)) (fu : Nat) (r0_4 : Nat) (s0 : St) (s2 : St) (L6 : List Nat) (c6 : Nat → Nat × (Nat → Int32)) : Nat → St → St → (FSt) → Int32 → Int32 → Option (St × St × FSt)
  | 0, _, _, _, _, _ => none
  | n_15 + 1, u3, u4, u5, x1, x2 => if (s2.1 0) ≤ x2 then (k_2 u3 u4 u5 (x1 + 1)) else ((f_X0_wordingOf fu s0 s2 x1 x2).bind (fun q_29 => if ltb q_29 161 = true then (if ((u5.1 q_29).1 3) = 0 then (f_X0_restoreAll_L15 k_2 fu r0_4 s0 s2 L6 c6 n_15 u3 u4 u5 x1 (x2 + 1)) else ((f_X0_restore fu r0_4 s0 s2 L6 c6 u3 u4 u5 x1 x2).bind (fun q_41 => f_X0_restoreAll_L15 k_2 fu r0_4 s0 s2 L6 c6 n_15 q_41.1 q_41.2.1 q_41.2.2 x1 (x2 + 1)))) else none))
set_option maxHeartbeats 4000000 in
set_option maxRecDepth 100000 in
theorem b_X0_restoreAll_L15 {p : Program} {e : Env} {s : State} {m : MethodId} {args : Array Value} {below : List Frame} {meth : Method} {c : Code} {A : Nat → Prop} (l : Launch) (D : va_G) (cy : Nat → ClassId) (h0 : Nat) (r0_4 : Nat) (s0 : St) (h1 : Nat) (h2 : Nat) (a2 : Nat → Nat) (s2 : St) (h3 : Nat) (a3 : Nat → Nat) (h4 : Nat) (a4 : Nat → Nat)  (a5 : Nat → Nat) (y5 : Nat → Nat)  (L6 : List Nat) (c6 : Nat → Nat × (Nat → Int32)) (fu : Nat) (out : St × St × FSt) (C : gC p s m args meth c (WS yX0_restoreAll cX0_restoreAll 3 none) cX0_restoreAll 3 none RX0) (hA : ∀ q : Nat, s.heap.size ≤ q → A q) (hK : va_K D vwCl (TY cy) s) (k_2 : St → St → (FSt) → Int32 → Option (St × St × FSt)) (hk_2 : ∀ (u3 : St) (u4 : St) (u5 : (FSt)) (x1 : Int32), k_2 u3 u4 u5 x1 = some out → ∀ (H : Heap) (locs : List Loc) (ls : Array Slot), va_P D vwCl (((w0 cy h0 h1 (a5 160) h3 h2 r0_4 s0) ++ (wWa cy h1 a5) ++ (w5 cy h2 a2 s2) ++ (w1 cy h3 h4 a3 u3) ++ (wP cy h4 a4 u4)) ++ ((wF cy a5 y5 u5) ++ (wK cy L6 c6))) H → va_D A (((w0 cy h0 h1 (a5 160) h3 h2 r0_4 s0) ++ (wWa cy h1 a5) ++ (w5 cy h2 a2 s2) ++ (w1 cy h3 h4 a3 u3) ++ (wP cy h4 a4 u4)) ++ ((wF cy a5 y5 u5) ++ (wK cy L6 c6))) → va_S A s.heap H locs → lv_has ls 3 [(0, .ref h0), (1, .int x1)] → W p l e ({ frames := 5, cells := 0, slots := 0, locals := 118 } : Room) s m args below meth c H locs 0 0 (MQ below (gQv D cy A (((w0 cy h0 h1 (a5 160) h3 h2 r0_4 s0) ++ (wWa cy h1 a5) ++ (w5 cy h2 a2 s2) ++ (w1 cy h3 h4 a3 out.1) ++ (wP cy h4 a4 out.2.1)) ++ ((wF cy a5 y5 out.2.2) ++ (wK cy L6 c6)))) args s 0 0 A) (F0 m 2 ls [])) :
    ∀ (n_15 : Nat), ∀ (u3 : St) (u4 : St) (u5 : (FSt)) (x1 : Int32) (x2 : Int32), f_X0_restoreAll_L15 k_2 fu r0_4 s0 s2 L6 c6 n_15 u3 u4 u5 x1 x2 = some out → ∀ (H : Heap) (locs : List Loc) (ls : Array Slot), va_P D vwCl (((w0 cy h0 h1 (a5 160) h3 h2 r0_4 s0) ++ (wWa cy h1 a5) ++ (w5 cy h2 a2 s2) ++ (w1 cy h3 h4 a3 u3) ++ (wP cy h4 a4 u4)) ++ ((wF cy a5 y5 u5) ++ (wK cy L6 c6))) H → va_D A (((w0 cy h0 h1 (a5 160) h3 h2 r0_4 s0) ++ (wWa cy h1 a5) ++ (w5 cy h2 a2 s2) ++ (w1 cy h3 h4 a3 u3) ++ (wP cy h4 a4 u4)) ++ ((wF cy a5 y5 u5) ++ (wK cy L6 c6))) → va_S A s.heap H locs → lv_has ls 3 [(0, .ref h0), (1, .int x1), (2, .int x2)] → W p l e ({ frames := 5, cells := 0, slots := 0, locals := 118 } : Room) s m args below meth c H locs 0 0 (MQ below (gQv D cy A (((w0 cy h0 h1 (a5 160) h3 h2 r0_4 s0) ++ (wWa cy h1 a5) ++ (w5 cy h2 a2 s2) ++ (w1 cy h3 h4 a3 out.1) ++ (wP cy h4 a4 out.2.1)) ++ ((wF cy a5 y5 out.2.2) ++ (wK cy L6 c6)))) args s 0 0 A) (F0 m 15 ls []) := by
  obtain ⟨hx, hb, hr, hml, hown, hts, hlk⟩ := id C
  have hown : s.vm.findClass RX0 = some m.cls := hown
  have hk_24 := hts _ (List.mem_cons_of_mem _ fl_RX0_24)
  have hk_45 := hts _ (List.mem_cons_of_mem _ fl_RX0_45)
  have hk_56 := hts _ (List.mem_cons_of_mem _ fl_RX0_56)
  intro n_15
  induction n_15 with
  | zero => intro u3 u4 u5 x1 x2 hf; exact op_no hf
  | succ n_15 ih_15 =>
    intro u3 u4 u5 x1 x2 hf H locs ls hP hD hS hl
    rw [f_X0_restoreAll_L15] at hf
    refine lv_iload_n hx hb dX0_restoreAll_15 rfl (lv_at hl 2 rfl) ?_
    refine lv_aload_n hx hb dX0_restoreAll_16 rfl (lv_at hl 0 rfl) ?_
    refine va_get (ci := 0) (v := .ref h2) (C := RX0) (T := TX0) (N := 5) hx hb hts (fun w h => List.mem_cons_of_mem _ (inX0 w h)) hown hK hP 0 rfl rfl 3 (by decide) hk_24 (fun _ h9 => h9) rfl dX0_restoreAll_17 ?_
    refine va_get (ci := 5) (v := .int (s2.1 0)) (C := RX5) (T := TX5) (N := 13) hx hb hts (fun w h => List.mem_cons_of_mem _ (inX5 w h)) hown hK hP 2 rfl rfl 0 (by decide) hk_45 (fun _ h9 => h9) rfl dX0_restoreAll_20 ?_
    refine lv_icmp_ge (tgt := 50) hx hb dX0_restoreAll_23 (by decide) (fun c_23 => ?_) (fun c_23 => ?_)
    · have hf := op_pos c_23 hf
      refine lv_iinc (v := x1 + 1) (lv' := [(1, .int (x1 + 1)), (0, .ref h0), (2, .int x2)]) hx hb dX0_restoreAll_50 hl (k := 1) rfl rfl (by decide) rfl (fun ls hl => ?_)
      refine lv_goto (tgt := 2) hx hb dX0_restoreAll_53 (by decide) ?_
      exact hk_2 u3 u4 u5 (x1 + 1) hf _ _ ls hP hD hS (lv_sub hl [1, 0] rfl)
    · have hf := op_neg c_23 hf
      refine lv_aload_n hx hb dX0_restoreAll_26 rfl (lv_at hl 0 rfl) ?_
      refine lv_iload_n hx hb dX0_restoreAll_27 rfl (lv_at hl 1 rfl) ?_
      refine lv_iload_n hx hb dX0_restoreAll_28 rfl (lv_at hl 2 rfl) ?_
      obtain ⟨q_29, hc_29, hf⟩ := op_bind hf
      refine g_callVrT (As := [.int x1, .int x2]) (rest := []) (w2 := (w0 cy h0 h1 (a5 160) h3 h2 r0_4 s0) ++ (wWa cy h1 a5) ++ (w5 cy h2 a2 s2) ++ (w1 cy h3 h4 a3 u3) ++ (wP cy h4 a4 u4)) ⟨hx, hb, hml, hown, hts⟩ (c_X0_wordingOf l D cy h0 h3 r0_4 s0 h1 a5 h2 a2 s2 _ fu x1 x2 _ hc_29) (cwV 2 hts (gi_V ml_RX0_52 im_X0_wordingOf se_X0_wordingOf in_RX0 cd_X0_wordingOf) rfl rfl rfl hdX0_wordingOf ⟨Nat.le_of_ble_eq_true rfl, Nat.le_of_ble_eq_true rfl⟩) (va_recv hK hP (ci := 0) (q0 := 0) rfl rfl) rfl hl.1 rfl (Nat.le_of_ble_eq_true rfl) dX0_restoreAll_29 hK hP hD hS hA [0, 1, 2, 3, 4, 5, 6, 7, 8, 9, 10] [11, 12, 13, 14, 15, 16, 17, 18, 19, 20, 21, 22, 23, 24, 25, 26, 27, 28, 29, 30] [20, 21, 22, 23, 24, 25, 26, 27, 28, 29, 30, 0, 1, 2, 3, 4, 5, 6, 7, 8, 9, 10, 11, 12, 13, 14, 15, 16, 17, 18, 19] rfl rfl rfl rfl (by decide) rfl rfl (fun H locs hP hD hS => ?_)
      obtain ⟨hg_32, hf⟩ := op_if hf
      obtain ⟨k9, hk9⟩ := fam_at cy a5 y5 u5 (wK cy L6 c6) ((w0 cy h0 h1 (a5 160) h3 h2 r0_4 s0) ++ (wWa cy h1 a5) ++ (w5 cy h2 a2 s2) ++ (w1 cy h3 h4 a3 u3) ++ (wP cy h4 a4 u4)) (ltb_lt hg_32)
      refine va_get (ci := 7) (v := .int ((u5.1 q_29).1 3)) (C := RX7) (T := TX7) (N := 7) hx hb hts (fun w h => List.mem_cons_of_mem _ (inX7 w h)) hown hK hP k9 hk9 rfl 3 (by decide) hk_56 (fun _ h9 => h9) rfl dX0_restoreAll_32 ?_
      refine lv_if_eq (tgt := 44) hx hb dX0_restoreAll_35 (by decide) (fun c_35 => ?_) (fun c_35 => ?_)
      · have hf := op_pos c_35 hf
        refine lv_iinc (v := x2 + 1) (lv' := [(2, .int (x2 + 1)), (0, .ref h0), (1, .int x1)]) hx hb dX0_restoreAll_44 hl (k := 2) rfl rfl (by decide) rfl (fun ls hl => ?_)
        refine lv_goto (tgt := 15) hx hb dX0_restoreAll_47 (by decide) ?_
        exact ih_15 u3 u4 u5 x1 (x2 + 1) hf _ _ ls hP hD hS (lv_sub hl [1, 2, 0] rfl)
      · have hf := op_neg c_35 hf
        refine lv_aload_n hx hb dX0_restoreAll_38 rfl (lv_at hl 0 rfl) ?_
        refine lv_iload_n hx hb dX0_restoreAll_39 rfl (lv_at hl 1 rfl) ?_
        refine lv_iload_n hx hb dX0_restoreAll_40 rfl (lv_at hl 2 rfl) ?_
        obtain ⟨q_41, hc_41, hf⟩ := op_bind hf
        refine g_callVvU (As := [.int x1, .int x2]) (rest := []) (w2 := (w0 cy h0 h1 (a5 160) h3 h2 r0_4 s0) ++ (wWa cy h1 a5) ++ (w5 cy h2 a2 s2) ++ (w1 cy h3 h4 a3 q_41.1) ++ (wP cy h4 a4 q_41.2.1)) (tl1 := (wF cy a5 y5 q_41.2.2) ++ (wK cy L6 c6)) ⟨hx, hb, hml, hown, hts⟩ (c_X0_restore l D cy h0 r0_4 s0 h1 h2 a2 s2 h3 a3 u3 h4 a4 u4 a5 y5 u5 L6 c6 _ fu x1 x2 _ hc_41) (cwV 2 hts (gi_V ml_RX0_48 im_X0_restore se_X0_restore in_RX0 cd_X0_restore) rfl rfl rfl hdX0_restore ⟨Nat.le_of_ble_eq_true rfl, Nat.le_of_ble_eq_true rfl⟩) (va_recv hK hP (ci := 0) (q0 := 0) rfl rfl) rfl hl.1 rfl (Nat.le_of_ble_eq_true rfl) dX0_restoreAll_41 hK hP hD hS hA [0, 1, 2, 3, 4, 5, 6, 7, 8, 9, 10, 11, 12, 13, 14, 15, 16, 17, 18, 19, 20, 21, 22, 23, 24, 25, 26, 27, 28, 29, 30] [] [0, 1, 2, 3, 4, 5, 6, 7, 8, 9, 10, 11, 12, 13, 14, 15, 16, 17, 18, 19, 20, 21, 22, 23, 24, 25, 26, 27, 28, 29, 30] rfl rfl rfl rfl (by decide) rfl rfl (fun H locs hP hD hS => ?_)
        refine lv_iinc (v := x2 + 1) (lv' := [(2, .int (x2 + 1)), (0, .ref h0), (1, .int x1)]) hx hb dX0_restoreAll_44 hl (k := 2) rfl rfl (by decide) rfl (fun ls hl => ?_)
        refine lv_goto (tgt := 15) hx hb dX0_restoreAll_47 (by decide) ?_
        exact ih_15 q_41.1 q_41.2.1 q_41.2.2 x1 (x2 + 1) hf _ _ ls hP hD hS (lv_sub hl [1, 2, 0] rfl)
def f_X0_restoreAll_L2  (fu : Nat) (r0_4 : Nat) (s0 : St) (s2 : St) (L6 : List Nat) (c6 : Nat → Nat × (Nat → Int32)) : Nat → St → St → (FSt) → Int32 → Option (St × St × FSt)
  | 0, _, _, _, _ => none
  | n_2 + 1, u3, u4, u5, x1 => if (s2.1 1) ≤ x1 then (some (u3, u4, u5)) else (f_X0_restoreAll_L15 (f_X0_restoreAll_L2 fu r0_4 s0 s2 L6 c6 n_2) fu r0_4 s0 s2 L6 c6 fu u3 u4 u5 x1 0)
set_option maxHeartbeats 4000000 in
set_option maxRecDepth 100000 in
theorem b_X0_restoreAll_L2 {p : Program} {e : Env} {s : State} {m : MethodId} {args : Array Value} {below : List Frame} {meth : Method} {c : Code} {A : Nat → Prop} (l : Launch) (D : va_G) (cy : Nat → ClassId) (h0 : Nat) (r0_4 : Nat) (s0 : St) (h1 : Nat) (h2 : Nat) (a2 : Nat → Nat) (s2 : St) (h3 : Nat) (a3 : Nat → Nat) (h4 : Nat) (a4 : Nat → Nat)  (a5 : Nat → Nat) (y5 : Nat → Nat)  (L6 : List Nat) (c6 : Nat → Nat × (Nat → Int32)) (fu : Nat) (out : St × St × FSt) (C : gC p s m args meth c (WS yX0_restoreAll cX0_restoreAll 3 none) cX0_restoreAll 3 none RX0) (hA : ∀ q : Nat, s.heap.size ≤ q → A q) (hK : va_K D vwCl (TY cy) s)  :
    ∀ (n_2 : Nat), ∀ (u3 : St) (u4 : St) (u5 : (FSt)) (x1 : Int32), f_X0_restoreAll_L2 fu r0_4 s0 s2 L6 c6 n_2 u3 u4 u5 x1 = some out → ∀ (H : Heap) (locs : List Loc) (ls : Array Slot), va_P D vwCl (((w0 cy h0 h1 (a5 160) h3 h2 r0_4 s0) ++ (wWa cy h1 a5) ++ (w5 cy h2 a2 s2) ++ (w1 cy h3 h4 a3 u3) ++ (wP cy h4 a4 u4)) ++ ((wF cy a5 y5 u5) ++ (wK cy L6 c6))) H → va_D A (((w0 cy h0 h1 (a5 160) h3 h2 r0_4 s0) ++ (wWa cy h1 a5) ++ (w5 cy h2 a2 s2) ++ (w1 cy h3 h4 a3 u3) ++ (wP cy h4 a4 u4)) ++ ((wF cy a5 y5 u5) ++ (wK cy L6 c6))) → va_S A s.heap H locs → lv_has ls 3 [(0, .ref h0), (1, .int x1)] → W p l e ({ frames := 5, cells := 0, slots := 0, locals := 118 } : Room) s m args below meth c H locs 0 0 (MQ below (gQv D cy A (((w0 cy h0 h1 (a5 160) h3 h2 r0_4 s0) ++ (wWa cy h1 a5) ++ (w5 cy h2 a2 s2) ++ (w1 cy h3 h4 a3 out.1) ++ (wP cy h4 a4 out.2.1)) ++ ((wF cy a5 y5 out.2.2) ++ (wK cy L6 c6)))) args s 0 0 A) (F0 m 2 ls []) := by
  obtain ⟨hx, hb, hr, hml, hown, hts, hlk⟩ := id C
  have hown : s.vm.findClass RX0 = some m.cls := hown
  have hk_24 := hts _ (List.mem_cons_of_mem _ fl_RX0_24)
  have hk_39 := hts _ (List.mem_cons_of_mem _ fl_RX0_39)
  intro n_2
  induction n_2 with
  | zero => intro u3 u4 u5 x1 hf; exact op_no hf
  | succ n_2 ih_2 =>
    intro u3 u4 u5 x1 hf H locs ls hP hD hS hl
    rw [f_X0_restoreAll_L2] at hf
    refine lv_iload_n hx hb dX0_restoreAll_2 rfl (lv_at hl 1 rfl) ?_
    refine lv_aload_n hx hb dX0_restoreAll_3 rfl (lv_at hl 0 rfl) ?_
    refine va_get (ci := 0) (v := .ref h2) (C := RX0) (T := TX0) (N := 5) hx hb hts (fun w h => List.mem_cons_of_mem _ (inX0 w h)) hown hK hP 0 rfl rfl 3 (by decide) hk_24 (fun _ h9 => h9) rfl dX0_restoreAll_4 ?_
    refine va_get (ci := 5) (v := .int (s2.1 1)) (C := RX5) (T := TX5) (N := 13) hx hb hts (fun w h => List.mem_cons_of_mem _ (inX5 w h)) hown hK hP 2 rfl rfl 1 (by decide) hk_39 (fun _ h9 => h9) rfl dX0_restoreAll_7 ?_
    refine lv_icmp_ge (tgt := 56) hx hb dX0_restoreAll_10 (by decide) (fun c_10 => ?_) (fun c_10 => ?_)
    · have hf := op_pos c_10 hf
      rw [← Option.some.inj hf]
      exact g_vret hx hb hr hlk hK hP hD hS dX0_restoreAll_56
    · have hf := op_neg c_10 hf
      refine lv_iconst (v := 0) hx hb dX0_restoreAll_13 (by decide) ?_
      refine lv_istore_n (lv' := [(2, .int 0), (0, .ref h0), (1, .int x1)]) hx hb dX0_restoreAll_14 rfl hl (by decide) rfl (fun ls hl => ?_)
      exact b_X0_restoreAll_L15 l D cy h0 r0_4 s0 h1 h2 a2 s2 h3 a3 h4 a4 a5 y5 L6 c6 fu out C hA hK (f_X0_restoreAll_L2 fu r0_4 s0 s2 L6 c6 n_2) ih_2 fu u3 u4 u5 x1 0 hf _ _ ls hP hD hS (lv_sub hl [1, 2, 0] rfl)
def f_X0_restoreAll (fu : Nat) (r0_4 : Nat) (s0 : St) (s2 : St) (L6 : List Nat) (c6 : Nat → Nat × (Nat → Int32)) (s3 : St) (s4 : St) (s5 : FSt)  : Option (St × St × FSt) := f_X0_restoreAll_L2 fu r0_4 s0 s2 L6 c6 fu s3 s4 s5 0
theorem hdX0_restoreAll : yX0_restoreAll.cls = RX0 ∧ yX0_restoreAll.cls ≠ "java/lang/invoke/MethodHandle" ∧ yX0_restoreAll.cls ≠ "java/lang/invoke/VarHandle" ∧ (parseMethodDescriptor yX0_restoreAll.desc).map (fun d => d.parameters.length) = some 0 := by decide +kernel
set_option maxHeartbeats 4000000 in
set_option maxRecDepth 100000 in
theorem c_X0_restoreAll (l : Launch) (D : va_G) (cy : Nat → ClassId) (h0 : Nat) (r0_4 : Nat) (s0 : St) (h1 : Nat) (h2 : Nat) (a2 : Nat → Nat) (s2 : St) (h3 : Nat) (a3 : Nat → Nat) (s3 : St) (h4 : Nat) (a4 : Nat → Nat) (s4 : St)  (a5 : Nat → Nat) (y5 : Nat → Nat) (s5 : FSt)  (L6 : List Nat) (c6 : Nat → Nat × (Nat → Int32)) (sz fu : Nat)  (out : St × St × FSt) (hf : f_X0_restoreAll fu r0_4 s0 s2 L6 c6 s3 s4 s5 = some out) :
    Met l yX0_restoreAll (WS yX0_restoreAll cX0_restoreAll 3 none) ({ frames := 5, cells := 0, slots := 0, locals := 118 } : Room) (va_Pc [.ref h0] (gP D cy sz (((w0 cy h0 h1 (a5 160) h3 h2 r0_4 s0) ++ (wWa cy h1 a5) ++ (w5 cy h2 a2 s2) ++ (w1 cy h3 h4 a3 s3) ++ (wP cy h4 a4 s4)) ++ ((wF cy a5 y5 s5) ++ (wK cy L6 c6))))) ((fun A : Nat → Prop => gQv D cy A (((w0 cy h0 h1 (a5 160) h3 h2 r0_4 s0) ++ (wWa cy h1 a5) ++ (w5 cy h2 a2 s2) ++ (w1 cy h3 h4 a3 out.1) ++ (wP cy h4 a4 out.2.1)) ++ ((wF cy a5 y5 out.2.2) ++ (wK cy L6 c6)))) (va_A (((w0 cy h0 h1 (a5 160) h3 h2 r0_4 s0) ++ (wWa cy h1 a5) ++ (w5 cy h2 a2 s2) ++ (w1 cy h3 h4 a3 s3) ++ (wP cy h4 a4 s4)) ++ ((wF cy a5 y5 s5) ++ (wK cy L6 c6))) sz)) 0 0 (va_A (((w0 cy h0 h1 (a5 160) h3 h2 r0_4 s0) ++ (wWa cy h1 a5) ++ (w5 cy h2 a2 s2) ++ (w1 cy h3 h4 a3 s3) ++ (wP cy h4 a4 s4)) ++ ((wF cy a5 y5 s5) ++ (wK cy L6 c6))) sz) := by
  refine g_met (cc := cX0_restoreAll) (maxL := 3) (ret := none) (fun A : Nat → Prop => gQv D cy A (((w0 cy h0 h1 (a5 160) h3 h2 r0_4 s0) ++ (wWa cy h1 a5) ++ (w5 cy h2 a2 s2) ++ (w1 cy h3 h4 a3 out.1) ++ (wP cy h4 a4 out.2.1)) ++ ((wF cy a5 y5 out.2.2) ++ (wK cy L6 c6)))) (by decide +kernel) rfl (Nat.le_of_ble_eq_true rfl) ?_
  intro p e s m below meth c A C hA hK hP hD ls hl
  obtain ⟨hx, hb, hr, hml, hown, hts, hlk⟩ := id C
  have hown : s.vm.findClass RX0 = some m.cls := hown
  have hS : va_S A s.heap s.heap [] := va_S.rf
  have hl : lv_has ls 3 [(0, .ref h0)] := hl
  unfold f_X0_restoreAll at hf
  refine lv_iconst (v := 0) hx hb dX0_restoreAll_0 (by decide) ?_
  refine lv_istore_n (lv' := [(1, .int 0), (0, .ref h0)]) hx hb dX0_restoreAll_1 rfl hl (by decide) rfl (fun ls hl => ?_)
  exact b_X0_restoreAll_L2 l D cy h0 r0_4 s0 h1 h2 a2 s2 h3 a3 h4 a4 a5 y5 L6 c6 fu out C hA hK fu s3 s4 s5 0 hf _ _ ls hP hD hS (lv_sub hl [1, 0] rfl)
def f_X0_replace (fu : Nat) (rN : Nat) (s0 : St) (s2 : St) (L6 : List Nat) (c6 : Nat → Nat × (Nat → Int32)) (s3 : St) (s4 : St) (s5 : FSt) (p1 : Int32) (p2 : Int32) : Option (St × St × FSt) := (f_X0_isThere fu s0 s2 p1 p2).bind (fun q_3 => if q_3 = 0 then (some (s3, s4, s5)) else ((f_X0_wordingOf fu s0 s2 p1 p2).bind (fun q_12 => if memb rN L6 = true then (if ltb q_12 161 = true then ((f_X7_setString fu (s5.1 q_12) 0 (nI (c6 rN).1) 1).bind (fun q_24 => (f_X5_widthOf fu s2 p2).bind (fun q_38 => if ltb q_12 161 = true then (if memb ((fG s5 q_12 q_24 rN).2 q_12) L6 = true then ((f_X1_layOut fu ((c6 ((fG s5 q_12 q_24 rN).2 q_12)).1) ((c6 ((fG s5 q_12 q_24 rN).2 q_12)).2) s3 s4 ((fG s5 q_12 q_24 rN).1 q_12) q_38).bind (fun q_41 => some (q_41.1, q_41.2.1, fU (fG s5 q_12 q_24 rN) q_12 q_41.2.2))) else none) else none))) else none) else none)))
theorem hdX0_replace : yX0_replace.cls = RX0 ∧ yX0_replace.cls ≠ "java/lang/invoke/MethodHandle" ∧ yX0_replace.cls ≠ "java/lang/invoke/VarHandle" ∧ (parseMethodDescriptor yX0_replace.desc).map (fun d => d.parameters.length) = some 3 := by decide +kernel
set_option maxHeartbeats 4000000 in
set_option maxRecDepth 100000 in
theorem c_X0_replace (l : Launch) (D : va_G) (cy : Nat → ClassId) (h0 : Nat) (r0_4 : Nat) (s0 : St) (h1 : Nat) (h2 : Nat) (a2 : Nat → Nat) (s2 : St) (h3 : Nat) (a3 : Nat → Nat) (s3 : St) (h4 : Nat) (a4 : Nat → Nat) (s4 : St)  (a5 : Nat → Nat) (y5 : Nat → Nat) (s5 : FSt)  (L6 : List Nat) (c6 : Nat → Nat × (Nat → Int32)) (rN : Nat) (sz fu : Nat) (p1 : Int32) (p2 : Int32) (out : St × St × FSt) (hf : f_X0_replace fu rN s0 s2 L6 c6 s3 s4 s5 p1 p2 = some out) :
    Met l yX0_replace (WS yX0_replace cX0_replace 5 none) ({ frames := 4, cells := 0, slots := 0, locals := 94 } : Room) (va_Pc [.ref h0, .int p1, .int p2, .ref rN] (gP D cy sz (((w0 cy h0 h1 (a5 160) h3 h2 r0_4 s0) ++ (wWa cy h1 a5) ++ (w5 cy h2 a2 s2) ++ (w1 cy h3 h4 a3 s3) ++ (wP cy h4 a4 s4)) ++ ((wF cy a5 y5 s5) ++ (wK cy L6 c6))))) ((fun A : Nat → Prop => gQv D cy A (((w0 cy h0 h1 (a5 160) h3 h2 r0_4 s0) ++ (wWa cy h1 a5) ++ (w5 cy h2 a2 s2) ++ (w1 cy h3 h4 a3 out.1) ++ (wP cy h4 a4 out.2.1)) ++ ((wF cy a5 y5 out.2.2) ++ (wK cy L6 c6)))) (va_A (((w0 cy h0 h1 (a5 160) h3 h2 r0_4 s0) ++ (wWa cy h1 a5) ++ (w5 cy h2 a2 s2) ++ (w1 cy h3 h4 a3 s3) ++ (wP cy h4 a4 s4)) ++ ((wF cy a5 y5 s5) ++ (wK cy L6 c6))) sz)) 0 0 (va_A (((w0 cy h0 h1 (a5 160) h3 h2 r0_4 s0) ++ (wWa cy h1 a5) ++ (w5 cy h2 a2 s2) ++ (w1 cy h3 h4 a3 s3) ++ (wP cy h4 a4 s4)) ++ ((wF cy a5 y5 s5) ++ (wK cy L6 c6))) sz) := by
  refine g_met (cc := cX0_replace) (maxL := 5) (ret := none) (fun A : Nat → Prop => gQv D cy A (((w0 cy h0 h1 (a5 160) h3 h2 r0_4 s0) ++ (wWa cy h1 a5) ++ (w5 cy h2 a2 s2) ++ (w1 cy h3 h4 a3 out.1) ++ (wP cy h4 a4 out.2.1)) ++ ((wF cy a5 y5 out.2.2) ++ (wK cy L6 c6)))) (by decide +kernel) rfl (Nat.le_of_ble_eq_true rfl) ?_
  intro p e s m below meth c A C hA hK hP hD ls hl
  obtain ⟨hx, hb, hr, hml, hown, hts, hlk⟩ := id C
  have hown : s.vm.findClass RX0 = some m.cls := hown
  have hS : va_S A s.heap s.heap [] := va_S.rf
  have hl : lv_has ls 5 [(0, .ref h0), (1, .int p1), (2, .int p2), (3, .ref rN)] := hl
  have hk_20 := hts _ (List.mem_cons_of_mem _ fl_RX0_20)
  have hk_24 := hts _ (List.mem_cons_of_mem _ fl_RX0_24)
  unfold f_X0_replace at hf
  refine lv_aload_n hx hb dX0_replace_0 rfl (lv_at hl 0 rfl) ?_
  refine lv_iload_n hx hb dX0_replace_1 rfl (lv_at hl 1 rfl) ?_
  refine lv_iload_n hx hb dX0_replace_2 rfl (lv_at hl 2 rfl) ?_
  obtain ⟨q_3, hc_3, hf⟩ := op_bind hf
  refine g_callViT (As := [.int p1, .int p2]) (rest := []) (w2 := (w0 cy h0 h1 (a5 160) h3 h2 r0_4 s0) ++ (wWa cy h1 a5) ++ (w5 cy h2 a2 s2) ++ (w1 cy h3 h4 a3 s3) ++ (wP cy h4 a4 s4)) ⟨hx, hb, hml, hown, hts⟩ (c_X0_isThere l D cy h0 h1 (a5 160) h3 r0_4 s0 h2 a2 s2 _ fu p1 p2 _ hc_3) (cwV 2 hts (gi_V ml_RX0_60 im_X0_isThere se_X0_isThere in_RX0 cd_X0_isThere) rfl rfl rfl hdX0_isThere ⟨Nat.le_of_ble_eq_true rfl, Nat.le_of_ble_eq_true rfl⟩) (va_recv hK hP (ci := 0) (q0 := 0) rfl rfl) rfl hl.1 rfl (Nat.le_of_ble_eq_true rfl) dX0_replace_3 hK hP hD hS hA [0, 2, 3, 4, 5, 6, 7, 8, 9, 10] [1, 11, 12, 13, 14, 15, 16, 17, 18, 19, 20, 21, 22, 23, 24, 25, 26, 27, 28, 29, 30] [21, 0, 22, 23, 24, 25, 26, 27, 28, 29, 30, 1, 2, 3, 4, 5, 6, 7, 8, 9, 10, 11, 12, 13, 14, 15, 16, 17, 18, 19, 20] rfl rfl rfl rfl (by decide) rfl rfl (fun H locs hP hD hS => ?_)
  refine lv_if_eq (tgt := 44) hx hb dX0_replace_6 (by decide) (fun c_6 => ?_) (fun c_6 => ?_)
  · have hf := op_pos c_6 hf
    rw [← Option.some.inj hf]
    exact g_vret hx hb hr hlk hK hP hD hS dX0_replace_44
  · have hf := op_neg c_6 hf
    refine lv_aload_n hx hb dX0_replace_9 rfl (lv_at hl 0 rfl) ?_
    refine lv_iload_n hx hb dX0_replace_10 rfl (lv_at hl 1 rfl) ?_
    refine lv_iload_n hx hb dX0_replace_11 rfl (lv_at hl 2 rfl) ?_
    obtain ⟨q_12, hc_12, hf⟩ := op_bind hf
    refine g_callVrT (As := [.int p1, .int p2]) (rest := []) (w2 := (w0 cy h0 h1 (a5 160) h3 h2 r0_4 s0) ++ (wWa cy h1 a5) ++ (w5 cy h2 a2 s2) ++ (w1 cy h3 h4 a3 s3) ++ (wP cy h4 a4 s4)) ⟨hx, hb, hml, hown, hts⟩ (c_X0_wordingOf l D cy h0 h3 r0_4 s0 h1 a5 h2 a2 s2 _ fu p1 p2 _ hc_12) (cwV 2 hts (gi_V ml_RX0_52 im_X0_wordingOf se_X0_wordingOf in_RX0 cd_X0_wordingOf) rfl rfl rfl hdX0_wordingOf ⟨Nat.le_of_ble_eq_true rfl, Nat.le_of_ble_eq_true rfl⟩) (va_recv hK hP (ci := 0) (q0 := 0) rfl rfl) rfl hl.1 rfl (Nat.le_of_ble_eq_true rfl) dX0_replace_12 hK hP hD hS hA [0, 1, 2, 3, 4, 5, 6, 7, 8, 9, 10] [11, 12, 13, 14, 15, 16, 17, 18, 19, 20, 21, 22, 23, 24, 25, 26, 27, 28, 29, 30] [20, 21, 22, 23, 24, 25, 26, 27, 28, 29, 30, 0, 1, 2, 3, 4, 5, 6, 7, 8, 9, 10, 11, 12, 13, 14, 15, 16, 17, 18, 19] rfl rfl rfl rfl (by decide) rfl rfl (fun H locs hP hD hS => ?_)
    refine lv_astore (lv' := [(4, .ref (a5 q_12)), (0, .ref h0), (1, .int p1), (2, .int p2), (3, .ref rN)]) hx hb dX0_replace_15 hl (by decide) rfl (fun ls hl => ?_)
    refine lv_aload hx hb dX0_replace_17 (lv_at hl 0 rfl) ?_
    refine lv_aload_n hx hb dX0_replace_19 rfl (lv_at hl 4 rfl) ?_
    refine lv_iconst (v := 0) hx hb dX0_replace_20 (by decide) ?_
    refine lv_aload_n hx hb dX0_replace_21 rfl (lv_at hl 4 rfl) ?_
    obtain ⟨hg_22, hf⟩ := op_if hf
    obtain ⟨k9, hk9⟩ := K_at cy c6 (wF cy a5 y5 s5) ((w0 cy h0 h1 (a5 160) h3 h2 r0_4 s0) ++ (wWa cy h1 a5) ++ (w5 cy h2 a2 s2) ++ (w1 cy h3 h4 a3 s3) ++ (wP cy h4 a4 s4)) (memb_in hg_22)
    refine va_alen (v := nI (c6 rN).1) hx hb hK hP k9 1 hk9 rfl rfl dX0_replace_22 ?_
    refine lv_iconst (v := 1) hx hb dX0_replace_23 (by decide) ?_
    obtain ⟨hj_24, hf⟩ := op_if hf
    obtain ⟨q_24, hc_24, hf⟩ := op_bind hf
    have hP := va_P_perm (foc7 cy a5 y5 s5 (wK cy L6 c6) ((w0 cy h0 h1 (a5 160) h3 h2 r0_4 s0) ++ (wWa cy h1 a5) ++ (w5 cy h2 a2 s2) ++ (w1 cy h3 h4 a3 s3) ++ (wP cy h4 a4 s4)) (ltb_lt hj_24)) hP
    have hD := va_D_perm (foc7 cy a5 y5 s5 (wK cy L6 c6) ((w0 cy h0 h1 (a5 160) h3 h2 r0_4 s0) ++ (wWa cy h1 a5) ++ (w5 cy h2 a2 s2) ++ (w1 cy h3 h4 a3 s3) ++ (wP cy h4 a4 s4)) (ltb_lt hj_24)) hD
    refine g_callVvT (As := [.ref rN, .int 0, .int (nI (c6 rN).1), .int 1]) (rest := []) (w2 := (w0 cy h0 h1 (a5 160) h3 h2 r0_4 s0) ++ (wWa cy h1 a5) ++ (w5 cy h2 a2 s2) ++ (w1 cy h3 h4 a3 s3) ++ (wP cy h4 a4 s4) ++ (w7 cy (a5 q_12) rN (fun _ => y5 q_12) q_24)) ⟨hx, hb, hml, hown, hts⟩ (c_X7_setString l D cy (a5 q_12) (s5.2 q_12) (fun _ => y5 q_12) (s5.1 q_12) rN _ fu 0 (nI (c6 rN).1) 1 _ hc_24) (cwV 4 hts (gi_V ml_RX0_71 im_X7_setString se_X7_setString in_RX7 cd_X7_setString) rfl rfl rfl hdX7_setString ⟨Nat.le_of_ble_eq_true rfl, Nat.le_of_ble_eq_true rfl⟩) (va_recv hK hP (ci := 7) (q0 := 31) rfl rfl) rfl hl.1 rfl (Nat.le_of_ble_eq_true rfl) dX0_replace_24 hK hP hD hS hA [31, 32] [0, 1, 2, 3, 4, 5, 6, 7, 8, 9, 10, 11, 12, 13, 14, 15, 16, 17, 18, 19, 20, 21, 22, 23, 24, 25, 26, 27, 28, 29, 30] [0, 1, 2, 3, 4, 5, 6, 7, 8, 9, 10, 11, 12, 13, 14, 15, 16, 17, 18, 19, 20, 21, 22, 23, 24, 25, 26, 27, 28, 29, 30, 31, 32] rfl rfl rfl rfl (by decide) rfl rfl (fun H locs hP hD hS => ?_)
    have hP := va_P_perm (bak7 cy a5 y5 s5 (wK cy L6 c6) ((w0 cy h0 h1 (a5 160) h3 h2 r0_4 s0) ++ (wWa cy h1 a5) ++ (w5 cy h2 a2 s2) ++ (w1 cy h3 h4 a3 s3) ++ (wP cy h4 a4 s4)) (ltb_lt hj_24) q_24 rN) hP
    have hD := va_D_perm (bak7 cy a5 y5 s5 (wK cy L6 c6) ((w0 cy h0 h1 (a5 160) h3 h2 r0_4 s0) ++ (wWa cy h1 a5) ++ (w5 cy h2 a2 s2) ++ (w1 cy h3 h4 a3 s3) ++ (wP cy h4 a4 s4)) (ltb_lt hj_24) q_24 rN) hD
    refine lv_aload_n hx hb dX0_replace_27 rfl (lv_at hl 1 rfl) ?_
    refine va_get (ci := 0) (v := .ref h3) (C := RX0) (T := TX0) (N := 5) hx hb hts (fun w h => List.mem_cons_of_mem _ (inX0 w h)) hown hK hP 0 rfl rfl 2 (by decide) hk_20 (fun _ h9 => h9) rfl dX0_replace_28 ?_
    refine lv_aload hx hb dX0_replace_31 (lv_at hl 0 rfl) ?_
    refine lv_aload_n hx hb dX0_replace_33 rfl (lv_at hl 1 rfl) ?_
    refine va_get (ci := 0) (v := .ref h2) (C := RX0) (T := TX0) (N := 5) hx hb hts (fun w h => List.mem_cons_of_mem _ (inX0 w h)) hown hK hP 0 rfl rfl 3 (by decide) hk_24 (fun _ h9 => h9) rfl dX0_replace_34 ?_
    refine lv_iload_n hx hb dX0_replace_37 rfl (lv_at hl 3 rfl) ?_
    obtain ⟨q_38, hc_38, hf⟩ := op_bind hf
    refine g_callViT (As := [.int p2]) (rest := [.ref (a5 q_12), .ref h3]) (w2 := (w0 cy h0 h1 (a5 160) h3 h2 r0_4 s0) ++ (wWa cy h1 a5) ++ (w5 cy h2 a2 s2) ++ (w1 cy h3 h4 a3 s3) ++ (wP cy h4 a4 s4)) ⟨hx, hb, hml, hown, hts⟩ (c_X5_widthOf l D cy h2 a2 s2 _ fu p2 _ hc_38) (cwV 1 hts (gi_V ml_RX0_75 im_X5_widthOf se_X5_widthOf in_RX5 cd_X5_widthOf) rfl rfl rfl hdX5_widthOf ⟨Nat.le_of_ble_eq_true rfl, Nat.le_of_ble_eq_true rfl⟩) (va_recv hK hP (ci := 5) (q0 := 2) rfl rfl) rfl hl.1 rfl (Nat.le_of_ble_eq_true rfl) dX0_replace_38 hK hP hD hS hA [2, 3, 4, 5, 6, 7, 8, 9, 10] [0, 1, 11, 12, 13, 14, 15, 16, 17, 18, 19, 20, 21, 22, 23, 24, 25, 26, 27, 28, 29, 30] [0, 1, 22, 23, 24, 25, 26, 27, 28, 29, 30, 2, 3, 4, 5, 6, 7, 8, 9, 10, 11, 12, 13, 14, 15, 16, 17, 18, 19, 20, 21] rfl rfl rfl rfl (by decide) rfl rfl (fun H locs hP hD hS => ?_)
    obtain ⟨hj_41, hf⟩ := op_if hf
    obtain ⟨hm_41, hf⟩ := op_if hf
    obtain ⟨q_41, hc_41, hf⟩ := op_bind hf
    have hP := va_P_perm (foc7V cy a5 y5 (fG s5 q_12 q_24 rN) L6 c6 ((w0 cy h0 h1 (a5 160) h3 h2 r0_4 s0) ++ (wWa cy h1 a5) ++ (w5 cy h2 a2 s2) ++ (w1 cy h3 h4 a3 s3) ++ (wP cy h4 a4 s4)) (ltb_lt hj_41) (memb_in hm_41)) hP
    have hD := va_D_perm (foc7V cy a5 y5 (fG s5 q_12 q_24 rN) L6 c6 ((w0 cy h0 h1 (a5 160) h3 h2 r0_4 s0) ++ (wWa cy h1 a5) ++ (w5 cy h2 a2 s2) ++ (w1 cy h3 h4 a3 s3) ++ (wP cy h4 a4 s4)) (ltb_lt hj_41) (memb_in hm_41)) hD
    refine g_callVvT (As := [.ref (a5 q_12), .int q_38]) (rest := []) (w2 := (w0 cy h0 h1 (a5 160) h3 h2 r0_4 s0) ++ (wWa cy h1 a5) ++ (w5 cy h2 a2 s2) ++ (w1 cy h3 h4 a3 q_41.1) ++ (wP cy h4 a4 q_41.2.1) ++ (w7 cy (a5 q_12) ((fG s5 q_12 q_24 rN).2 q_12) (fun _ => y5 q_12) q_41.2.2) ++ (wV cy ((fG s5 q_12 q_24 rN).2 q_12) ((c6 ((fG s5 q_12 q_24 rN).2 q_12)).1) ((c6 ((fG s5 q_12 q_24 rN).2 q_12)).2))) ⟨hx, hb, hml, hown, hts⟩ (c_X1_layOut l D cy h3 a3 s3 h4 a4 s4 (a5 q_12) (fun _ => y5 q_12) ((fG s5 q_12 q_24 rN).1 q_12) ((fG s5 q_12 q_24 rN).2 q_12) ((c6 ((fG s5 q_12 q_24 rN).2 q_12)).1) ((c6 ((fG s5 q_12 q_24 rN).2 q_12)).2) _ fu q_38 _ hc_41) (cwV 2 hts (gi_V ml_RX0_79 im_X1_layOut se_X1_layOut in_RX1 cd_X1_layOut) rfl rfl rfl hdX1_layOut ⟨Nat.le_of_ble_eq_true rfl, Nat.le_of_ble_eq_true rfl⟩) (va_recv hK hP (ci := 1) (q0 := 11) rfl rfl) rfl hl.1 rfl (Nat.le_of_ble_eq_true rfl) dX0_replace_41 hK hP hD hS hA [11, 12, 13, 14, 15, 16, 17, 18, 19, 20, 21, 22, 23, 24, 25, 26, 27, 28, 29, 30, 31, 32, 33] [0, 1, 2, 3, 4, 5, 6, 7, 8, 9, 10] [0, 1, 2, 3, 4, 5, 6, 7, 8, 9, 10, 11, 12, 13, 14, 15, 16, 17, 18, 19, 20, 21, 22, 23, 24, 25, 26, 27, 28, 29, 30, 31, 32, 33] rfl rfl rfl rfl (by decide) rfl rfl (fun H locs hP hD hS => ?_)
    have hP := va_P_perm (bak7V cy a5 y5 (fG s5 q_12 q_24 rN) L6 c6 ((w0 cy h0 h1 (a5 160) h3 h2 r0_4 s0) ++ (wWa cy h1 a5) ++ (w5 cy h2 a2 s2) ++ (w1 cy h3 h4 a3 q_41.1) ++ (wP cy h4 a4 q_41.2.1)) (ltb_lt hj_41) (memb_in hm_41) q_41.2.2) hP
    have hD := va_D_perm (bak7V cy a5 y5 (fG s5 q_12 q_24 rN) L6 c6 ((w0 cy h0 h1 (a5 160) h3 h2 r0_4 s0) ++ (wWa cy h1 a5) ++ (w5 cy h2 a2 s2) ++ (w1 cy h3 h4 a3 q_41.1) ++ (wP cy h4 a4 q_41.2.1)) (ltb_lt hj_41) (memb_in hm_41) q_41.2.2) hD
    rw [← Option.some.inj hf]
    exact g_vret hx hb hr hlk hK hP hD hS dX0_replace_44
def f_X0_useScript_L26 (k_12 : St → St → (FSt) → Int32 → Option (St × St × FSt)) (fu : Nat) (rT : Nat) (s0 : St) (s2 : St) (L6 : List Nat) (c6 : Nat → Nat × (Nat → Int32)) : Nat → St → St → (FSt) → Int32 → Int32 → Option (St × St × FSt)
  | 0, _, _, _, _, _ => none
  | n_26 + 1, u3, u4, u5, x3, x4 => if (s2.1 0) ≤ x4 then (k_12 u3 u4 u5 (x3 + 1)) else ((f_X0_restore fu rT s0 s2 L6 c6 u3 u4 u5 x3 x4).bind (fun q_42 => f_X0_useScript_L26 k_12 fu rT s0 s2 L6 c6 n_26 q_42.1 q_42.2.1 q_42.2.2 x3 (x4 + 1)))
set_option maxHeartbeats 4000000 in
set_option maxRecDepth 100000 in
theorem b_X0_useScript_L26 {p : Program} {e : Env} {s : State} {m : MethodId} {args : Array Value} {below : List Frame} {meth : Method} {c : Code} {A : Nat → Prop} (l : Launch) (D : va_G) (cy : Nat → ClassId) (h0 : Nat) (r0_3 : Nat) (r0_4 : Nat) (s0 : St) (h1 : Nat) (h2 : Nat) (a2 : Nat → Nat) (s2 : St) (h3 : Nat) (a3 : Nat → Nat) (h4 : Nat) (a4 : Nat → Nat)  (a5 : Nat → Nat) (y5 : Nat → Nat)  (L6 : List Nat) (c6 : Nat → Nat × (Nat → Int32)) (rT : Nat) (fu : Nat) (out : St × St × FSt) (C : gC p s m args meth c (WS yX0_useScript cX0_useScript 5 none) cX0_useScript 5 none RX0) (hA : ∀ q : Nat, s.heap.size ≤ q → A q) (hK : va_K D vwCl (TY cy) s) (k_12 : St → St → (FSt) → Int32 → Option (St × St × FSt)) (hk_12 : ∀ (u3 : St) (u4 : St) (u5 : (FSt)) (x3 : Int32), k_12 u3 u4 u5 x3 = some out → ∀ (H : Heap) (locs : List Loc) (ls : Array Slot), va_P D vwCl (((w0 cy h0 h1 (a5 160) h3 h2 rT s0) ++ (wWa cy h1 a5) ++ (w5 cy h2 a2 s2) ++ (w1 cy h3 h4 a3 u3) ++ (wP cy h4 a4 u4)) ++ ((wF cy a5 y5 u5) ++ (wK cy L6 c6))) H → va_D A (((w0 cy h0 h1 (a5 160) h3 h2 rT s0) ++ (wWa cy h1 a5) ++ (w5 cy h2 a2 s2) ++ (w1 cy h3 h4 a3 u3) ++ (wP cy h4 a4 u4)) ++ ((wF cy a5 y5 u5) ++ (wK cy L6 c6))) → va_S A s.heap H locs → lv_has ls 5 [(0, .ref h0), (3, .int x3)] → W p l e ({ frames := 5, cells := 0, slots := 0, locals := 118 } : Room) s m args below meth c H locs 0 0 (MQ below (gQv D cy A (((w0 cy h0 h1 (a5 160) h3 h2 rT s0) ++ (wWa cy h1 a5) ++ (w5 cy h2 a2 s2) ++ (w1 cy h3 h4 a3 out.1) ++ (wP cy h4 a4 out.2.1)) ++ ((wF cy a5 y5 out.2.2) ++ (wK cy L6 c6)))) args s 0 0 A) (F0 m 12 ls [])) :
    ∀ (n_26 : Nat), ∀ (u3 : St) (u4 : St) (u5 : (FSt)) (x3 : Int32) (x4 : Int32), f_X0_useScript_L26 k_12 fu rT s0 s2 L6 c6 n_26 u3 u4 u5 x3 x4 = some out → ∀ (H : Heap) (locs : List Loc) (ls : Array Slot), va_P D vwCl (((w0 cy h0 h1 (a5 160) h3 h2 rT s0) ++ (wWa cy h1 a5) ++ (w5 cy h2 a2 s2) ++ (w1 cy h3 h4 a3 u3) ++ (wP cy h4 a4 u4)) ++ ((wF cy a5 y5 u5) ++ (wK cy L6 c6))) H → va_D A (((w0 cy h0 h1 (a5 160) h3 h2 rT s0) ++ (wWa cy h1 a5) ++ (w5 cy h2 a2 s2) ++ (w1 cy h3 h4 a3 u3) ++ (wP cy h4 a4 u4)) ++ ((wF cy a5 y5 u5) ++ (wK cy L6 c6))) → va_S A s.heap H locs → lv_has ls 5 [(0, .ref h0), (3, .int x3), (4, .int x4)] → W p l e ({ frames := 5, cells := 0, slots := 0, locals := 118 } : Room) s m args below meth c H locs 0 0 (MQ below (gQv D cy A (((w0 cy h0 h1 (a5 160) h3 h2 rT s0) ++ (wWa cy h1 a5) ++ (w5 cy h2 a2 s2) ++ (w1 cy h3 h4 a3 out.1) ++ (wP cy h4 a4 out.2.1)) ++ ((wF cy a5 y5 out.2.2) ++ (wK cy L6 c6)))) args s 0 0 A) (F0 m 26 ls []) := by
  obtain ⟨hx, hb, hr, hml, hown, hts, hlk⟩ := id C
  have hown : s.vm.findClass RX0 = some m.cls := hown
  have hk_24 := hts _ (List.mem_cons_of_mem _ fl_RX0_24)
  have hk_45 := hts _ (List.mem_cons_of_mem _ fl_RX0_45)
  intro n_26
  induction n_26 with
  | zero => intro u3 u4 u5 x3 x4 hf; exact op_no hf
  | succ n_26 ih_26 =>
    intro u3 u4 u5 x3 x4 hf H locs ls hP hD hS hl
    rw [f_X0_useScript_L26] at hf
    refine lv_iload hx hb dX0_useScript_26 (lv_at hl 2 rfl) ?_
    refine lv_aload_n hx hb dX0_useScript_28 rfl (lv_at hl 0 rfl) ?_
    refine va_get (ci := 0) (v := .ref h2) (C := RX0) (T := TX0) (N := 5) hx hb hts (fun w h => List.mem_cons_of_mem _ (inX0 w h)) hown hK hP 0 rfl rfl 3 (by decide) hk_24 (fun _ h9 => h9) rfl dX0_useScript_29 ?_
    refine va_get (ci := 5) (v := .int (s2.1 0)) (C := RX5) (T := TX5) (N := 13) hx hb hts (fun w h => List.mem_cons_of_mem _ (inX5 w h)) hown hK hP 2 rfl rfl 0 (by decide) hk_45 (fun _ h9 => h9) rfl dX0_useScript_32 ?_
    refine lv_icmp_ge (tgt := 51) hx hb dX0_useScript_35 (by decide) (fun c_35 => ?_) (fun c_35 => ?_)
    · have hf := op_pos c_35 hf
      refine lv_iinc (v := x3 + 1) (lv' := [(3, .int (x3 + 1)), (0, .ref h0), (4, .int x4)]) hx hb dX0_useScript_51 hl (k := 1) rfl rfl (by decide) rfl (fun ls hl => ?_)
      refine lv_goto (tgt := 12) hx hb dX0_useScript_54 (by decide) ?_
      exact hk_12 u3 u4 u5 (x3 + 1) hf _ _ ls hP hD hS (lv_sub hl [1, 0] rfl)
    · have hf := op_neg c_35 hf
      refine lv_aload_n hx hb dX0_useScript_38 rfl (lv_at hl 0 rfl) ?_
      refine lv_iload_n hx hb dX0_useScript_39 rfl (lv_at hl 1 rfl) ?_
      refine lv_iload hx hb dX0_useScript_40 (lv_at hl 2 rfl) ?_
      obtain ⟨q_42, hc_42, hf⟩ := op_bind hf
      refine g_callVvU (As := [.int x3, .int x4]) (rest := []) (w2 := (w0 cy h0 h1 (a5 160) h3 h2 rT s0) ++ (wWa cy h1 a5) ++ (w5 cy h2 a2 s2) ++ (w1 cy h3 h4 a3 q_42.1) ++ (wP cy h4 a4 q_42.2.1)) (tl1 := (wF cy a5 y5 q_42.2.2) ++ (wK cy L6 c6)) ⟨hx, hb, hml, hown, hts⟩ (c_X0_restore l D cy h0 rT s0 h1 h2 a2 s2 h3 a3 u3 h4 a4 u4 a5 y5 u5 L6 c6 _ fu x3 x4 _ hc_42) (cwV 2 hts (gi_V ml_RX0_48 im_X0_restore se_X0_restore in_RX0 cd_X0_restore) rfl rfl rfl hdX0_restore ⟨Nat.le_of_ble_eq_true rfl, Nat.le_of_ble_eq_true rfl⟩) (va_recv hK hP (ci := 0) (q0 := 0) rfl rfl) rfl hl.1 rfl (Nat.le_of_ble_eq_true rfl) dX0_useScript_42 hK hP hD hS hA [0, 1, 2, 3, 4, 5, 6, 7, 8, 9, 10, 11, 12, 13, 14, 15, 16, 17, 18, 19, 20, 21, 22, 23, 24, 25, 26, 27, 28, 29, 30] [] [0, 1, 2, 3, 4, 5, 6, 7, 8, 9, 10, 11, 12, 13, 14, 15, 16, 17, 18, 19, 20, 21, 22, 23, 24, 25, 26, 27, 28, 29, 30] rfl rfl rfl rfl (by decide) rfl rfl (fun H locs hP hD hS => ?_)
      refine lv_iinc (v := x4 + 1) (lv' := [(4, .int (x4 + 1)), (0, .ref h0), (3, .int x3)]) hx hb dX0_useScript_45 hl (k := 2) rfl rfl (by decide) rfl (fun ls hl => ?_)
      refine lv_goto (tgt := 26) hx hb dX0_useScript_48 (by decide) ?_
      exact ih_26 q_42.1 q_42.2.1 q_42.2.2 x3 (x4 + 1) hf _ _ ls hP hD hS (lv_sub hl [1, 2, 0] rfl)
def f_X0_useScript_L12  (fu : Nat) (rT : Nat) (s0 : St) (s2 : St) (L6 : List Nat) (c6 : Nat → Nat × (Nat → Int32)) : Nat → St → St → (FSt) → Int32 → Option (St × St × FSt)
  | 0, _, _, _, _ => none
  | n_12 + 1, u3, u4, u5, x3 => if (s2.1 1) ≤ x3 then (some (u3, u4, u5)) else (f_X0_useScript_L26 (f_X0_useScript_L12 fu rT s0 s2 L6 c6 n_12) fu rT s0 s2 L6 c6 fu u3 u4 u5 x3 0)
set_option maxHeartbeats 4000000 in
set_option maxRecDepth 100000 in
theorem b_X0_useScript_L12 {p : Program} {e : Env} {s : State} {m : MethodId} {args : Array Value} {below : List Frame} {meth : Method} {c : Code} {A : Nat → Prop} (l : Launch) (D : va_G) (cy : Nat → ClassId) (h0 : Nat) (r0_3 : Nat) (r0_4 : Nat) (s0 : St) (h1 : Nat) (h2 : Nat) (a2 : Nat → Nat) (s2 : St) (h3 : Nat) (a3 : Nat → Nat) (h4 : Nat) (a4 : Nat → Nat)  (a5 : Nat → Nat) (y5 : Nat → Nat)  (L6 : List Nat) (c6 : Nat → Nat × (Nat → Int32)) (rT : Nat) (fu : Nat) (out : St × St × FSt) (C : gC p s m args meth c (WS yX0_useScript cX0_useScript 5 none) cX0_useScript 5 none RX0) (hA : ∀ q : Nat, s.heap.size ≤ q → A q) (hK : va_K D vwCl (TY cy) s)  :
    ∀ (n_12 : Nat), ∀ (u3 : St) (u4 : St) (u5 : (FSt)) (x3 : Int32), f_X0_useScript_L12 fu rT s0 s2 L6 c6 n_12 u3 u4 u5 x3 = some out → ∀ (H : Heap) (locs : List Loc) (ls : Array Slot), va_P D vwCl (((w0 cy h0 h1 (a5 160) h3 h2 rT s0) ++ (wWa cy h1 a5) ++ (w5 cy h2 a2 s2) ++ (w1 cy h3 h4 a3 u3) ++ (wP cy h4 a4 u4)) ++ ((wF cy a5 y5 u5) ++ (wK cy L6 c6))) H → va_D A (((w0 cy h0 h1 (a5 160) h3 h2 rT s0) ++ (wWa cy h1 a5) ++ (w5 cy h2 a2 s2) ++ (w1 cy h3 h4 a3 u3) ++ (wP cy h4 a4 u4)) ++ ((wF cy a5 y5 u5) ++ (wK cy L6 c6))) → va_S A s.heap H locs → lv_has ls 5 [(0, .ref h0), (3, .int x3)] → W p l e ({ frames := 5, cells := 0, slots := 0, locals := 118 } : Room) s m args below meth c H locs 0 0 (MQ below (gQv D cy A (((w0 cy h0 h1 (a5 160) h3 h2 rT s0) ++ (wWa cy h1 a5) ++ (w5 cy h2 a2 s2) ++ (w1 cy h3 h4 a3 out.1) ++ (wP cy h4 a4 out.2.1)) ++ ((wF cy a5 y5 out.2.2) ++ (wK cy L6 c6)))) args s 0 0 A) (F0 m 12 ls []) := by
  obtain ⟨hx, hb, hr, hml, hown, hts, hlk⟩ := id C
  have hown : s.vm.findClass RX0 = some m.cls := hown
  have hk_24 := hts _ (List.mem_cons_of_mem _ fl_RX0_24)
  have hk_39 := hts _ (List.mem_cons_of_mem _ fl_RX0_39)
  intro n_12
  induction n_12 with
  | zero => intro u3 u4 u5 x3 hf; exact op_no hf
  | succ n_12 ih_12 =>
    intro u3 u4 u5 x3 hf H locs ls hP hD hS hl
    rw [f_X0_useScript_L12] at hf
    refine lv_iload_n hx hb dX0_useScript_12 rfl (lv_at hl 1 rfl) ?_
    refine lv_aload_n hx hb dX0_useScript_13 rfl (lv_at hl 0 rfl) ?_
    refine va_get (ci := 0) (v := .ref h2) (C := RX0) (T := TX0) (N := 5) hx hb hts (fun w h => List.mem_cons_of_mem _ (inX0 w h)) hown hK hP 0 rfl rfl 3 (by decide) hk_24 (fun _ h9 => h9) rfl dX0_useScript_14 ?_
    refine va_get (ci := 5) (v := .int (s2.1 1)) (C := RX5) (T := TX5) (N := 13) hx hb hts (fun w h => List.mem_cons_of_mem _ (inX5 w h)) hown hK hP 2 rfl rfl 1 (by decide) hk_39 (fun _ h9 => h9) rfl dX0_useScript_17 ?_
    refine lv_icmp_ge (tgt := 57) hx hb dX0_useScript_20 (by decide) (fun c_20 => ?_) (fun c_20 => ?_)
    · have hf := op_pos c_20 hf
      rw [← Option.some.inj hf]
      exact g_vret hx hb hr hlk hK hP hD hS dX0_useScript_57
    · have hf := op_neg c_20 hf
      refine lv_iconst (v := 0) hx hb dX0_useScript_23 (by decide) ?_
      refine lv_istore (lv' := [(4, .int 0), (0, .ref h0), (3, .int x3)]) hx hb dX0_useScript_24 hl (by decide) rfl (fun ls hl => ?_)
      exact b_X0_useScript_L26 l D cy h0 r0_3 r0_4 s0 h1 h2 a2 s2 h3 a3 h4 a4 a5 y5 L6 c6 rT fu out C hA hK (f_X0_useScript_L12 fu rT s0 s2 L6 c6 n_12) ih_12 fu u3 u4 u5 x3 0 hf _ _ ls hP hD hS (lv_sub hl [1, 2, 0] rfl)
def f_X0_useScript (fu : Nat) (rT : Nat) (s0 : St) (s2 : St) (L6 : List Nat) (c6 : Nat → Nat × (Nat → Int32)) (s3 : St) (s4 : St) (s5 : FSt)  : Option (St × St × FSt) := f_X0_useScript_L12 fu rT s0 s2 L6 c6 fu s3 s4 s5 0
theorem hdX0_useScript : yX0_useScript.cls = RX0 ∧ yX0_useScript.cls ≠ "java/lang/invoke/MethodHandle" ∧ yX0_useScript.cls ≠ "java/lang/invoke/VarHandle" ∧ (parseMethodDescriptor yX0_useScript.desc).map (fun d => d.parameters.length) = some 2 := by decide +kernel
set_option maxHeartbeats 4000000 in
set_option maxRecDepth 100000 in
theorem c_X0_useScript (l : Launch) (D : va_G) (cy : Nat → ClassId) (h0 : Nat) (r0_3 : Nat) (r0_4 : Nat) (s0 : St) (h1 : Nat) (h2 : Nat) (a2 : Nat → Nat) (s2 : St) (h3 : Nat) (a3 : Nat → Nat) (s3 : St) (h4 : Nat) (a4 : Nat → Nat) (s4 : St)  (a5 : Nat → Nat) (y5 : Nat → Nat) (s5 : FSt)  (L6 : List Nat) (c6 : Nat → Nat × (Nat → Int32)) (rT : Nat) (sz fu : Nat)  (out : St × St × FSt) (hf : f_X0_useScript fu rT s0 s2 L6 c6 s3 s4 s5 = some out) :
    Met l yX0_useScript (WS yX0_useScript cX0_useScript 5 none) ({ frames := 5, cells := 0, slots := 0, locals := 118 } : Room) (va_Pc [.ref h0, .ref h2, .ref rT] (gP D cy sz (((w0 cy h0 h1 (a5 160) h3 r0_3 r0_4 s0) ++ (wWa cy h1 a5) ++ (w5 cy h2 a2 s2) ++ (w1 cy h3 h4 a3 s3) ++ (wP cy h4 a4 s4)) ++ ((wF cy a5 y5 s5) ++ (wK cy L6 c6))))) ((fun A : Nat → Prop => gQv D cy A (((w0 cy h0 h1 (a5 160) h3 h2 rT s0) ++ (wWa cy h1 a5) ++ (w5 cy h2 a2 s2) ++ (w1 cy h3 h4 a3 out.1) ++ (wP cy h4 a4 out.2.1)) ++ ((wF cy a5 y5 out.2.2) ++ (wK cy L6 c6)))) (va_A (((w0 cy h0 h1 (a5 160) h3 r0_3 r0_4 s0) ++ (wWa cy h1 a5) ++ (w5 cy h2 a2 s2) ++ (w1 cy h3 h4 a3 s3) ++ (wP cy h4 a4 s4)) ++ ((wF cy a5 y5 s5) ++ (wK cy L6 c6))) sz)) 0 0 (va_A (((w0 cy h0 h1 (a5 160) h3 r0_3 r0_4 s0) ++ (wWa cy h1 a5) ++ (w5 cy h2 a2 s2) ++ (w1 cy h3 h4 a3 s3) ++ (wP cy h4 a4 s4)) ++ ((wF cy a5 y5 s5) ++ (wK cy L6 c6))) sz) := by
  refine g_met (cc := cX0_useScript) (maxL := 5) (ret := none) (fun A : Nat → Prop => gQv D cy A (((w0 cy h0 h1 (a5 160) h3 h2 rT s0) ++ (wWa cy h1 a5) ++ (w5 cy h2 a2 s2) ++ (w1 cy h3 h4 a3 out.1) ++ (wP cy h4 a4 out.2.1)) ++ ((wF cy a5 y5 out.2.2) ++ (wK cy L6 c6)))) (by decide +kernel) rfl (Nat.le_of_ble_eq_true rfl) ?_
  intro p e s m below meth c A C hA hK hP hD ls hl
  obtain ⟨hx, hb, hr, hml, hown, hts, hlk⟩ := id C
  have hown : s.vm.findClass RX0 = some m.cls := hown
  have hS : va_S A s.heap s.heap [] := va_S.rf
  have hl : lv_has ls 5 [(0, .ref h0), (1, .ref h2), (2, .ref rT)] := hl
  have hk_24 := hts _ (List.mem_cons_of_mem _ fl_RX0_24)
  have hk_28 := hts _ (List.mem_cons_of_mem _ fl_RX0_28)
  unfold f_X0_useScript at hf
  refine lv_aload_n hx hb dX0_useScript_0 rfl (lv_at hl 0 rfl) ?_
  refine lv_aload_n hx hb dX0_useScript_1 rfl (lv_at hl 1 rfl) ?_
  refine va_put (ci := 0) (v := .ref h2) (ty := tyX0 3) (C := RX0) (T := TX0) (N := 5) hx hb hts (fun w h => List.mem_cons_of_mem _ (inX0 w h)) tyX0 tyX0_ok nmX0 hown hK hP hD hS 0 rfl rfl 3 (by decide) hk_24 (fun _ h9 => h9) rfl (tyX0_ok 3 (by decide)) rfl rfl (Nat.le_of_ble_eq_true rfl) dX0_useScript_2 (fun H locs hP hD hS => ?_)
  have hP : va_P D vwCl (((w0 cy h0 h1 (a5 160) h3 h2 r0_4 s0) ++ (wWa cy h1 a5) ++ (w5 cy h2 a2 s2) ++ (w1 cy h3 h4 a3 s3) ++ (wP cy h4 a4 s4)) ++ ((wF cy a5 y5 s5) ++ (wK cy L6 c6))) H := hP
  have hD : va_D A (((w0 cy h0 h1 (a5 160) h3 h2 r0_4 s0) ++ (wWa cy h1 a5) ++ (w5 cy h2 a2 s2) ++ (w1 cy h3 h4 a3 s3) ++ (wP cy h4 a4 s4)) ++ ((wF cy a5 y5 s5) ++ (wK cy L6 c6))) := hD
  refine lv_aload_n hx hb dX0_useScript_5 rfl (lv_at hl 0 rfl) ?_
  refine lv_aload_n hx hb dX0_useScript_6 rfl (lv_at hl 2 rfl) ?_
  refine va_put (ci := 0) (v := .ref rT) (ty := tyX0 4) (C := RX0) (T := TX0) (N := 5) hx hb hts (fun w h => List.mem_cons_of_mem _ (inX0 w h)) tyX0 tyX0_ok nmX0 hown hK hP hD hS 0 rfl rfl 4 (by decide) hk_28 (fun _ h9 => h9) rfl (tyX0_ok 4 (by decide)) rfl rfl (Nat.le_of_ble_eq_true rfl) dX0_useScript_7 (fun H locs hP hD hS => ?_)
  have hP : va_P D vwCl (((w0 cy h0 h1 (a5 160) h3 h2 rT s0) ++ (wWa cy h1 a5) ++ (w5 cy h2 a2 s2) ++ (w1 cy h3 h4 a3 s3) ++ (wP cy h4 a4 s4)) ++ ((wF cy a5 y5 s5) ++ (wK cy L6 c6))) H := hP
  have hD : va_D A (((w0 cy h0 h1 (a5 160) h3 h2 rT s0) ++ (wWa cy h1 a5) ++ (w5 cy h2 a2 s2) ++ (w1 cy h3 h4 a3 s3) ++ (wP cy h4 a4 s4)) ++ ((wF cy a5 y5 s5) ++ (wK cy L6 c6))) := hD
  refine lv_iconst (v := 0) hx hb dX0_useScript_10 (by decide) ?_
  refine lv_istore_n (lv' := [(3, .int 0), (0, .ref h0), (1, .ref h2), (2, .ref rT)]) hx hb dX0_useScript_11 rfl hl (by decide) rfl (fun ls hl => ?_)
  exact b_X0_useScript_L12 l D cy h0 r0_3 r0_4 s0 h1 h2 a2 s2 h3 a3 h4 a4 a5 y5 L6 c6 rT fu out C hA hK fu s3 s4 s5 0 hf _ _ ls hP hD hS (lv_sub hl [1, 0] rfl)
