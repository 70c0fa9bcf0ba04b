def f_X9_changeA_L114  (fu : Nat) (r1_0 : Nat) (r3_4 : Nat) (s0 : St) (s2 : St) (s3 : St) (L8 : List Nat) (c8 : Nat → Nat × (Nat → Int32)) (u1 : St) (u5 : St) (u6 : St) (u7 : (FSt)) : Option (Int32 × St × St × St × FSt) := (f_X6_clearO fu u1).bind (fun q_118 => some (1, q_118, u5, u6, u7))
set_option maxHeartbeats 4000000 in
set_option maxRecDepth 100000 in
theorem b_X9_changeA_L114 {p : Program} {e : Env} {s : State} {m : MethodId} {args : Array Value} {below : List Frame} {meth : Method} {c : Code} {A : Nat → Prop} (l : Launch) (D : va_G) (cy : Nat → ClassId) (h0 : Nat) (r0_1 : Nat) (r0_3 : Nat) (r0_4 : Nat) (r0_6 : Nat) (s0 : St) (h1 : Nat) (r1_0 : Nat) (h2 : Nat) (a2 : Nat → Nat) (s2 : St) (h3 : Nat) (r3_4 : Nat) (s3 : St) (h4 : Nat) (h5 : Nat) (a5 : Nat → Nat) (h6 : Nat) (a6 : Nat → Nat)  (a7 : Nat → Nat) (y7 : Nat → Nat)  (L8 : List Nat) (c8 : Nat → Nat × (Nat → Int32)) (fu : Nat) (out : Int32 × St × St × St × FSt) (C : gC p s m args meth c (WS yX9_change cX9_change 4 (some .boolean)) cX9_change 4 (some .boolean) RX9) (hA : ∀ q : Nat, s.heap.size ≤ q → A q) (hK : va_K D vwCl (TY cy) s)  :
    ∀ (u1 : St) (u5 : St) (u6 : St) (u7 : (FSt)), f_X9_changeA_L114 fu r1_0 r3_4 s0 s2 s3 L8 c8 u1 u5 u6 u7 = some out → ∀ (H : Heap) (locs : List Loc) (ls : Array Slot), va_P D vwCl (((w9 cy h0 h1 r0_1 h2 r0_3 r0_4 h3 r0_6 s0) ++ (w6o cy h1 r1_0 u1) ++ (w5 cy h2 a2 s2) ++ (w0 cy h3 h4 (a7 160) h5 h2 r3_4 s3) ++ (wWa cy h4 a7) ++ (w1 cy h5 h6 a5 u5) ++ (wP cy h6 a6 u6)) ++ ((wF cy a7 y7 u7) ++ (wK cy L8 c8))) H → va_D A (((w9 cy h0 h1 r0_1 h2 r0_3 r0_4 h3 r0_6 s0) ++ (w6o cy h1 r1_0 u1) ++ (w5 cy h2 a2 s2) ++ (w0 cy h3 h4 (a7 160) h5 h2 r3_4 s3) ++ (wWa cy h4 a7) ++ (w1 cy h5 h6 a5 u5) ++ (wP cy h6 a6 u6)) ++ ((wF cy a7 y7 u7) ++ (wK cy L8 c8))) → va_S A s.heap H locs → lv_has ls 4 [(0, .ref h0)] → W p l e ({ frames := 5, cells := 0, slots := 0, locals := 118 } : Room) s m args below meth c H locs 0 0 (MQ below (gQi D cy A out.1 (((w9 cy h0 h1 r0_1 h2 r0_3 r0_4 h3 r0_6 s0) ++ (w6o cy h1 r1_0 out.2.1) ++ (w5 cy h2 a2 s2) ++ (w0 cy h3 h4 (a7 160) h5 h2 r3_4 s3) ++ (wWa cy h4 a7) ++ (w1 cy h5 h6 a5 out.2.2.1) ++ (wP cy h6 a6 out.2.2.2.1)) ++ ((wF cy a7 y7 out.2.2.2.2) ++ (wK cy L8 c8)))) args s 0 0 A) (F0 m 114 ls []) := by
  obtain ⟨hx, hb, hr, hml, hown, hts, hlk⟩ := id C
  have hown : s.vm.findClass RX9 = some m.cls := hown
  have hk_12 := hts _ (List.mem_cons_of_mem _ fl_RX9_12)
  intro u1 u5 u6 u7 hf H locs ls hP hD hS hl
  unfold f_X9_changeA_L114 at hf
  refine lv_aload_n hx hb dX9_change_114 rfl (lv_at hl 0 rfl) ?_
  refine va_get (ci := 8) (v := .ref h1) (C := RX9) (T := TX9) (N := 7) hx hb hts (fun w h => List.mem_cons_of_mem _ (inX9 w h)) hown hK hP 0 rfl rfl 0 (by decide) hk_12 (fun _ h9 => h9) rfl dX9_change_115 ?_
  obtain ⟨q_118, hc_118, hf⟩ := op_bind hf
  refine g_callVvT (As := []) (rest := []) (w2 := (w9 cy h0 h1 r0_1 h2 r0_3 r0_4 h3 r0_6 s0) ++ (w6o cy h1 r1_0 q_118) ++ (w5 cy h2 a2 s2) ++ (w0 cy h3 h4 (a7 160) h5 h2 r3_4 s3) ++ (wWa cy h4 a7) ++ (w1 cy h5 h6 a5 u5) ++ (wP cy h6 a6 u6)) ⟨hx, hb, hml, hown, hts⟩ (c_X6_clearO l D cy h1 r1_0 u1 _ fu _ hc_118) (cwV 0 hts (gi_V ml_RX9_87 im_X6_clear se_X6_clear in_RX6 cd_X6_clear) rfl rfl rfl hdX6_clear ⟨Nat.le_of_ble_eq_true rfl, Nat.le_of_ble_eq_true rfl⟩) (va_recv hK hP (ci := 6) (q0 := 1) rfl rfl) rfl hl.1 rfl (Nat.le_of_ble_eq_true rfl) dX9_change_118 hK hP hD hS hA [1] [0, 2, 3, 4, 5, 6, 7, 8, 9, 10, 11, 12, 13, 14, 15, 16, 17, 18, 19, 20, 21, 22, 23, 24, 25, 26, 27, 28, 29, 30, 31, 32] [0, 32, 1, 2, 3, 4, 5, 6, 7, 8, 9, 10, 11, 12, 13, 14, 15, 16, 17, 18, 19, 20, 21, 22, 23, 24, 25, 26, 27, 28, 29, 30, 31] rfl rfl rfl rfl (by decide) rfl rfl (fun H locs hP hD hS => ?_)
  refine lv_iconst (v := 1) hx hb dX9_change_121 (by decide) ?_
  rw [← Option.some.inj hf]
  exact g_zret hx hb hr hlk (show isB 1 = true by decide) hK hP hD hS dX9_change_122
def f_X9_changeA (fu : Nat) (r1_0 : Nat) (r3_4 : Nat) (s0 : St) (s2 : St) (s3 : St) (L8 : List Nat) (c8 : Nat → Nat × (Nat → Int32)) (s1 : St) (s5 : St) (s6 : St) (s7 : FSt) (p1 : Int32) (p2 : Int32) (p3 : Int32) : Option (Int32 × St × St × St × FSt) := (f_X5_hasTitle fu s2 p1).bind (fun q_5 => if q_5 = 0 then (some (0, s1, s5, s6, s7)) else ((f_X5_hasTongue fu s2 p2).bind (fun q_16 => if q_16 = 0 then (some (0, s1, s5, s6, s7)) else ((f_X6_holdsO fu s1 p3).bind (fun q_27 => if q_27 = 0 then (some (0, s1, s5, s6, s7)) else (if p3 = 0 then ((f_X0_restore fu r3_4 s3 s2 L8 c8 s5 s6 s7 p1 p2).bind (fun q_45 => f_X9_changeA_L114 fu r1_0 r3_4 s0 s2 s3 L8 c8 s1 q_45.1 q_45.2.1 q_45.2.2)) else (if memb r1_0 L8 = true then (if eqn (c8 r1_0).1 1500 = true then ((f_X8_areProper fu ((c8 r1_0).2) 0 p3).bind (fun q_60 => if q_60 = 0 then (some (0, s1, s5, s6, s7)) else ((f_X5_widthOf fu s2 p2).bind (fun q_80 => if memb r1_0 L8 = true then (if eqn (c8 r1_0).1 1500 = true then ((f_X8_fit fu ((c8 r1_0).2) 0 p3 q_80).bind (fun q_83 => if q_83 = 0 then (some (0, s1, s5, s6, s7)) else (none))) else none) else none)))) else none) else none)))))))
theorem hdX9_change : yX9_change.cls = RX9 ∧ yX9_change.cls ≠ "java/lang/invoke/MethodHandle" ∧ yX9_change.cls ≠ "java/lang/invoke/VarHandle" ∧ (parseMethodDescriptor yX9_change.desc).map (fun d => d.parameters.length) = some 3 := by decide +kernel
set_option maxHeartbeats 4000000 in
set_option maxRecDepth 100000 in
theorem c_X9_changeA (l : Launch) (D : va_G) (cy : Nat → ClassId) (h0 : Nat) (r0_1 : Nat) (r0_3 : Nat) (r0_4 : Nat) (r0_6 : Nat) (s0 : St) (h1 : Nat) (r1_0 : Nat) (s1 : St) (h2 : Nat) (a2 : Nat → Nat) (s2 : St) (h3 : Nat) (r3_4 : Nat) (s3 : St) (h4 : Nat) (h5 : Nat) (a5 : Nat → Nat) (s5 : St) (h6 : Nat) (a6 : Nat → Nat) (s6 : St)  (a7 : Nat → Nat) (y7 : Nat → Nat) (s7 : FSt)  (L8 : List Nat) (c8 : Nat → Nat × (Nat → Int32)) (sz fu : Nat) (p1 : Int32) (p2 : Int32) (p3 : Int32) (out : Int32 × St × St × St × FSt) (hf : f_X9_changeA fu r1_0 r3_4 s0 s2 s3 L8 c8 s1 s5 s6 s7 p1 p2 p3 = some out) :
    Met l yX9_change (WS yX9_change cX9_change 4 (some .boolean)) ({ frames := 5, cells := 0, slots := 0, locals := 118 } : Room) (va_Pc [.ref h0, .int p1, .int p2, .int p3] (gP D cy sz (((w9 cy h0 h1 r0_1 h2 r0_3 r0_4 h3 r0_6 s0) ++ (w6o cy h1 r1_0 s1) ++ (w5 cy h2 a2 s2) ++ (w0 cy h3 h4 (a7 160) h5 h2 r3_4 s3) ++ (wWa cy h4 a7) ++ (w1 cy h5 h6 a5 s5) ++ (wP cy h6 a6 s6)) ++ ((wF cy a7 y7 s7) ++ (wK cy L8 c8))))) ((fun A : Nat → Prop => gQi D cy A out.1 (((w9 cy h0 h1 r0_1 h2 r0_3 r0_4 h3 r0_6 s0) ++ (w6o cy h1 r1_0 out.2.1) ++ (w5 cy h2 a2 s2) ++ (w0 cy h3 h4 (a7 160) h5 h2 r3_4 s3) ++ (wWa cy h4 a7) ++ (w1 cy h5 h6 a5 out.2.2.1) ++ (wP cy h6 a6 out.2.2.2.1)) ++ ((wF cy a7 y7 out.2.2.2.2) ++ (wK cy L8 c8)))) (va_A (((w9 cy h0 h1 r0_1 h2 r0_3 r0_4 h3 r0_6 s0) ++ (w6o cy h1 r1_0 s1) ++ (w5 cy h2 a2 s2) ++ (w0 cy h3 h4 (a7 160) h5 h2 r3_4 s3) ++ (wWa cy h4 a7) ++ (w1 cy h5 h6 a5 s5) ++ (wP cy h6 a6 s6)) ++ ((wF cy a7 y7 s7) ++ (wK cy L8 c8))) sz)) 0 0 (va_A (((w9 cy h0 h1 r0_1 h2 r0_3 r0_4 h3 r0_6 s0) ++ (w6o cy h1 r1_0 s1) ++ (w5 cy h2 a2 s2) ++ (w0 cy h3 h4 (a7 160) h5 h2 r3_4 s3) ++ (wWa cy h4 a7) ++ (w1 cy h5 h6 a5 s5) ++ (wP cy h6 a6 s6)) ++ ((wF cy a7 y7 s7) ++ (wK cy L8 c8))) sz) := by
  refine g_met (cc := cX9_change) (maxL := 4) (ret := (some .boolean)) (fun A : Nat → Prop => gQi D cy A out.1 (((w9 cy h0 h1 r0_1 h2 r0_3 r0_4 h3 r0_6 s0) ++ (w6o cy h1 r1_0 out.2.1) ++ (w5 cy h2 a2 s2) ++ (w0 cy h3 h4 (a7 160) h5 h2 r3_4 s3) ++ (wWa cy h4 a7) ++ (w1 cy h5 h6 a5 out.2.2.1) ++ (wP cy h6 a6 out.2.2.2.1)) ++ ((wF cy a7 y7 out.2.2.2.2) ++ (wK cy L8 c8)))) (by decide +kernel) rfl (Nat.le_of_ble_eq_true rfl) ?_
  intro p e s m below meth c A C hA hK hP hD ls hl
  obtain ⟨hx, hb, hr, hml, hown, hts, hlk⟩ := id C
  have hown : s.vm.findClass RX9 = some m.cls := hown
  have hS : va_S A s.heap s.heap [] := va_S.rf
  have hl : lv_has ls 4 [(0, .ref h0), (1, .int p1), (2, .int p2), (3, .int p3)] := hl
  have hk_22 := hts _ (List.mem_cons_of_mem _ fl_RX9_22)
  have hk_12 := hts _ (List.mem_cons_of_mem _ fl_RX9_12)
  have hk_31 := hts _ (List.mem_cons_of_mem _ fl_RX9_31)
  have hk_45 := hts _ (List.mem_cons_of_mem _ fl_RX9_45)
  unfold f_X9_changeA at hf
  refine lv_aload_n hx hb dX9_change_0 rfl (lv_at hl 0 rfl) ?_
  refine va_get (ci := 8) (v := .ref h2) (C := RX9) (T := TX9) (N := 7) hx hb hts (fun w h => List.mem_cons_of_mem _ (inX9 w h)) hown hK hP 0 rfl rfl 2 (by decide) hk_22 (fun _ h9 => h9) rfl dX9_change_1 ?_
  refine lv_iload_n hx hb dX9_change_4 rfl (lv_at hl 1 rfl) ?_
  obtain ⟨q_5, hc_5, hf⟩ := op_bind hf
  refine g_callViT (As := [.int p1]) (rest := []) (w2 := (w9 cy h0 h1 r0_1 h2 r0_3 r0_4 h3 r0_6 s0) ++ (w6o cy h1 r1_0 s1) ++ (w5 cy h2 a2 s2) ++ (w0 cy h3 h4 (a7 160) h5 h2 r3_4 s3) ++ (wWa cy h4 a7) ++ (w1 cy h5 h6 a5 s5) ++ (wP cy h6 a6 s6)) ⟨hx, hb, hml, hown, hts⟩ (c_X5_hasTitle l D cy h2 a2 s2 _ fu p1 _ hc_5) (cwV 1 hts (gi_V ml_RX9_109 im_X5_hasTitle se_X5_hasTitle in_RX5 cd_X5_hasTitle) rfl rfl rfl hdX5_hasTitle ⟨Nat.le_of_ble_eq_true rfl, Nat.le_of_ble_eq_true rfl⟩) (va_recv hK hP (ci := 5) (q0 := 2) rfl rfl) rfl hl.1 rfl (Nat.le_of_ble_eq_true rfl) dX9_change_5 hK hP hD hS hA [2, 3, 4, 5, 6, 7, 8, 9, 10] [0, 1, 11, 12, 13, 14, 15, 16, 17, 18, 19, 20, 21, 22, 23, 24, 25, 26, 27, 28, 29, 30, 31, 32] [0, 1, 24, 25, 26, 27, 28, 29, 30, 31, 32, 2, 3, 4, 5, 6, 7, 8, 9, 10, 11, 12, 13, 14, 15, 16, 17, 18, 19, 20, 21, 22, 23] rfl rfl rfl rfl (by decide) rfl rfl (fun H locs hP hD hS => ?_)
  refine lv_if_eq (tgt := 33) hx hb dX9_change_8 (by decide) (fun c_8 => ?_) (fun c_8 => ?_)
  · have hf := op_pos c_8 hf
    refine lv_iconst (v := 0) hx hb dX9_change_33 (by decide) ?_
    rw [← Option.some.inj hf]
    exact g_zret hx hb hr hlk (show isB 0 = true by decide) hK hP hD hS dX9_change_34
  · have hf := op_neg c_8 hf
    refine lv_aload_n hx hb dX9_change_11 rfl (lv_at hl 0 rfl) ?_
    refine va_get (ci := 8) (v := .ref h2) (C := RX9) (T := TX9) (N := 7) hx hb hts (fun w h => List.mem_cons_of_mem _ (inX9 w h)) hown hK hP 0 rfl rfl 2 (by decide) hk_22 (fun _ h9 => h9) rfl dX9_change_12 ?_
    refine lv_iload_n hx hb dX9_change_15 rfl (lv_at hl 2 rfl) ?_
    obtain ⟨q_16, hc_16, hf⟩ := op_bind hf
    refine g_callViT (As := [.int p2]) (rest := []) (w2 := (w9 cy h0 h1 r0_1 h2 r0_3 r0_4 h3 r0_6 s0) ++ (w6o cy h1 r1_0 s1) ++ (w5 cy h2 a2 s2) ++ (w0 cy h3 h4 (a7 160) h5 h2 r3_4 s3) ++ (wWa cy h4 a7) ++ (w1 cy h5 h6 a5 s5) ++ (wP cy h6 a6 s6)) ⟨hx, hb, hml, hown, hts⟩ (c_X5_hasTongue l D cy h2 a2 s2 _ fu p2 _ hc_16) (cwV 1 hts (gi_V ml_RX9_112 im_X5_hasTongue se_X5_hasTongue in_RX5 cd_X5_hasTongue) rfl rfl rfl hdX5_hasTongue ⟨Nat.le_of_ble_eq_true rfl, Nat.le_of_ble_eq_true rfl⟩) (va_recv hK hP (ci := 5) (q0 := 2) rfl rfl) rfl hl.1 rfl (Nat.le_of_ble_eq_true rfl) dX9_change_16 hK hP hD hS hA [2, 3, 4, 5, 6, 7, 8, 9, 10] [0, 1, 11, 12, 13, 14, 15, 16, 17, 18, 19, 20, 21, 22, 23, 24, 25, 26, 27, 28, 29, 30, 31, 32] [0, 1, 24, 25, 26, 27, 28, 29, 30, 31, 32, 2, 3, 4, 5, 6, 7, 8, 9, 10, 11, 12, 13, 14, 15, 16, 17, 18, 19, 20, 21, 22, 23] rfl rfl rfl rfl (by decide) rfl rfl (fun H locs hP hD hS => ?_)
    refine lv_if_eq (tgt := 33) hx hb dX9_change_19 (by decide) (fun c_19 => ?_) (fun c_19 => ?_)
    · have hf := op_pos c_19 hf
      refine lv_iconst (v := 0) hx hb dX9_change_33 (by decide) ?_
      rw [← Option.some.inj hf]
      exact g_zret hx hb hr hlk (show isB 0 = true by decide) hK hP hD hS dX9_change_34
    · have hf := op_neg c_19 hf
      refine lv_aload_n hx hb dX9_change_22 rfl (lv_at hl 0 rfl) ?_
      refine va_get (ci := 8) (v := .ref h1) (C := RX9) (T := TX9) (N := 7) hx hb hts (fun w h => List.mem_cons_of_mem _ (inX9 w h)) hown hK hP 0 rfl rfl 0 (by decide) hk_12 (fun _ h9 => h9) rfl dX9_change_23 ?_
      refine lv_iload_n hx hb dX9_change_26 rfl (lv_at hl 3 rfl) ?_
      obtain ⟨q_27, hc_27, hf⟩ := op_bind hf
      refine g_callViT (As := [.int p3]) (rest := []) (w2 := (w9 cy h0 h1 r0_1 h2 r0_3 r0_4 h3 r0_6 s0) ++ (w6o cy h1 r1_0 s1) ++ (w5 cy h2 a2 s2) ++ (w0 cy h3 h4 (a7 160) h5 h2 r3_4 s3) ++ (wWa cy h4 a7) ++ (w1 cy h5 h6 a5 s5) ++ (wP cy h6 a6 s6)) ⟨hx, hb, hml, hown, hts⟩ (c_X6_holdsO l D cy h1 r1_0 s1 _ fu p3 _ hc_27) (cwV 1 hts (gi_V ml_RX9_70 im_X6_holds se_X6_holds in_RX6 cd_X6_holds) rfl rfl rfl hdX6_holds ⟨Nat.le_of_ble_eq_true rfl, Nat.le_of_ble_eq_true rfl⟩) (va_recv hK hP (ci := 6) (q0 := 1) rfl rfl) rfl hl.1 rfl (Nat.le_of_ble_eq_true rfl) dX9_change_27 hK hP hD hS hA [1] [0, 2, 3, 4, 5, 6, 7, 8, 9, 10, 11, 12, 13, 14, 15, 16, 17, 18, 19, 20, 21, 22, 23, 24, 25, 26, 27, 28, 29, 30, 31, 32] [0, 32, 1, 2, 3, 4, 5, 6, 7, 8, 9, 10, 11, 12, 13, 14, 15, 16, 17, 18, 19, 20, 21, 22, 23, 24, 25, 26, 27, 28, 29, 30, 31] rfl rfl rfl rfl (by decide) rfl rfl (fun H locs hP hD hS => ?_)
      refine lv_if_ne (tgt := 35) hx hb dX9_change_30 (by decide) (fun c_30 => ?_) (fun c_30 => ?_)
      · have hf := op_neg c_30 hf
        refine lv_iload_n hx hb dX9_change_35 rfl (lv_at hl 3 rfl) ?_
        refine lv_if_ne (tgt := 51) hx hb dX9_change_36 (by decide) (fun c_36 => ?_) (fun c_36 => ?_)
        · have hf := op_neg c_36 hf
          refine lv_aload_n hx hb dX9_change_51 rfl (lv_at hl 0 rfl) ?_
          refine va_get (ci := 8) (v := .ref h1) (C := RX9) (T := TX9) (N := 7) hx hb hts (fun w h => List.mem_cons_of_mem _ (inX9 w h)) hown hK hP 0 rfl rfl 0 (by decide) hk_12 (fun _ h9 => h9) rfl dX9_change_52 ?_
          refine va_get (ci := 6) (v := .ref r1_0) (C := RX6) (T := TX6) (N := 2) hx hb hts (fun w h => List.mem_cons_of_mem _ (inX6 w h)) hown hK hP 1 rfl rfl 0 (by decide) hk_31 (fun _ h9 => h9) rfl dX9_change_55 ?_
          refine lv_iconst (v := 0) hx hb dX9_change_58 (by decide) ?_
          refine lv_iload_n hx hb dX9_change_59 rfl (lv_at hl 3 rfl) ?_
          obtain ⟨hm_60, hf⟩ := op_if hf
          obtain ⟨h5_60, hf⟩ := op_if hf
          obtain ⟨q_60, hc_60, hf⟩ := op_bind hf
          have hP := va_P_perm (focB cy c8 (wF cy a7 y7 s7) ((w9 cy h0 h1 r0_1 h2 r0_3 r0_4 h3 r0_6 s0) ++ (w6o cy h1 r1_0 s1) ++ (w5 cy h2 a2 s2) ++ (w0 cy h3 h4 (a7 160) h5 h2 r3_4 s3) ++ (wWa cy h4 a7) ++ (w1 cy h5 h6 a5 s5) ++ (wP cy h6 a6 s6)) (memb_in hm_60) (eqn_eq h5_60)) hP
          have hD := va_D_perm (focB cy c8 (wF cy a7 y7 s7) ((w9 cy h0 h1 r0_1 h2 r0_3 r0_4 h3 r0_6 s0) ++ (w6o cy h1 r1_0 s1) ++ (w5 cy h2 a2 s2) ++ (w0 cy h3 h4 (a7 160) h5 h2 r3_4 s3) ++ (wWa cy h4 a7) ++ (w1 cy h5 h6 a5 s5) ++ (wP cy h6 a6 s6)) (memb_in hm_60) (eqn_eq h5_60)) hD
          refine g_callSiT (As := [.ref r1_0, .int 0, .int p3]) (rest := []) (w2 := (w9 cy h0 h1 r0_1 h2 r0_3 r0_4 h3 r0_6 s0) ++ (w6o cy h1 r1_0 s1) ++ (w5 cy h2 a2 s2) ++ (w0 cy h3 h4 (a7 160) h5 h2 r3_4 s3) ++ (wWa cy h4 a7) ++ (w1 cy h5 h6 a5 s5) ++ (wP cy h6 a6 s6) ++ (wB cy r1_0 ((c8 r1_0).2))) ⟨hx, hb, hml, hown, hts⟩ (c_X8_areProper l D cy r1_0 ((c8 r1_0).2) _ fu 0 p3 _ hc_60) (va_cwS 3 hts (gi_S ml_RX9_119 sm_X8_areProper in_RX8 cd_X8_areProper) rfl rfl rfl hdX8_areProper ⟨Nat.le_of_ble_eq_true rfl, Nat.le_of_ble_eq_true rfl⟩) rfl hl.1 rfl (Nat.le_of_ble_eq_true rfl) dX9_change_60 hK hP hD hS hA [33] [0, 1, 2, 3, 4, 5, 6, 7, 8, 9, 10, 11, 12, 13, 14, 15, 16, 17, 18, 19, 20, 21, 22, 23, 24, 25, 26, 27, 28, 29, 30, 31, 32] [0, 1, 2, 3, 4, 5, 6, 7, 8, 9, 10, 11, 12, 13, 14, 15, 16, 17, 18, 19, 20, 21, 22, 23, 24, 25, 26, 27, 28, 29, 30, 31, 32, 33] rfl rfl rfl rfl (by decide) rfl rfl (fun H locs hP hD hS => ?_)
          have hP := va_P_perm (focB cy c8 (wF cy a7 y7 s7) ((w9 cy h0 h1 r0_1 h2 r0_3 r0_4 h3 r0_6 s0) ++ (w6o cy h1 r1_0 s1) ++ (w5 cy h2 a2 s2) ++ (w0 cy h3 h4 (a7 160) h5 h2 r3_4 s3) ++ (wWa cy h4 a7) ++ (w1 cy h5 h6 a5 s5) ++ (wP cy h6 a6 s6)) (memb_in hm_60) (eqn_eq h5_60)).symm hP
          have hD := va_D_perm (focB cy c8 (wF cy a7 y7 s7) ((w9 cy h0 h1 r0_1 h2 r0_3 r0_4 h3 r0_6 s0) ++ (w6o cy h1 r1_0 s1) ++ (w5 cy h2 a2 s2) ++ (w0 cy h3 h4 (a7 160) h5 h2 r3_4 s3) ++ (wWa cy h4 a7) ++ (w1 cy h5 h6 a5 s5) ++ (wP cy h6 a6 s6)) (memb_in hm_60) (eqn_eq h5_60)).symm hD
          refine lv_if_eq (tgt := 112) hx hb dX9_change_63 (by decide) (fun c_63 => ?_) (fun c_63 => ?_)
          · have hf := op_pos c_63 hf
            refine lv_iconst (v := 0) hx hb dX9_change_112 (by decide) ?_
            rw [← Option.some.inj hf]
            exact g_zret hx hb hr hlk (show isB 0 = true by decide) hK hP hD hS dX9_change_113
          · have hf := op_neg c_63 hf
            refine lv_aload_n hx hb dX9_change_66 rfl (lv_at hl 0 rfl) ?_
            refine va_get (ci := 8) (v := .ref h1) (C := RX9) (T := TX9) (N := 7) hx hb hts (fun w h => List.mem_cons_of_mem _ (inX9 w h)) hown hK hP 0 rfl rfl 0 (by decide) hk_12 (fun _ h9 => h9) rfl dX9_change_67 ?_
            refine va_get (ci := 6) (v := .ref r1_0) (C := RX6) (T := TX6) (N := 2) hx hb hts (fun w h => List.mem_cons_of_mem _ (inX6 w h)) hown hK hP 1 rfl rfl 0 (by decide) hk_31 (fun _ h9 => h9) rfl dX9_change_70 ?_
            refine lv_iconst (v := 0) hx hb dX9_change_73 (by decide) ?_
            refine lv_iload_n hx hb dX9_change_74 rfl (lv_at hl 3 rfl) ?_
            refine lv_aload_n hx hb dX9_change_75 rfl (lv_at hl 0 rfl) ?_
            refine va_get (ci := 8) (v := .ref h2) (C := RX9) (T := TX9) (N := 7) hx hb hts (fun w h => List.mem_cons_of_mem _ (inX9 w h)) hown hK hP 0 rfl rfl 2 (by decide) hk_22 (fun _ h9 => h9) rfl dX9_change_76 ?_
            refine lv_iload_n hx hb dX9_change_79 rfl (lv_at hl 2 rfl) ?_
            obtain ⟨q_80, hc_80, hf⟩ := op_bind hf
            refine g_callViT (As := [.int p2]) (rest := [.int p3, .int 0, .ref r1_0]) (w2 := (w9 cy h0 h1 r0_1 h2 r0_3 r0_4 h3 r0_6 s0) ++ (w6o cy h1 r1_0 s1) ++ (w5 cy h2 a2 s2) ++ (w0 cy h3 h4 (a7 160) h5 h2 r3_4 s3) ++ (wWa cy h4 a7) ++ (w1 cy h5 h6 a5 s5) ++ (wP cy h6 a6 s6)) ⟨hx, hb, hml, hown, hts⟩ (c_X5_widthOf l D cy h2 a2 s2 _ fu p2 _ hc_80) (cwV 1 hts (gi_V ml_RX9_125 im_X5_widthOf se_X5_widthOf in_RX5 cd_X5_widthOf) rfl rfl rfl hdX5_widthOf ⟨Nat.le_of_ble_eq_true rfl, Nat.le_of_ble_eq_true rfl⟩) (va_recv hK hP (ci := 5) (q0 := 2) rfl rfl) rfl hl.1 rfl (Nat.le_of_ble_eq_true rfl) dX9_change_80 hK hP hD hS hA [2, 3, 4, 5, 6, 7, 8, 9, 10] [0, 1, 11, 12, 13, 14, 15, 16, 17, 18, 19, 20, 21, 22, 23, 24, 25, 26, 27, 28, 29, 30, 31, 32] [0, 1, 24, 25, 26, 27, 28, 29, 30, 31, 32, 2, 3, 4, 5, 6, 7, 8, 9, 10, 11, 12, 13, 14, 15, 16, 17, 18, 19, 20, 21, 22, 23] rfl rfl rfl rfl (by decide) rfl rfl (fun H locs hP hD hS => ?_)
            obtain ⟨hm_83, hf⟩ := op_if hf
            obtain ⟨h5_83, hf⟩ := op_if hf
            obtain ⟨q_83, hc_83, hf⟩ := op_bind hf
            have hP := va_P_perm (focB cy c8 (wF cy a7 y7 s7) ((w9 cy h0 h1 r0_1 h2 r0_3 r0_4 h3 r0_6 s0) ++ (w6o cy h1 r1_0 s1) ++ (w5 cy h2 a2 s2) ++ (w0 cy h3 h4 (a7 160) h5 h2 r3_4 s3) ++ (wWa cy h4 a7) ++ (w1 cy h5 h6 a5 s5) ++ (wP cy h6 a6 s6)) (memb_in hm_83) (eqn_eq h5_83)) hP
            have hD := va_D_perm (focB cy c8 (wF cy a7 y7 s7) ((w9 cy h0 h1 r0_1 h2 r0_3 r0_4 h3 r0_6 s0) ++ (w6o cy h1 r1_0 s1) ++ (w5 cy h2 a2 s2) ++ (w0 cy h3 h4 (a7 160) h5 h2 r3_4 s3) ++ (wWa cy h4 a7) ++ (w1 cy h5 h6 a5 s5) ++ (wP cy h6 a6 s6)) (memb_in hm_83) (eqn_eq h5_83)) hD
            refine g_callSiT (As := [.ref r1_0, .int 0, .int p3, .int q_80]) (rest := []) (w2 := (w9 cy h0 h1 r0_1 h2 r0_3 r0_4 h3 r0_6 s0) ++ (w6o cy h1 r1_0 s1) ++ (w5 cy h2 a2 s2) ++ (w0 cy h3 h4 (a7 160) h5 h2 r3_4 s3) ++ (wWa cy h4 a7) ++ (w1 cy h5 h6 a5 s5) ++ (wP cy h6 a6 s6) ++ (wB cy r1_0 ((c8 r1_0).2))) ⟨hx, hb, hml, hown, hts⟩ (c_X8_fit l D cy r1_0 ((c8 r1_0).2) _ fu 0 p3 q_80 _ hc_83) (va_cwS 4 hts (gi_S ml_RX9_129 sm_X8_fit in_RX8 cd_X8_fit) rfl rfl rfl hdX8_fit ⟨Nat.le_of_ble_eq_true rfl, Nat.le_of_ble_eq_true rfl⟩) rfl hl.1 rfl (Nat.le_of_ble_eq_true rfl) dX9_change_83 hK hP hD hS hA [33] [0, 1, 2, 3, 4, 5, 6, 7, 8, 9, 10, 11, 12, 13, 14, 15, 16, 17, 18, 19, 20, 21, 22, 23, 24, 25, 26, 27, 28, 29, 30, 31, 32] [0, 1, 2, 3, 4, 5, 6, 7, 8, 9, 10, 11, 12, 13, 14, 15, 16, 17, 18, 19, 20, 21, 22, 23, 24, 25, 26, 27, 28, 29, 30, 31, 32, 33] rfl rfl rfl rfl (by decide) rfl rfl (fun H locs hP hD hS => ?_)
            have hP := va_P_perm (focB cy c8 (wF cy a7 y7 s7) ((w9 cy h0 h1 r0_1 h2 r0_3 r0_4 h3 r0_6 s0) ++ (w6o cy h1 r1_0 s1) ++ (w5 cy h2 a2 s2) ++ (w0 cy h3 h4 (a7 160) h5 h2 r3_4 s3) ++ (wWa cy h4 a7) ++ (w1 cy h5 h6 a5 s5) ++ (wP cy h6 a6 s6)) (memb_in hm_83) (eqn_eq h5_83)).symm hP
            have hD := va_D_perm (focB cy c8 (wF cy a7 y7 s7) ((w9 cy h0 h1 r0_1 h2 r0_3 r0_4 h3 r0_6 s0) ++ (w6o cy h1 r1_0 s1) ++ (w5 cy h2 a2 s2) ++ (w0 cy h3 h4 (a7 160) h5 h2 r3_4 s3) ++ (wWa cy h4 a7) ++ (w1 cy h5 h6 a5 s5) ++ (wP cy h6 a6 s6)) (memb_in hm_83) (eqn_eq h5_83)).symm hD
            refine lv_if_eq (tgt := 112) hx hb dX9_change_86 (by decide) (fun c_86 => ?_) (fun c_86 => ?_)
            · have hf := op_pos c_86 hf
              refine lv_iconst (v := 0) hx hb dX9_change_112 (by decide) ?_
              rw [← Option.some.inj hf]
              exact g_zret hx hb hr hlk (show isB 0 = true by decide) hK hP hD hS dX9_change_113
            · have hf := op_neg c_86 hf
              exact op_no hf
        · have hf := op_pos c_36 hf
          refine lv_aload_n hx hb dX9_change_39 rfl (lv_at hl 0 rfl) ?_
          refine va_get (ci := 8) (v := .ref h3) (C := RX9) (T := TX9) (N := 7) hx hb hts (fun w h => List.mem_cons_of_mem _ (inX9 w h)) hown hK hP 0 rfl rfl 5 (by decide) hk_45 (fun _ h9 => h9) rfl dX9_change_40 ?_
          refine lv_iload_n hx hb dX9_change_43 rfl (lv_at hl 1 rfl) ?_
          refine lv_iload_n hx hb dX9_change_44 rfl (lv_at hl 2 rfl) ?_
          obtain ⟨q_45, hc_45, hf⟩ := op_bind hf
          refine g_callVvU (As := [.int p1, .int p2]) (rest := []) (w2 := (w9 cy h0 h1 r0_1 h2 r0_3 r0_4 h3 r0_6 s0) ++ (w6o cy h1 r1_0 s1) ++ (w5 cy h2 a2 s2) ++ (w0 cy h3 h4 (a7 160) h5 h2 r3_4 s3) ++ (wWa cy h4 a7) ++ (w1 cy h5 h6 a5 q_45.1) ++ (wP cy h6 a6 q_45.2.1)) (tl1 := (wF cy a7 y7 q_45.2.2) ++ (wK cy L8 c8)) ⟨hx, hb, hml, hown, hts⟩ (c_X0_restore l D cy h3 r3_4 s3 h4 h2 a2 s2 h5 a5 s5 h6 a6 s6 a7 y7 s7 L8 c8 _ fu p1 p2 _ hc_45) (cwV 2 hts (gi_V ml_RX9_115 im_X0_restore se_X0_restore in_RX0 cd_X0_restore) rfl rfl rfl hdX0_restore ⟨Nat.le_of_ble_eq_true rfl, Nat.le_of_ble_eq_true rfl⟩) (va_recv hK hP (ci := 0) (q0 := 11) rfl rfl) rfl hl.1 rfl (Nat.le_of_ble_eq_true rfl) dX9_change_45 hK hP hD hS hA [11, 12, 2, 3, 4, 5, 6, 7, 8, 9, 10, 13, 14, 15, 16, 17, 18, 19, 20, 21, 22, 23, 24, 25, 26, 27, 28, 29, 30, 31, 32] [0, 1] [0, 1, 4, 5, 6, 7, 8, 9, 10, 11, 12, 2, 3, 13, 14, 15, 16, 17, 18, 19, 20, 21, 22, 23, 24, 25, 26, 27, 28, 29, 30, 31, 32] rfl rfl rfl rfl (by decide) rfl rfl (fun H locs hP hD hS => ?_)
          refine lv_goto (tgt := 114) hx hb dX9_change_48 (by decide) ?_
          exact b_X9_changeA_L114 l D cy h0 r0_1 r0_3 r0_4 r0_6 s0 h1 r1_0 h2 a2 s2 h3 r3_4 s3 h4 h5 a5 h6 a6 a7 y7 L8 c8 fu out C hA hK s1 q_45.1 q_45.2.1 q_45.2.2 hf _ _ ls hP hD hS (lv_sub hl [0] rfl)
      · have hf := op_pos c_30 hf
        refine lv_iconst (v := 0) hx hb dX9_change_33 (by decide) ?_
        rw [← Option.some.inj hf]
        exact g_zret hx hb hr hlk (show isB 0 = true by decide) hK hP hD hS dX9_change_34
