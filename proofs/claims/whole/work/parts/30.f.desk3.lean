def f_X9_textM (fu : Nat) (s0 : St) (s1 : St)  (p1 : Int32) : Option (Int32) := (f_X6_holdsO fu s1 p1).bind (fun q_5 => if q_5 = 0 then (some (-2)) else (none))
theorem hdX9_text : yX9_text.cls = RX9 ∧ yX9_text.cls ≠ "java/lang/invoke/MethodHandle" ∧ yX9_text.cls ≠ "java/lang/invoke/VarHandle" ∧ (parseMethodDescriptor yX9_text.desc).map (fun d => d.parameters.length) = some 1 := by decide +kernel
set_option maxHeartbeats 4000000 in
set_option maxRecDepth 100000 in
theorem c_X9_textM (l : Launch) (D : va_G) (cy : Nat → ClassId) (h0 : Nat) (r0_1 : Nat) (r0_2 : Nat) (r0_3 : Nat) (r0_4 : Nat) (r0_5 : Nat) (r0_6 : Nat) (s0 : St) (h1 : Nat) (r1_0 : Nat) (s1 : St) (sz fu : Nat) (p1 : Int32) (out : Int32) (hf : f_X9_textM fu s0 s1 p1 = some out) :
    Met l yX9_text (WS yX9_text cX9_text 3 (some .int)) ({ frames := 1, cells := 0, slots := 0, locals := 21 } : Room) (va_Pc [.ref h0, .int p1] (gP D cy sz ((w9 cy h0 h1 r0_1 r0_2 r0_3 r0_4 r0_5 r0_6 s0) ++ (w6o cy h1 r1_0 s1)))) ((fun A : Nat → Prop => gQi D cy A out ((w9 cy h0 h1 r0_1 r0_2 r0_3 r0_4 r0_5 r0_6 s0) ++ (w6o cy h1 r1_0 s1))) (va_A ((w9 cy h0 h1 r0_1 r0_2 r0_3 r0_4 r0_5 r0_6 s0) ++ (w6o cy h1 r1_0 s1)) sz)) 0 0 (va_A ((w9 cy h0 h1 r0_1 r0_2 r0_3 r0_4 r0_5 r0_6 s0) ++ (w6o cy h1 r1_0 s1)) sz) := by
  refine g_met (cc := cX9_text) (maxL := 3) (ret := (some .int)) (fun A : Nat → Prop => gQi D cy A out ((w9 cy h0 h1 r0_1 r0_2 r0_3 r0_4 r0_5 r0_6 s0) ++ (w6o cy h1 r1_0 s1))) (by decide +kernel) rfl (Nat.le_of_ble_eq_true rfl) ?_
  intro p e s m below meth c A C hA hK hP hD ls hl
  obtain ⟨hx, hb, hr, hml, hown, hts, hlk⟩ := id C
  have hown : s.vm.findClass RX9 = some m.cls := hown
  have hS : va_S A s.heap s.heap [] := va_S.rf
  have hl : lv_has ls 3 [(0, .ref h0), (1, .int p1)] := hl
  have hk_12 := hts _ (List.mem_cons_of_mem _ fl_RX9_12)
  unfold f_X9_textM at hf
  refine lv_aload_n hx hb dX9_text_0 rfl (lv_at hl 0 rfl) ?_
  refine va_get (ci := 8) (v := .ref h1) (C := RX9) (T := TX9) (N := 7) hx hb hts (fun w h => List.mem_cons_of_mem _ (inX9 w h)) hown hK hP 0 rfl rfl 0 (by decide) hk_12 (fun _ h9 => h9) rfl dX9_text_1 ?_
  refine lv_iload_n hx hb dX9_text_4 rfl (lv_at hl 1 rfl) ?_
  obtain ⟨q_5, hc_5, hf⟩ := op_bind hf
  refine g_callVi (As := [.int p1]) (rest := []) (w2 := (w9 cy h0 h1 r0_1 r0_2 r0_3 r0_4 r0_5 r0_6 s0) ++ (w6o cy h1 r1_0 s1)) ⟨hx, hb, hml, hown, hts⟩ (c_X6_holdsO l D cy h1 r1_0 s1 _ fu p1 _ hc_5) (cwV 1 hts (gi_V ml_RX9_70 im_X6_holds se_X6_holds in_RX6 cd_X6_holds) rfl rfl rfl hdX6_holds ⟨Nat.le_of_ble_eq_true rfl, Nat.le_of_ble_eq_true rfl⟩) (va_recv hK hP (ci := 6) (q0 := 1) rfl rfl) rfl hl.1 rfl (Nat.le_of_ble_eq_true rfl) dX9_text_5 hK hP hD hS hA [1] [0] [0, 1] rfl rfl rfl rfl (by decide) rfl rfl (fun H locs hP hD hS => ?_)
  refine lv_if_ne (tgt := 14) hx hb dX9_text_8 (by decide) (fun c_8 => ?_) (fun c_8 => ?_)
  · have hf := op_neg c_8 hf
    exact op_no hf
  · have hf := op_pos c_8 hf
    refine lv_bipush (v := (-2)) hx hb dX9_text_11 (by decide) ?_
    rw [← Option.some.inj hf]
    exact g_iret hx hb hr hlk hK hP hD hS dX9_text_13
def f_X9_textF_L71  (fu : Nat) (r1_0 : Nat) (s0 : St) (s5 : FSt) (L6 : List Nat) (c6 : Nat → Nat × (Nat → Int32)) (u1 : St) (u2 : St) (u3 : St) (u4 : St) (x2 : Int32) : Option (Int32 × St × St × St × St) := (f_X6_clearO fu u1).bind (fun q_75 => if x2 = 0 then (some ((-1), q_75, u2, u3, u4)) else (none))
set_option maxHeartbeats 4000000 in
set_option maxRecDepth 100000 in
theorem b_X9_textF_L71 {p : Program} {e : Env} {s : State} {m : MethodId} {args : Array Value} {below : List Frame} {meth : Method} {c : Code} {A : Nat → Prop} (l : Launch) (D : va_G) (cy : Nat → ClassId) (adK adV : Nat → Nat) (h0 : Nat) (r0_1 : Nat) (r0_2 : Nat) (r0_5 : Nat) (r0_6 : Nat) (s0 : St) (h1 : Nat) (r1_0 : Nat) (h2 : Nat) (a2 : Nat → Nat) (h3 : Nat) (r3_3 : Nat) (h4 : Nat) (r4_0 : Nat)  (a5 : Nat → Nat) (y5 : Nat → Nat) (s5 : FSt)  (L6 : List Nat) (c6 : Nat → Nat × (Nat → Int32)) (fu : Nat) (out : Int32 × St × St × St × St) (C : gC p s m args meth c (WS yX9_text cX9_text 3 (some .int)) cX9_text 3 (some .int) RX9) (hA : ∀ q : Nat, s.heap.size ≤ q → A q) (hE : gE adK adV A s s.heap) (hK : va_K D vwCl (TY cy) s)  :
    ∀ (u1 : St) (u2 : St) (u3 : St) (u4 : St) (x2 : Int32), f_X9_textF_L71 fu r1_0 s0 s5 L6 c6 u1 u2 u3 u4 x2 = some out → ∀ (H : Heap) (locs : List Loc) (ls : Array Slot), va_P D vwCl (((w9 cy h0 h1 r0_1 r0_2 h2 h3 r0_5 r0_6 s0) ++ (w6o cy h1 r1_0 u1) ++ (w5 cy h2 a2 u2) ++ (w3 cy h3 h4 h2 u3) ++ (w4 cy h4 r1_0 u4)) ++ ((wF cy a5 y5 s5) ++ (wK cy L6 c6))) H → va_D A (((w9 cy h0 h1 r0_1 r0_2 h2 h3 r0_5 r0_6 s0) ++ (w6o cy h1 r1_0 u1) ++ (w5 cy h2 a2 u2) ++ (w3 cy h3 h4 h2 u3) ++ (w4 cy h4 r1_0 u4)) ++ ((wF cy a5 y5 s5) ++ (wK cy L6 c6))) → va_S A s.heap H locs → lv_has ls 3 [(0, .ref h0), (2, .int x2)] → W p l e ({ frames := 7, cells := 0, slots := 0, locals := 155 } : Room) s m args below meth c H locs 0 0 (MQ below (gQi D cy A out.1 (((w9 cy h0 h1 r0_1 r0_2 h2 h3 r0_5 r0_6 s0) ++ (w6o cy h1 r1_0 out.2.1) ++ (w5 cy h2 a2 out.2.2.1) ++ (w3 cy h3 h4 h2 out.2.2.2.1) ++ (w4 cy h4 r1_0 out.2.2.2.2)) ++ ((wF cy a5 y5 s5) ++ (wK cy L6 c6)))) args s 0 0 A) (F0 m 71 ls []) := by
  obtain ⟨hx, hb, hr, hml, hown, hts, hlk⟩ := id C
  have hown : s.vm.findClass RX9 = some m.cls := hown
  have hk_12 := hts _ (List.mem_cons_of_mem _ fl_RX9_12)
  intro u1 u2 u3 u4 x2 hf H locs ls hP hD hS hl
  unfold f_X9_textF_L71 at hf
  refine lv_aload_n hx hb dX9_text_71 rfl (lv_at hl 0 rfl) ?_
  refine va_get (ci := 8) (v := .ref h1) (C := RX9) (T := TX9) (N := 7) hx hb hts (fun w h => List.mem_cons_of_mem _ (inX9 w h)) hown hK hP 0 rfl rfl 0 (by decide) hk_12 (fun _ h9 => h9) rfl dX9_text_72 ?_
  obtain ⟨q_75, hc_75, hf⟩ := op_bind hf
  refine g_callVvTM (As := []) (rest := []) (w2 := (w9 cy h0 h1 r0_1 r0_2 h2 h3 r0_5 r0_6 s0) ++ (w6o cy h1 r1_0 q_75) ++ (w5 cy h2 a2 u2) ++ (w3 cy h3 h4 h2 u3) ++ (w4 cy h4 r1_0 u4)) (ms := [w9 cy h0 h1 r0_1 r0_2 h2 h3 r0_5 r0_6 s0, w6o cy h1 r1_0 u1, w5 cy h2 a2 u2, w3 cy h3 h4 h2 u3, w4 cy h4 r1_0 u4]) (mc := [w6o cy h1 r1_0 u1]) (m1 := [w6o cy h1 r1_0 q_75]) (m2 := [w9 cy h0 h1 r0_1 r0_2 h2 h3 r0_5 r0_6 s0, w6o cy h1 r1_0 q_75, w5 cy h2 a2 u2, w3 cy h3 h4 h2 u3, w4 cy h4 r1_0 u4]) (nm := 5) ⟨hx, hb, hml, hown, hts⟩ (c_X6_clearO l D cy h1 r1_0 u1 _ fu _ hc_75) (cwV 0 hts (gi_V ml_RX9_87 im_X6_clear se_X6_clear in_RX6 cd_X6_clear) rfl rfl rfl hdX6_clear ⟨Nat.le_of_ble_eq_true rfl, Nat.le_of_ble_eq_true rfl⟩) (va_recv hK hP (ci := 6) (q0 := 1) rfl rfl) rfl hl.1 rfl (Nat.le_of_ble_eq_true rfl) dX9_text_75 hK hP hD hS hA [1] [0, 2, 3, 4] [0, 4, 1, 2, 3] (by simp only [List.flatten_cons, List.flatten_nil, List.append_nil, List.append_assoc]) (by simp only [List.flatten_cons, List.flatten_nil, List.append_nil, List.append_assoc]) (by simp only [List.flatten_cons, List.flatten_nil, List.append_nil, List.append_assoc]) (by simp only [List.flatten_cons, List.flatten_nil, List.append_nil, List.append_assoc]) rfl rfl (by decide) rfl rfl (by decide) (fun H locs hP hD hS => ?_)
  refine lv_iload_n hx hb dX9_text_78 rfl (lv_at hl 1 rfl) ?_
  refine lv_if_eq (tgt := 92) hx hb dX9_text_79 (by decide) (fun c_79 => ?_) (fun c_79 => ?_)
  · have hf := op_pos c_79 hf
    refine lv_iconst (v := (-1)) hx hb dX9_text_92 (by decide) ?_
    rw [← Option.some.inj hf]
    exact g_iret hx hb hr hlk hK hP hD hS dX9_text_93
  · have hf := op_neg c_79 hf
    exact op_no hf
def f_X9_textF (fu : Nat) (r1_0 : Nat) (s0 : St) (s5 : FSt) (L6 : List Nat) (c6 : Nat → Nat × (Nat → Int32)) (s1 : St) (s2 : St) (s3 : St) (s4 : St) (p1 : Int32) : Option (Int32 × St × St × St × St) := (f_X6_holdsO fu s1 p1).bind (fun q_5 => if q_5 = 0 then (none) else (if memb r1_0 L6 = true then (if eqn (c6 r1_0).1 1500 = true then ((f_X3_read fu ((c6 r1_0).2) s3 s4 s2 p1).bind (fun q_30 => if q_30.1 = 0 then (f_X9_textF_L71 fu r1_0 s0 s5 L6 c6 s1 q_30.2.2.2 q_30.2.1 q_30.2.2.1 q_30.1) else (none))) else none) else none))
set_option maxHeartbeats 4000000 in
set_option maxRecDepth 100000 in
theorem c_X9_textF (l : Launch) (D : va_G) (cy : Nat → ClassId) (adK adV : Nat → Nat) (h0 : Nat) (r0_1 : Nat) (r0_2 : Nat) (r0_5 : Nat) (r0_6 : Nat) (s0 : St) (h1 : Nat) (r1_0 : Nat) (s1 : St) (h2 : Nat) (a2 : Nat → Nat) (s2 : St) (h3 : Nat) (r3_3 : Nat) (s3 : St) (h4 : Nat) (r4_0 : Nat) (s4 : St)  (a5 : Nat → Nat) (y5 : Nat → Nat) (s5 : FSt)  (L6 : List Nat) (c6 : Nat → Nat × (Nat → Int32)) (sz fu : Nat) (p1 : Int32) (out : Int32 × St × St × St × St) (hf : f_X9_textF fu r1_0 s0 s5 L6 c6 s1 s2 s3 s4 p1 = some out) :
    Met l yX9_text (WS yX9_text cX9_text 3 (some .int)) ({ frames := 7, cells := 0, slots := 0, locals := 155 } : Room) (va_Pc [.ref h0, .int p1] (gPE D cy adK adV sz (((w9 cy h0 h1 r0_1 r0_2 h2 h3 r0_5 r0_6 s0) ++ (w6o cy h1 r1_0 s1) ++ (w5 cy h2 a2 s2) ++ (w3 cy h3 h4 r3_3 s3) ++ (w4 cy h4 r4_0 s4)) ++ ((wF cy a5 y5 s5) ++ (wK cy L6 c6))))) ((fun A : Nat → Prop => gQi D cy A out.1 (((w9 cy h0 h1 r0_1 r0_2 h2 h3 r0_5 r0_6 s0) ++ (w6o cy h1 r1_0 out.2.1) ++ (w5 cy h2 a2 out.2.2.1) ++ (w3 cy h3 h4 h2 out.2.2.2.1) ++ (w4 cy h4 r1_0 out.2.2.2.2)) ++ ((wF cy a5 y5 s5) ++ (wK cy L6 c6)))) (va_A (((w9 cy h0 h1 r0_1 r0_2 h2 h3 r0_5 r0_6 s0) ++ (w6o cy h1 r1_0 s1) ++ (w5 cy h2 a2 s2) ++ (w3 cy h3 h4 r3_3 s3) ++ (w4 cy h4 r4_0 s4)) ++ ((wF cy a5 y5 s5) ++ (wK cy L6 c6))) sz)) 0 0 (va_A (((w9 cy h0 h1 r0_1 r0_2 h2 h3 r0_5 r0_6 s0) ++ (w6o cy h1 r1_0 s1) ++ (w5 cy h2 a2 s2) ++ (w3 cy h3 h4 r3_3 s3) ++ (w4 cy h4 r4_0 s4)) ++ ((wF cy a5 y5 s5) ++ (wK cy L6 c6))) sz) := by
  refine g_metE (cc := cX9_text) (maxL := 3) (ret := (some .int)) (fun A : Nat → Prop => gQi D cy A out.1 (((w9 cy h0 h1 r0_1 r0_2 h2 h3 r0_5 r0_6 s0) ++ (w6o cy h1 r1_0 out.2.1) ++ (w5 cy h2 a2 out.2.2.1) ++ (w3 cy h3 h4 h2 out.2.2.2.1) ++ (w4 cy h4 r1_0 out.2.2.2.2)) ++ ((wF cy a5 y5 s5) ++ (wK cy L6 c6)))) (by decide +kernel) rfl (Nat.le_of_ble_eq_true rfl) ?_
  intro p e s m below meth c A C hA hE hK hP hD ls hl
  obtain ⟨hx, hb, hr, hml, hown, hts, hlk⟩ := id C
  have hown : s.vm.findClass RX9 = some m.cls := hown
  have hS : va_S A s.heap s.heap [] := va_S.rf
  have hl : lv_has ls 3 [(0, .ref h0), (1, .int p1)] := hl
  have hk_12 := hts _ (List.mem_cons_of_mem _ fl_RX9_12)
  have hk_38 := hts _ (List.mem_cons_of_mem _ fl_RX9_38)
  have hk_31 := hts _ (List.mem_cons_of_mem _ fl_RX9_31)
  have hk_26 := hts _ (List.mem_cons_of_mem _ fl_RX9_26)
  unfold f_X9_textF at hf
  refine lv_aload_n hx hb dX9_text_0 rfl (lv_at hl 0 rfl) ?_
  refine va_get (ci := 8) (v := .ref h1) (C := RX9) (T := TX9) (N := 7) hx hb hts (fun w h => List.mem_cons_of_mem _ (inX9 w h)) hown hK hP 0 rfl rfl 0 (by decide) hk_12 (fun _ h9 => h9) rfl dX9_text_1 ?_
  refine lv_iload_n hx hb dX9_text_4 rfl (lv_at hl 1 rfl) ?_
  obtain ⟨q_5, hc_5, hf⟩ := op_bind hf
  refine g_callViTM (As := [.int p1]) (rest := []) (w2 := (w9 cy h0 h1 r0_1 r0_2 h2 h3 r0_5 r0_6 s0) ++ (w6o cy h1 r1_0 s1) ++ (w5 cy h2 a2 s2) ++ (w3 cy h3 h4 r3_3 s3) ++ (w4 cy h4 r4_0 s4)) (ms := [w9 cy h0 h1 r0_1 r0_2 h2 h3 r0_5 r0_6 s0, w6o cy h1 r1_0 s1, w5 cy h2 a2 s2, w3 cy h3 h4 r3_3 s3, w4 cy h4 r4_0 s4]) (mc := [w6o cy h1 r1_0 s1]) (m1 := [w6o cy h1 r1_0 s1]) (m2 := [w9 cy h0 h1 r0_1 r0_2 h2 h3 r0_5 r0_6 s0, w6o cy h1 r1_0 s1, w5 cy h2 a2 s2, w3 cy h3 h4 r3_3 s3, w4 cy h4 r4_0 s4]) (nm := 5) ⟨hx, hb, hml, hown, hts⟩ (c_X6_holdsO l D cy h1 r1_0 s1 _ fu p1 _ hc_5) (cwV 1 hts (gi_V ml_RX9_70 im_X6_holds se_X6_holds in_RX6 cd_X6_holds) rfl rfl rfl hdX6_holds ⟨Nat.le_of_ble_eq_true rfl, Nat.le_of_ble_eq_true rfl⟩) (va_recv hK hP (ci := 6) (q0 := 1) rfl rfl) rfl hl.1 rfl (Nat.le_of_ble_eq_true rfl) dX9_text_5 hK hP hD hS hA [1] [0, 2, 3, 4] [0, 4, 1, 2, 3] (by simp only [List.flatten_cons, List.flatten_nil, List.append_nil, List.append_assoc]) (by simp only [List.flatten_cons, List.flatten_nil, List.append_nil, List.append_assoc]) (by simp only [List.flatten_cons, List.flatten_nil, List.append_nil, List.append_assoc]) (by simp only [List.flatten_cons, List.flatten_nil, List.append_nil, List.append_assoc]) rfl rfl (by decide) rfl rfl (by decide) (fun H locs hP hD hS => ?_)
  refine lv_if_ne (tgt := 14) hx hb dX9_text_8 (by decide) (fun c_8 => ?_) (fun c_8 => ?_)
  · have hf := op_neg c_8 hf
    refine lv_aload_n hx hb dX9_text_14 rfl (lv_at hl 0 rfl) ?_
    refine va_get (ci := 8) (v := .ref h3) (C := RX9) (T := TX9) (N := 7) hx hb hts (fun w h => List.mem_cons_of_mem _ (inX9 w h)) hown hK hP 0 rfl rfl 4 (by decide) hk_38 (fun _ h9 => h9) rfl dX9_text_15 ?_
    refine lv_aload_n hx hb dX9_text_18 rfl (lv_at hl 0 rfl) ?_
    refine va_get (ci := 8) (v := .ref h1) (C := RX9) (T := TX9) (N := 7) hx hb hts (fun w h => List.mem_cons_of_mem _ (inX9 w h)) hown hK hP 0 rfl rfl 0 (by decide) hk_12 (fun _ h9 => h9) rfl dX9_text_19 ?_
    refine va_get (ci := 6) (v := .ref r1_0) (C := RX6) (T := TX6) (N := 2) hx hb hts (fun w h => List.mem_cons_of_mem _ (inX6 w h)) hown hK hP 1 rfl rfl 0 (by decide) hk_31 (fun _ h9 => h9) rfl dX9_text_22 ?_
    refine lv_iload_n hx hb dX9_text_25 rfl (lv_at hl 1 rfl) ?_
    refine lv_aload_n hx hb dX9_text_26 rfl (lv_at hl 0 rfl) ?_
    refine va_get (ci := 8) (v := .ref h2) (C := RX9) (T := TX9) (N := 7) hx hb hts (fun w h => List.mem_cons_of_mem _ (inX9 w h)) hown hK hP 0 rfl rfl 3 (by decide) hk_26 (fun _ h9 => h9) rfl dX9_text_27 ?_
    obtain ⟨hm_30, hf⟩ := op_if hf
    obtain ⟨h5_30, hf⟩ := op_if hf
    obtain ⟨q_30, hc_30, hf⟩ := op_bind hf
    have hP := va_P_perm (focB cy c6 (wF cy a5 y5 s5) ((w9 cy h0 h1 r0_1 r0_2 h2 h3 r0_5 r0_6 s0) ++ (w6o cy h1 r1_0 s1) ++ (w5 cy h2 a2 s2) ++ (w3 cy h3 h4 r3_3 s3) ++ (w4 cy h4 r4_0 s4)) (memb_in hm_30) (eqn_eq h5_30)) hP
    have hD := va_D_perm (focB cy c6 (wF cy a5 y5 s5) ((w9 cy h0 h1 r0_1 r0_2 h2 h3 r0_5 r0_6 s0) ++ (w6o cy h1 r1_0 s1) ++ (w5 cy h2 a2 s2) ++ (w3 cy h3 h4 r3_3 s3) ++ (w4 cy h4 r4_0 s4)) (memb_in hm_30) (eqn_eq h5_30)) hD
    refine g_callViTME (As := [.ref r1_0, .int p1, .ref h2]) (rest := []) (w2 := (w9 cy h0 h1 r0_1 r0_2 h2 h3 r0_5 r0_6 s0) ++ (w6o cy h1 r1_0 s1) ++ (w5 cy h2 a2 q_30.2.2.2) ++ (w3 cy h3 h4 h2 q_30.2.1) ++ (w4 cy h4 r1_0 q_30.2.2.1) ++ (wB cy r1_0 ((c6 r1_0).2))) (ms := [w9 cy h0 h1 r0_1 r0_2 h2 h3 r0_5 r0_6 s0, w6o cy h1 r1_0 s1, w5 cy h2 a2 s2, w3 cy h3 h4 r3_3 s3, w4 cy h4 r4_0 s4, wB cy r1_0 ((c6 r1_0).2)]) (mc := [w3 cy h3 h4 r3_3 s3, w4 cy h4 r4_0 s4, wB cy r1_0 ((c6 r1_0).2), w5 cy h2 a2 s2]) (m1 := [w3 cy h3 h4 h2 q_30.2.1, w4 cy h4 r1_0 q_30.2.2.1, wB cy r1_0 ((c6 r1_0).2), w5 cy h2 a2 q_30.2.2.2]) (m2 := [w9 cy h0 h1 r0_1 r0_2 h2 h3 r0_5 r0_6 s0, w6o cy h1 r1_0 s1, w5 cy h2 a2 q_30.2.2.2, w3 cy h3 h4 h2 q_30.2.1, w4 cy h4 r1_0 q_30.2.2.1, wB cy r1_0 ((c6 r1_0).2)]) (nm := 6) ⟨hx, hb, hml, hown, hts⟩ (c_X3_read l D cy adK adV h3 r3_3 s3 h4 r4_0 s4 r1_0 ((c6 r1_0).2) h2 a2 s2 _ fu p1 _ hc_30) (cwV 3 hts (gi_V ml_RX9_74 im_X3_read se_X3_read in_RX3 cd_X3_read) rfl rfl rfl hdX3_read ⟨Nat.le_of_ble_eq_true rfl, Nat.le_of_ble_eq_true rfl⟩) (va_recv hK hP (ci := 3) (q0 := 11) rfl rfl) rfl hl.1 rfl (Nat.le_of_ble_eq_true rfl) dX9_text_30 hE hK hP hD hS hA [3, 4, 5, 2] [0, 1] [0, 1, 5, 2, 3, 4] (by simp only [List.flatten_cons, List.flatten_nil, List.append_nil, List.append_assoc]) (by simp only [List.flatten_cons, List.flatten_nil, List.append_nil, List.append_assoc]) (by simp only [List.flatten_cons, List.flatten_nil, List.append_nil, List.append_assoc]) (by simp only [List.flatten_cons, List.flatten_nil, List.append_nil, List.append_assoc]) rfl rfl (by decide) rfl rfl (by decide) (fun H locs hP hD hS => ?_)
    have hP := va_P_perm (focB cy c6 (wF cy a5 y5 s5) ((w9 cy h0 h1 r0_1 r0_2 h2 h3 r0_5 r0_6 s0) ++ (w6o cy h1 r1_0 s1) ++ (w5 cy h2 a2 q_30.2.2.2) ++ (w3 cy h3 h4 h2 q_30.2.1) ++ (w4 cy h4 r1_0 q_30.2.2.1)) (memb_in hm_30) (eqn_eq h5_30)).symm hP
    have hD := va_D_perm (focB cy c6 (wF cy a5 y5 s5) ((w9 cy h0 h1 r0_1 r0_2 h2 h3 r0_5 r0_6 s0) ++ (w6o cy h1 r1_0 s1) ++ (w5 cy h2 a2 q_30.2.2.2) ++ (w3 cy h3 h4 h2 q_30.2.1) ++ (w4 cy h4 r1_0 q_30.2.2.1)) (memb_in hm_30) (eqn_eq h5_30)).symm hD
    refine lv_istore_n (lv' := [(2, .int q_30.1), (0, .ref h0), (1, .int p1)]) hx hb dX9_text_33 rfl hl (by decide) rfl (fun ls hl => ?_)
    refine lv_iload_n hx hb dX9_text_34 rfl (lv_at hl 0 rfl) ?_
    refine lv_if_eq (tgt := 71) hx hb dX9_text_35 (by decide) (fun c_35 => ?_) (fun c_35 => ?_)
    · have hf := op_pos c_35 hf
      exact b_X9_textF_L71 l D cy adK adV h0 r0_1 r0_2 r0_5 r0_6 s0 h1 r1_0 h2 a2 h3 r3_3 h4 r4_0 a5 y5 s5 L6 c6 fu out C hA hE hK s1 q_30.2.2.2 q_30.2.1 q_30.2.2.1 q_30.1 hf _ _ ls hP hD hS (lv_sub hl [1, 0] rfl)
    · have hf := op_neg c_35 hf
      exact op_no hf
  · have hf := op_pos c_8 hf
    exact op_no hf
