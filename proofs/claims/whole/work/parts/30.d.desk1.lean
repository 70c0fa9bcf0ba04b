def f_X6_hasRoomO (fu : Nat) (s0 : St)   : Option (Int32) := if 1500 < ((s0.1 1) + 20) then (some 0) else (some 1)
set_option maxHeartbeats 4000000 in
set_option maxRecDepth 100000 in
theorem c_X6_hasRoomO (l : Launch) (D : va_G) (cy : Nat → ClassId) (h0 : Nat) (r0_0 : Nat) (s0 : St) (sz fu : Nat)  (out : Int32) (hf : f_X6_hasRoomO fu s0 = some out) :
    Met l yX6_hasRoom (WS yX6_hasRoom cX6_hasRoom 1 (some .boolean)) ({ frames := 0, cells := 0, slots := 0, locals := 0 } : Room) (va_Pc [.ref h0] (gP D cy sz (w6o cy h0 r0_0 s0))) ((fun A : Nat → Prop => gQi D cy A out (w6o cy h0 r0_0 s0)) (va_A (w6o cy h0 r0_0 s0) sz)) 0 0 (va_A (w6o cy h0 r0_0 s0) sz) := by
  refine g_met (cc := cX6_hasRoom) (maxL := 1) (ret := (some .boolean)) (fun A : Nat → Prop => gQi D cy A out (w6o cy h0 r0_0 s0)) (by decide +kernel) rfl (Nat.le_of_ble_eq_true rfl) ?_
  intro p e s m below meth c A C hA hK hP hD ls hl
  obtain ⟨hx, hb, hr, hml, hown, hts, hlk⟩ := id C
  have hown : s.vm.findClass RX6 = some m.cls := hown
  have hS : va_S A s.heap s.heap [] := va_S.rf
  have hl : lv_has ls 1 [(0, .ref h0)] := hl
  have hk_15 := hts _ (List.mem_cons_of_mem _ fl_RX6_15)
  unfold f_X6_hasRoomO at hf
  refine lv_aload_n hx hb dX6_hasRoom_0 rfl (lv_at hl 0 rfl) ?_
  refine va_get (ci := 6) (v := .int (s0.1 1)) (C := RX6) (T := TX6) (N := 2) hx hb hts (fun w h => List.mem_cons_of_mem _ (inX6 w h)) hown hK hP 0 rfl rfl 1 (by decide) hk_15 (fun _ h9 => h9) rfl dX6_hasRoom_1 ?_
  refine lv_bipush (v := 20) hx hb dX6_hasRoom_4 (by decide) ?_
  refine lv_iadd hx hb dX6_hasRoom_6 ?_
  refine lv_sipush (v := 1500) hx hb dX6_hasRoom_7 (by decide) ?_
  refine lv_icmp_gt (tgt := 17) hx hb dX6_hasRoom_10 (by decide) (fun c_10 => ?_) (fun c_10 => ?_)
  · have hf := op_pos c_10 hf
    refine lv_iconst (v := 0) hx hb dX6_hasRoom_17 (by decide) ?_
    rw [← Option.some.inj hf]
    exact g_zret hx hb hr hlk (show isB 0 = true by decide) hK hP hD hS dX6_hasRoom_18
  · have hf := op_neg c_10 hf
    refine lv_iconst (v := 1) hx hb dX6_hasRoom_13 (by decide) ?_
    refine lv_goto (tgt := 18) hx hb dX6_hasRoom_14 (by decide) ?_
    rw [← Option.some.inj hf]
    exact g_zret hx hb hr hlk (show isB 1 = true by decide) hK hP hD hS dX6_hasRoom_18
def f_X6_holdsO (fu : Nat) (s0 : St)  (p1 : Int32) : Option (Int32) := if p1 < 0 then (some 0) else (if (s0.1 1) < p1 then (some 0) else (some 1))
set_option maxHeartbeats 4000000 in
set_option maxRecDepth 100000 in
theorem c_X6_holdsO (l : Launch) (D : va_G) (cy : Nat → ClassId) (h0 : Nat) (r0_0 : Nat) (s0 : St) (sz fu : Nat) (p1 : Int32) (out : Int32) (hf : f_X6_holdsO fu s0 p1 = some out) :
    Met l yX6_holds (WS yX6_holds cX6_holds 2 (some .boolean)) ({ frames := 0, cells := 0, slots := 0, locals := 0 } : Room) (va_Pc [.ref h0, .int p1] (gP D cy sz (w6o cy h0 r0_0 s0))) ((fun A : Nat → Prop => gQi D cy A out (w6o cy h0 r0_0 s0)) (va_A (w6o cy h0 r0_0 s0) sz)) 0 0 (va_A (w6o cy h0 r0_0 s0) sz) := by
  refine g_met (cc := cX6_holds) (maxL := 2) (ret := (some .boolean)) (fun A : Nat → Prop => gQi D cy A out (w6o cy h0 r0_0 s0)) (by decide +kernel) rfl (Nat.le_of_ble_eq_true rfl) ?_
  intro p e s m below meth c A C hA hK hP hD ls hl
  obtain ⟨hx, hb, hr, hml, hown, hts, hlk⟩ := id C
  have hown : s.vm.findClass RX6 = some m.cls := hown
  have hS : va_S A s.heap s.heap [] := va_S.rf
  have hl : lv_has ls 2 [(0, .ref h0), (1, .int p1)] := hl
  have hk_15 := hts _ (List.mem_cons_of_mem _ fl_RX6_15)
  unfold f_X6_holdsO at hf
  refine lv_iload_n hx hb dX6_holds_0 rfl (lv_at hl 1 rfl) ?_
  refine lv_if_lt (tgt := 16) hx hb dX6_holds_1 (by decide) (fun c_1 => ?_) (fun c_1 => ?_)
  · have hf := op_pos c_1 hf
    refine lv_iconst (v := 0) hx hb dX6_holds_16 (by decide) ?_
    rw [← Option.some.inj hf]
    exact g_zret hx hb hr hlk (show isB 0 = true by decide) hK hP hD hS dX6_holds_17
  · have hf := op_neg c_1 hf
    refine lv_iload_n hx hb dX6_holds_4 rfl (lv_at hl 1 rfl) ?_
    refine lv_aload_n hx hb dX6_holds_5 rfl (lv_at hl 0 rfl) ?_
    refine va_get (ci := 6) (v := .int (s0.1 1)) (C := RX6) (T := TX6) (N := 2) hx hb hts (fun w h => List.mem_cons_of_mem _ (inX6 w h)) hown hK hP 0 rfl rfl 1 (by decide) hk_15 (fun _ h9 => h9) rfl dX6_holds_6 ?_
    refine lv_icmp_gt (tgt := 16) hx hb dX6_holds_9 (by decide) (fun c_9 => ?_) (fun c_9 => ?_)
    · have hf := op_pos c_9 hf
      refine lv_iconst (v := 0) hx hb dX6_holds_16 (by decide) ?_
      rw [← Option.some.inj hf]
      exact g_zret hx hb hr hlk (show isB 0 = true by decide) hK hP hD hS dX6_holds_17
    · have hf := op_neg c_9 hf
      refine lv_iconst (v := 1) hx hb dX6_holds_12 (by decide) ?_
      refine lv_goto (tgt := 17) hx hb dX6_holds_13 (by decide) ?_
      rw [← Option.some.inj hf]
      exact g_zret hx hb hr hlk (show isB 1 = true by decide) hK hP hD hS dX6_holds_17
def f_X6_clearO (fu : Nat)  (s0 : St)  : Option (St) := some (sF s0 1 0)
set_option maxHeartbeats 4000000 in
set_option maxRecDepth 100000 in
theorem c_X6_clearO (l : Launch) (D : va_G) (cy : Nat → ClassId) (h0 : Nat) (r0_0 : Nat) (s0 : St) (sz fu : Nat)  (out : St) (hf : f_X6_clearO fu s0 = some out) :
    Met l yX6_clear (WS yX6_clear cX6_clear 1 none) ({ frames := 0, cells := 0, slots := 0, locals := 0 } : Room) (va_Pc [.ref h0] (gP D cy sz (w6o cy h0 r0_0 s0))) ((fun A : Nat → Prop => gQv D cy A (w6o cy h0 r0_0 out)) (va_A (w6o cy h0 r0_0 s0) sz)) 0 0 (va_A (w6o cy h0 r0_0 s0) sz) := by
  refine g_met (cc := cX6_clear) (maxL := 1) (ret := none) (fun A : Nat → Prop => gQv D cy A (w6o cy h0 r0_0 out)) (by decide +kernel) rfl (Nat.le_of_ble_eq_true rfl) ?_
  intro p e s m below meth c A C hA hK hP hD ls hl
  obtain ⟨hx, hb, hr, hml, hown, hts, hlk⟩ := id C
  have hown : s.vm.findClass RX6 = some m.cls := hown
  have hS : va_S A s.heap s.heap [] := va_S.rf
  have hl : lv_has ls 1 [(0, .ref h0)] := hl
  have hk_15 := hts _ (List.mem_cons_of_mem _ fl_RX6_15)
  unfold f_X6_clearO at hf
  refine lv_aload_n hx hb dX6_clear_0 rfl (lv_at hl 0 rfl) ?_
  refine lv_iconst (v := 0) hx hb dX6_clear_1 (by decide) ?_
  refine va_put (ci := 6) (v := .int 0) (ty := tyX6 1) (C := RX6) (T := TX6) (N := 2) hx hb hts (fun w h => List.mem_cons_of_mem _ (inX6 w h)) tyX6 tyX6_ok nmX6 hown hK hP hD hS 0 rfl rfl 1 (by decide) hk_15 (fun _ h9 => h9) rfl (tyX6_ok 1 (by decide)) rfl rfl (Nat.le_of_ble_eq_true rfl) dX6_clear_2 (fun H locs hP hD hS => ?_)
  have hP : va_P D vwCl (w6o cy h0 r0_0 (sF s0 1 0)) H := hP
  have hD : va_D A (w6o cy h0 r0_0 (sF s0 1 0)) := hD
  rw [← Option.some.inj hf]
  exact g_vret hx hb hr hlk hK hP hD hS dX6_clear_5
def f_X9_feed (fu : Nat) (s0 : St) (s1 : St) (p1 : Int32) (p2 : Int32) (p3 : Int32) (p4 : Int32) (p5 : Int32) : Option (Int32 × St) := (f_X6_hasRoom fu s1).bind (fun q_4 => if q_4 = 0 then (some ((-1), s1)) else ((f_X6_append fu s1 p1).bind (fun q_17 => (f_X6_append fu q_17 p2).bind (fun q_25 => (f_X6_append fu q_25 p3).bind (fun q_33 => (f_X6_append fu q_33 p4).bind (fun q_42 => (f_X6_append fu q_42 p5).bind (fun q_51 => some (q_51.1 1, q_51))))))))
theorem hdX9_feed : yX9_feed.cls = RX9 ∧ yX9_feed.cls ≠ "java/lang/invoke/MethodHandle" ∧ yX9_feed.cls ≠ "java/lang/invoke/VarHandle" ∧ (parseMethodDescriptor yX9_feed.desc).map (fun d => d.parameters.length) = some 5 := by decide +kernel
set_option maxHeartbeats 4000000 in
set_option maxRecDepth 100000 in
theorem c_X9_feed (l : Launch) (D : va_G) (cy : Nat → ClassId) (h0 : Nat) (r0_1 : Nat) (r0_2 : Nat) (r0_3 : Nat) (r0_4 : Nat) (r0_5 : Nat) (r0_6 : Nat) (s0 : St) (h1 : Nat) (a1 : Nat → Nat) (s1 : St) (sz fu : Nat) (p1 : Int32) (p2 : Int32) (p3 : Int32) (p4 : Int32) (p5 : Int32) (out : Int32 × St) (hf : f_X9_feed fu s0 s1 p1 p2 p3 p4 p5 = some out) :
    Met l yX9_feed (WS yX9_feed cX9_feed 6 (some .int)) ({ frames := 1, cells := 0, slots := 0, locals := 22 } : Room) (va_Pc [.ref h0, .int p1, .int p2, .int p3, .int p4, .int p5] (gP D cy sz ((w9 cy h0 h1 r0_1 r0_2 r0_3 r0_4 r0_5 r0_6 s0) ++ (w6 cy h1 a1 s1)))) ((fun A : Nat → Prop => gQi D cy A out.1 ((w9 cy h0 h1 r0_1 r0_2 r0_3 r0_4 r0_5 r0_6 s0) ++ (w6 cy h1 a1 out.2))) (va_A ((w9 cy h0 h1 r0_1 r0_2 r0_3 r0_4 r0_5 r0_6 s0) ++ (w6 cy h1 a1 s1)) sz)) 0 0 (va_A ((w9 cy h0 h1 r0_1 r0_2 r0_3 r0_4 r0_5 r0_6 s0) ++ (w6 cy h1 a1 s1)) sz) := by
  refine g_met (cc := cX9_feed) (maxL := 6) (ret := (some .int)) (fun A : Nat → Prop => gQi D cy A out.1 ((w9 cy h0 h1 r0_1 r0_2 r0_3 r0_4 r0_5 r0_6 s0) ++ (w6 cy h1 a1 out.2))) (by decide +kernel) rfl (Nat.le_of_ble_eq_true rfl) ?_
  intro p e s m below meth c A C hA hK hP hD ls hl
  obtain ⟨hx, hb, hr, hml, hown, hts, hlk⟩ := id C
  have hown : s.vm.findClass RX9 = some m.cls := hown
  have hS : va_S A s.heap s.heap [] := va_S.rf
  have hl : lv_has ls 6 [(0, .ref h0), (1, .int p1), (2, .int p2), (3, .int p3), (4, .int p4), (5, .int p5)] := hl
  have hk_12 := hts _ (List.mem_cons_of_mem _ fl_RX9_12)
  have hk_66 := hts _ (List.mem_cons_of_mem _ fl_RX9_66)
  unfold f_X9_feed at hf
  refine lv_aload_n hx hb dX9_feed_0 rfl (lv_at hl 0 rfl) ?_
  refine va_get (ci := 8) (v := .ref h1) (C := RX9) (T := TX9) (N := 7) hx hb hts (fun w h => List.mem_cons_of_mem _ (inX9 w h)) hown hK hP 0 rfl rfl 0 (by decide) hk_12 (fun _ h9 => h9) rfl dX9_feed_1 ?_
  obtain ⟨q_4, hc_4, hf⟩ := op_bind hf
  refine g_callVi (As := []) (rest := []) (w2 := (w9 cy h0 h1 r0_1 r0_2 r0_3 r0_4 r0_5 r0_6 s0) ++ (w6 cy h1 a1 s1)) ⟨hx, hb, hml, hown, hts⟩ (c_X6_hasRoom l D cy h1 a1 s1 _ fu _ hc_4) (cwV 0 hts (gi_V ml_RX9_58 im_X6_hasRoom se_X6_hasRoom in_RX6 cd_X6_hasRoom) rfl rfl rfl hdX6_hasRoom ⟨Nat.le_of_ble_eq_true rfl, Nat.le_of_ble_eq_true rfl⟩) (va_recv hK hP (ci := 6) (q0 := 1) rfl rfl) rfl hl.1 rfl (Nat.le_of_ble_eq_true rfl) dX9_feed_4 hK hP hD hS hA [1, 2] [0] [0, 1, 2] rfl rfl rfl rfl (by decide) rfl rfl (fun H locs hP hD hS => ?_)
  refine lv_if_ne (tgt := 12) hx hb dX9_feed_7 (by decide) (fun c_7 => ?_) (fun c_7 => ?_)
  · have hf := op_neg c_7 hf
    refine lv_aload_n hx hb dX9_feed_12 rfl (lv_at hl 0 rfl) ?_
    refine va_get (ci := 8) (v := .ref h1) (C := RX9) (T := TX9) (N := 7) hx hb hts (fun w h => List.mem_cons_of_mem _ (inX9 w h)) hown hK hP 0 rfl rfl 0 (by decide) hk_12 (fun _ h9 => h9) rfl dX9_feed_13 ?_
    refine lv_iload_n hx hb dX9_feed_16 rfl (lv_at hl 1 rfl) ?_
    obtain ⟨q_17, hc_17, hf⟩ := op_bind hf
    refine g_callVv (As := [.int p1]) (rest := []) (w2 := (w9 cy h0 h1 r0_1 r0_2 r0_3 r0_4 r0_5 r0_6 s0) ++ (w6 cy h1 a1 q_17)) ⟨hx, hb, hml, hown, hts⟩ (c_X6_append l D cy h1 a1 s1 _ fu p1 _ hc_17) (cwV 1 hts (gi_V ml_RX9_62 im_X6_append se_X6_append in_RX6 cd_X6_append) rfl rfl rfl hdX6_append ⟨Nat.le_of_ble_eq_true rfl, Nat.le_of_ble_eq_true rfl⟩) (va_recv hK hP (ci := 6) (q0 := 1) rfl rfl) rfl hl.1 rfl (Nat.le_of_ble_eq_true rfl) dX9_feed_17 hK hP hD hS hA [1, 2] [0] [0, 1, 2] rfl rfl rfl rfl (by decide) rfl rfl (fun H locs hP hD hS => ?_)
    refine lv_aload_n hx hb dX9_feed_20 rfl (lv_at hl 0 rfl) ?_
    refine va_get (ci := 8) (v := .ref h1) (C := RX9) (T := TX9) (N := 7) hx hb hts (fun w h => List.mem_cons_of_mem _ (inX9 w h)) hown hK hP 0 rfl rfl 0 (by decide) hk_12 (fun _ h9 => h9) rfl dX9_feed_21 ?_
    refine lv_iload_n hx hb dX9_feed_24 rfl (lv_at hl 2 rfl) ?_
    obtain ⟨q_25, hc_25, hf⟩ := op_bind hf
    refine g_callVv (As := [.int p2]) (rest := []) (w2 := (w9 cy h0 h1 r0_1 r0_2 r0_3 r0_4 r0_5 r0_6 s0) ++ (w6 cy h1 a1 q_25)) ⟨hx, hb, hml, hown, hts⟩ (c_X6_append l D cy h1 a1 q_17 _ fu p2 _ hc_25) (cwV 1 hts (gi_V ml_RX9_62 im_X6_append se_X6_append in_RX6 cd_X6_append) rfl rfl rfl hdX6_append ⟨Nat.le_of_ble_eq_true rfl, Nat.le_of_ble_eq_true rfl⟩) (va_recv hK hP (ci := 6) (q0 := 1) rfl rfl) rfl hl.1 rfl (Nat.le_of_ble_eq_true rfl) dX9_feed_25 hK hP hD hS hA [1, 2] [0] [0, 1, 2] rfl rfl rfl rfl (by decide) rfl rfl (fun H locs hP hD hS => ?_)
    refine lv_aload_n hx hb dX9_feed_28 rfl (lv_at hl 0 rfl) ?_
    refine va_get (ci := 8) (v := .ref h1) (C := RX9) (T := TX9) (N := 7) hx hb hts (fun w h => List.mem_cons_of_mem _ (inX9 w h)) hown hK hP 0 rfl rfl 0 (by decide) hk_12 (fun _ h9 => h9) rfl dX9_feed_29 ?_
    refine lv_iload_n hx hb dX9_feed_32 rfl (lv_at hl 3 rfl) ?_
    obtain ⟨q_33, hc_33, hf⟩ := op_bind hf
    refine g_callVv (As := [.int p3]) (rest := []) (w2 := (w9 cy h0 h1 r0_1 r0_2 r0_3 r0_4 r0_5 r0_6 s0) ++ (w6 cy h1 a1 q_33)) ⟨hx, hb, hml, hown, hts⟩ (c_X6_append l D cy h1 a1 q_25 _ fu p3 _ hc_33) (cwV 1 hts (gi_V ml_RX9_62 im_X6_append se_X6_append in_RX6 cd_X6_append) rfl rfl rfl hdX6_append ⟨Nat.le_of_ble_eq_true rfl, Nat.le_of_ble_eq_true rfl⟩) (va_recv hK hP (ci := 6) (q0 := 1) rfl rfl) rfl hl.1 rfl (Nat.le_of_ble_eq_true rfl) dX9_feed_33 hK hP hD hS hA [1, 2] [0] [0, 1, 2] rfl rfl rfl rfl (by decide) rfl rfl (fun H locs hP hD hS => ?_)
    refine lv_aload_n hx hb dX9_feed_36 rfl (lv_at hl 0 rfl) ?_
    refine va_get (ci := 8) (v := .ref h1) (C := RX9) (T := TX9) (N := 7) hx hb hts (fun w h => List.mem_cons_of_mem _ (inX9 w h)) hown hK hP 0 rfl rfl 0 (by decide) hk_12 (fun _ h9 => h9) rfl dX9_feed_37 ?_
    refine lv_iload hx hb dX9_feed_40 (lv_at hl 4 rfl) ?_
    obtain ⟨q_42, hc_42, hf⟩ := op_bind hf
    refine g_callVv (As := [.int p4]) (rest := []) (w2 := (w9 cy h0 h1 r0_1 r0_2 r0_3 r0_4 r0_5 r0_6 s0) ++ (w6 cy h1 a1 q_42)) ⟨hx, hb, hml, hown, hts⟩ (c_X6_append l D cy h1 a1 q_33 _ fu p4 _ hc_42) (cwV 1 hts (gi_V ml_RX9_62 im_X6_append se_X6_append in_RX6 cd_X6_append) rfl rfl rfl hdX6_append ⟨Nat.le_of_ble_eq_true rfl, Nat.le_of_ble_eq_true rfl⟩) (va_recv hK hP (ci := 6) (q0 := 1) rfl rfl) rfl hl.1 rfl (Nat.le_of_ble_eq_true rfl) dX9_feed_42 hK hP hD hS hA [1, 2] [0] [0, 1, 2] rfl rfl rfl rfl (by decide) rfl rfl (fun H locs hP hD hS => ?_)
    refine lv_aload_n hx hb dX9_feed_45 rfl (lv_at hl 0 rfl) ?_
    refine va_get (ci := 8) (v := .ref h1) (C := RX9) (T := TX9) (N := 7) hx hb hts (fun w h => List.mem_cons_of_mem _ (inX9 w h)) hown hK hP 0 rfl rfl 0 (by decide) hk_12 (fun _ h9 => h9) rfl dX9_feed_46 ?_
    refine lv_iload hx hb dX9_feed_49 (lv_at hl 5 rfl) ?_
    obtain ⟨q_51, hc_51, hf⟩ := op_bind hf
    refine g_callVv (As := [.int p5]) (rest := []) (w2 := (w9 cy h0 h1 r0_1 r0_2 r0_3 r0_4 r0_5 r0_6 s0) ++ (w6 cy h1 a1 q_51)) ⟨hx, hb, hml, hown, hts⟩ (c_X6_append l D cy h1 a1 q_42 _ fu p5 _ hc_51) (cwV 1 hts (gi_V ml_RX9_62 im_X6_append se_X6_append in_RX6 cd_X6_append) rfl rfl rfl hdX6_append ⟨Nat.le_of_ble_eq_true rfl, Nat.le_of_ble_eq_true rfl⟩) (va_recv hK hP (ci := 6) (q0 := 1) rfl rfl) rfl hl.1 rfl (Nat.le_of_ble_eq_true rfl) dX9_feed_51 hK hP hD hS hA [1, 2] [0] [0, 1, 2] rfl rfl rfl rfl (by decide) rfl rfl (fun H locs hP hD hS => ?_)
    refine lv_aload_n hx hb dX9_feed_54 rfl (lv_at hl 0 rfl) ?_
    refine va_get (ci := 8) (v := .ref h1) (C := RX9) (T := TX9) (N := 7) hx hb hts (fun w h => List.mem_cons_of_mem _ (inX9 w h)) hown hK hP 0 rfl rfl 0 (by decide) hk_12 (fun _ h9 => h9) rfl dX9_feed_55 ?_
    refine va_get (ci := 6) (v := .int (q_51.1 1)) (C := RX6) (T := TX6) (N := 2) hx hb hts (fun w h => List.mem_cons_of_mem _ (inX6 w h)) hown hK hP 1 rfl rfl 1 (by decide) hk_66 (fun _ h9 => h9) rfl dX9_feed_58 ?_
    rw [← Option.some.inj hf]
    exact g_iret hx hb hr hlk hK hP hD hS dX9_feed_61
  · have hf := op_pos c_7 hf
    refine lv_iconst (v := (-1)) hx hb dX9_feed_10 (by decide) ?_
    rw [← Option.some.inj hf]
    exact g_iret hx hb hr hlk hK hP hD hS dX9_feed_11
def f_X9_takeDraft (fu : Nat) (s0 : St)   : Option (Unit) := some ()
theorem hdX9_takeDraft : yX9_takeDraft.cls = RX9 ∧ yX9_takeDraft.cls ≠ "java/lang/invoke/MethodHandle" ∧ yX9_takeDraft.cls ≠ "java/lang/invoke/VarHandle" ∧ (parseMethodDescriptor yX9_takeDraft.desc).map (fun d => d.parameters.length) = some 0 := by decide +kernel
set_option maxHeartbeats 4000000 in
set_option maxRecDepth 100000 in
theorem c_X9_takeDraft (l : Launch) (D : va_G) (cy : Nat → ClassId) (h0 : Nat) (r0_0 : Nat) (r0_1 : Nat) (r0_2 : Nat) (r0_3 : Nat) (r0_4 : Nat) (r0_5 : Nat) (r0_6 : Nat) (s0 : St) (sz fu : Nat)  (out : Unit) (hf : f_X9_takeDraft fu s0 = some out) :
    Met l yX9_takeDraft (WS yX9_takeDraft cX9_takeDraft 3 none) ({ frames := 0, cells := 0, slots := 0, locals := 0 } : Room) (va_Pc [.ref h0] (gP D cy sz (w9 cy h0 r0_0 r0_1 r0_2 r0_3 r0_4 r0_5 r0_6 s0))) ((fun A : Nat → Prop => gQv D cy A (w9 cy h0 r0_1 r0_0 r0_3 r0_2 r0_4 r0_5 r0_6 s0)) (va_A (w9 cy h0 r0_0 r0_1 r0_2 r0_3 r0_4 r0_5 r0_6 s0) sz)) 0 0 (va_A (w9 cy h0 r0_0 r0_1 r0_2 r0_3 r0_4 r0_5 r0_6 s0) sz) := by
  refine g_met (cc := cX9_takeDraft) (maxL := 3) (ret := none) (fun A : Nat → Prop => gQv D cy A (w9 cy h0 r0_1 r0_0 r0_3 r0_2 r0_4 r0_5 r0_6 s0)) (by decide +kernel) rfl (Nat.le_of_ble_eq_true rfl) ?_
  intro p e s m below meth c A C hA hK hP hD ls hl
  obtain ⟨hx, hb, hr, hml, hown, hts, hlk⟩ := id C
  have hown : s.vm.findClass RX9 = some m.cls := hown
  have hS : va_S A s.heap s.heap [] := va_S.rf
  have hl : lv_has ls 3 [(0, .ref h0)] := hl
  have hk_12 := hts _ (List.mem_cons_of_mem _ fl_RX9_12)
  have hk_16 := hts _ (List.mem_cons_of_mem _ fl_RX9_16)
  have hk_26 := hts _ (List.mem_cons_of_mem _ fl_RX9_26)
  have hk_22 := hts _ (List.mem_cons_of_mem _ fl_RX9_22)
  unfold f_X9_takeDraft at hf
  refine lv_aload_n hx hb dX9_takeDraft_0 rfl (lv_at hl 0 rfl) ?_
  refine va_get (ci := 8) (v := .ref r0_0) (C := RX9) (T := TX9) (N := 7) hx hb hts (fun w h => List.mem_cons_of_mem _ (inX9 w h)) hown hK hP 0 rfl rfl 0 (by decide) hk_12 (fun _ h9 => h9) rfl dX9_takeDraft_1 ?_
  refine lv_astore_n (lv' := [(1, .ref r0_0), (0, .ref h0)]) hx hb dX9_takeDraft_4 rfl hl (by decide) rfl (fun ls hl => ?_)
  refine lv_aload_n hx hb dX9_takeDraft_5 rfl (lv_at hl 1 rfl) ?_
  refine lv_aload_n hx hb dX9_takeDraft_6 rfl (lv_at hl 1 rfl) ?_
  refine va_get (ci := 8) (v := .ref r0_1) (C := RX9) (T := TX9) (N := 7) hx hb hts (fun w h => List.mem_cons_of_mem _ (inX9 w h)) hown hK hP 0 rfl rfl 1 (by decide) hk_16 (fun _ h9 => h9) rfl dX9_takeDraft_7 ?_
  refine va_put (ci := 8) (v := .ref r0_1) (ty := tyX9 0) (C := RX9) (T := TX9) (N := 7) hx hb hts (fun w h => List.mem_cons_of_mem _ (inX9 w h)) tyX9 tyX9_ok nmX9 hown hK hP hD hS 0 rfl rfl 0 (by decide) hk_12 (fun _ h9 => h9) rfl (tyX9_ok 0 (by decide)) rfl rfl (Nat.le_of_ble_eq_true rfl) dX9_takeDraft_10 (fun H locs hP hD hS => ?_)
  have hP : va_P D vwCl (w9 cy h0 r0_1 r0_1 r0_2 r0_3 r0_4 r0_5 r0_6 s0) H := hP
  have hD : va_D A (w9 cy h0 r0_1 r0_1 r0_2 r0_3 r0_4 r0_5 r0_6 s0) := hD
  refine lv_aload_n hx hb dX9_takeDraft_13 rfl (lv_at hl 1 rfl) ?_
  refine lv_aload_n hx hb dX9_takeDraft_14 rfl (lv_at hl 0 rfl) ?_
  refine va_put (ci := 8) (v := .ref r0_0) (ty := tyX9 1) (C := RX9) (T := TX9) (N := 7) hx hb hts (fun w h => List.mem_cons_of_mem _ (inX9 w h)) tyX9 tyX9_ok nmX9 hown hK hP hD hS 0 rfl rfl 1 (by decide) hk_16 (fun _ h9 => h9) rfl (tyX9_ok 1 (by decide)) rfl rfl (Nat.le_of_ble_eq_true rfl) dX9_takeDraft_15 (fun H locs hP hD hS => ?_)
  have hP : va_P D vwCl (w9 cy h0 r0_1 r0_0 r0_2 r0_3 r0_4 r0_5 r0_6 s0) H := hP
  have hD : va_D A (w9 cy h0 r0_1 r0_0 r0_2 r0_3 r0_4 r0_5 r0_6 s0) := hD
  refine lv_aload_n hx hb dX9_takeDraft_18 rfl (lv_at hl 1 rfl) ?_
  refine va_get (ci := 8) (v := .ref r0_3) (C := RX9) (T := TX9) (N := 7) hx hb hts (fun w h => List.mem_cons_of_mem _ (inX9 w h)) hown hK hP 0 rfl rfl 3 (by decide) hk_26 (fun _ h9 => h9) rfl dX9_takeDraft_19 ?_
  refine lv_astore_n (lv' := [(2, .ref r0_3), (1, .ref r0_0), (0, .ref h0)]) hx hb dX9_takeDraft_22 rfl hl (by decide) rfl (fun ls hl => ?_)
  refine lv_aload_n hx hb dX9_takeDraft_23 rfl (lv_at hl 2 rfl) ?_
  refine lv_aload_n hx hb dX9_takeDraft_24 rfl (lv_at hl 2 rfl) ?_
  refine va_get (ci := 8) (v := .ref r0_2) (C := RX9) (T := TX9) (N := 7) hx hb hts (fun w h => List.mem_cons_of_mem _ (inX9 w h)) hown hK hP 0 rfl rfl 2 (by decide) hk_22 (fun _ h9 => h9) rfl dX9_takeDraft_25 ?_
  refine va_put (ci := 8) (v := .ref r0_2) (ty := tyX9 3) (C := RX9) (T := TX9) (N := 7) hx hb hts (fun w h => List.mem_cons_of_mem _ (inX9 w h)) tyX9 tyX9_ok nmX9 hown hK hP hD hS 0 rfl rfl 3 (by decide) hk_26 (fun _ h9 => h9) rfl (tyX9_ok 3 (by decide)) rfl rfl (Nat.le_of_ble_eq_true rfl) dX9_takeDraft_28 (fun H locs hP hD hS => ?_)
  have hP : va_P D vwCl (w9 cy h0 r0_1 r0_0 r0_2 r0_2 r0_4 r0_5 r0_6 s0) H := hP
  have hD : va_D A (w9 cy h0 r0_1 r0_0 r0_2 r0_2 r0_4 r0_5 r0_6 s0) := hD
  refine lv_aload_n hx hb dX9_takeDraft_31 rfl (lv_at hl 2 rfl) ?_
  refine lv_aload_n hx hb dX9_takeDraft_32 rfl (lv_at hl 0 rfl) ?_
  refine va_put (ci := 8) (v := .ref r0_3) (ty := tyX9 2) (C := RX9) (T := TX9) (N := 7) hx hb hts (fun w h => List.mem_cons_of_mem _ (inX9 w h)) tyX9 tyX9_ok nmX9 hown hK hP hD hS 0 rfl rfl 2 (by decide) hk_22 (fun _ h9 => h9) rfl (tyX9_ok 2 (by decide)) rfl rfl (Nat.le_of_ble_eq_true rfl) dX9_takeDraft_33 (fun H locs hP hD hS => ?_)
  have hP : va_P D vwCl (w9 cy h0 r0_1 r0_0 r0_3 r0_2 r0_4 r0_5 r0_6 s0) H := hP
  have hD : va_D A (w9 cy h0 r0_1 r0_0 r0_3 r0_2 r0_4 r0_5 r0_6 s0) := hD
  exact g_vret hx hb hr hlk hK hP hD hS dX9_takeDraft_36
def f_X9_fault (fu : Nat) (s0 : St) (s1 : St)  (p1 : Int32) : Option (Int32) := if p1 = 0 then (some (s1.1 0)) else (if p1 = 1 then (some (s1.1 1)) else (some (-1)))
theorem hdX9_fault : yX9_fault.cls = RX9 ∧ yX9_fault.cls ≠ "java/lang/invoke/MethodHandle" ∧ yX9_fault.cls ≠ "java/lang/invoke/VarHandle" ∧ (parseMethodDescriptor yX9_fault.desc).map (fun d => d.parameters.length) = some 1 := by decide +kernel
set_option maxHeartbeats 4000000 in
set_option maxRecDepth 100000 in
theorem c_X9_fault (l : Launch) (D : va_G) (cy : Nat → ClassId) (h0 : Nat) (r0_0 : Nat) (r0_1 : Nat) (r0_2 : Nat) (r0_3 : Nat) (r0_5 : Nat) (r0_6 : Nat) (s0 : St) (h1 : Nat) (r1_2 : Nat) (r1_3 : Nat) (s1 : St) (sz fu : Nat) (p1 : Int32) (out : Int32) (hf : f_X9_fault fu s0 s1 p1 = some out) :
    Met l yX9_fault (WS yX9_fault cX9_fault 2 (some .int)) ({ frames := 0, cells := 0, slots := 0, locals := 0 } : Room) (va_Pc [.ref h0, .int p1] (gP D cy sz ((w9 cy h0 r0_0 r0_1 r0_2 r0_3 h1 r0_5 r0_6 s0) ++ (w3 cy h1 r1_2 r1_3 s1)))) ((fun A : Nat → Prop => gQi D cy A out ((w9 cy h0 r0_0 r0_1 r0_2 r0_3 h1 r0_5 r0_6 s0) ++ (w3 cy h1 r1_2 r1_3 s1))) (va_A ((w9 cy h0 r0_0 r0_1 r0_2 r0_3 h1 r0_5 r0_6 s0) ++ (w3 cy h1 r1_2 r1_3 s1)) sz)) 0 0 (va_A ((w9 cy h0 r0_0 r0_1 r0_2 r0_3 h1 r0_5 r0_6 s0) ++ (w3 cy h1 r1_2 r1_3 s1)) sz) := by
  refine g_met (cc := cX9_fault) (maxL := 2) (ret := (some .int)) (fun A : Nat → Prop => gQi D cy A out ((w9 cy h0 r0_0 r0_1 r0_2 r0_3 h1 r0_5 r0_6 s0) ++ (w3 cy h1 r1_2 r1_3 s1))) (by decide +kernel) rfl (Nat.le_of_ble_eq_true rfl) ?_
  intro p e s m below meth c A C hA hK hP hD ls hl
  obtain ⟨hx, hb, hr, hml, hown, hts, hlk⟩ := id C
  have hown : s.vm.findClass RX9 = some m.cls := hown
  have hS : va_S A s.heap s.heap [] := va_S.rf
  have hl : lv_has ls 2 [(0, .ref h0), (1, .int p1)] := hl
  have hk_38 := hts _ (List.mem_cons_of_mem _ fl_RX9_38)
  have hk_93 := hts _ (List.mem_cons_of_mem _ fl_RX9_93)
  have hk_96 := hts _ (List.mem_cons_of_mem _ fl_RX9_96)
  unfold f_X9_fault at hf
  refine lv_iload_n hx hb dX9_fault_0 rfl (lv_at hl 1 rfl) ?_
  by_cases c_1_0 : p1 = 0
  · have hf := op_pos c_1_0 hf
    refine lv_lookup (tgt := 28) (off := 27) hx hb dX9_fault_1 (by decide) (by rw [c_1_0]; decide) (by decide) ?_
    refine lv_aload_n hx hb dX9_fault_28 rfl (lv_at hl 0 rfl) ?_
    refine va_get (ci := 8) (v := .ref h1) (C := RX9) (T := TX9) (N := 7) hx hb hts (fun w h => List.mem_cons_of_mem _ (inX9 w h)) hown hK hP 0 rfl rfl 4 (by decide) hk_38 (fun _ h9 => h9) rfl dX9_fault_29 ?_
    refine va_get (ci := 3) (v := .int (s1.1 0)) (C := RX3) (T := TX3) (N := 6) hx hb hts (fun w h => List.mem_cons_of_mem _ (inX3 w h)) hown hK hP 1 rfl rfl 0 (by decide) hk_93 (fun _ h9 => h9) rfl dX9_fault_32 ?_
    rw [← Option.some.inj hf]
    exact g_iret hx hb hr hlk hK hP hD hS dX9_fault_35
  · have hf := op_neg c_1_0 hf
    by_cases c_1_1 : p1 = 1
    · have hf := op_pos c_1_1 hf
      refine lv_lookup (tgt := 36) (off := 35) hx hb dX9_fault_1 (by decide) (by rw [c_1_1]; decide) (by decide) ?_
      refine lv_aload_n hx hb dX9_fault_36 rfl (lv_at hl 0 rfl) ?_
      refine va_get (ci := 8) (v := .ref h1) (C := RX9) (T := TX9) (N := 7) hx hb hts (fun w h => List.mem_cons_of_mem _ (inX9 w h)) hown hK hP 0 rfl rfl 4 (by decide) hk_38 (fun _ h9 => h9) rfl dX9_fault_37 ?_
      refine va_get (ci := 3) (v := .int (s1.1 1)) (C := RX3) (T := TX3) (N := 6) hx hb hts (fun w h => List.mem_cons_of_mem _ (inX3 w h)) hown hK hP 1 rfl rfl 1 (by decide) hk_96 (fun _ h9 => h9) rfl dX9_fault_40 ?_
      rw [← Option.some.inj hf]
      exact g_iret hx hb hr hlk hK hP hD hS dX9_fault_43
    · have hf := op_neg c_1_1 hf
      refine lv_lookup (tgt := 44) (off := 43) hx hb dX9_fault_1 (by decide) (by rw [lv_osw c_1_0 (by decide), lv_osw c_1_1 (by decide)]; rfl) (by decide) ?_
      refine lv_iconst (v := (-1)) hx hb dX9_fault_44 (by decide) ?_
      rw [← Option.some.inj hf]
      exact g_iret hx hb hr hlk hK hP hD hS dX9_fault_45
def f_X9_cut (fu : Nat) (s0 : St) (s1 : St) (s2 : St) (p1 : Int32) (p2 : Int32) : Option (Int32 × St) := (f_X5_hasCut fu s1 p1).bind (fun q_5 => if q_5 = 0 then (some (0, s2)) else ((f_X2_switchCut fu s1 s2 p1 p2).bind (fun q_19 => some (1, q_19))))
theorem hdX9_cut : yX9_cut.cls = RX9 ∧ yX9_cut.cls ≠ "java/lang/invoke/MethodHandle" ∧ yX9_cut.cls ≠ "java/lang/invoke/VarHandle" ∧ (parseMethodDescriptor yX9_cut.desc).map (fun d => d.parameters.length) = some 2 := by decide +kernel
set_option maxHeartbeats 4000000 in
set_option maxRecDepth 100000 in
theorem c_X9_cut (l : Launch) (D : va_G) (cy : Nat → ClassId) (h0 : Nat) (r0_0 : Nat) (r0_1 : Nat) (r0_3 : Nat) (r0_4 : Nat) (r0_5 : Nat) (s0 : St) (h1 : Nat) (a1 : Nat → Nat) (s1 : St) (h2 : Nat) (a2 : Nat → Nat) (s2 : St) (sz fu : Nat) (p1 : Int32) (p2 : Int32) (out : Int32 × St) (hf : f_X9_cut fu s0 s1 s2 p1 p2 = some out) :
    Met l yX9_cut (WS yX9_cut cX9_cut 3 (some .boolean)) ({ frames := 4, cells := 0, slots := 0, locals := 89 } : Room) (va_Pc [.ref h0, .int p1, .int p2] (gP D cy sz ((w9 cy h0 r0_0 r0_1 h1 r0_3 r0_4 r0_5 h2 s0) ++ (w5 cy h1 a1 s1) ++ (w2 cy h2 h1 a2 s2)))) ((fun A : Nat → Prop => gQi D cy A out.1 ((w9 cy h0 r0_0 r0_1 h1 r0_3 r0_4 r0_5 h2 s0) ++ (w5 cy h1 a1 s1) ++ (w2 cy h2 h1 a2 out.2))) (va_A ((w9 cy h0 r0_0 r0_1 h1 r0_3 r0_4 r0_5 h2 s0) ++ (w5 cy h1 a1 s1) ++ (w2 cy h2 h1 a2 s2)) sz)) 0 0 (va_A ((w9 cy h0 r0_0 r0_1 h1 r0_3 r0_4 r0_5 h2 s0) ++ (w5 cy h1 a1 s1) ++ (w2 cy h2 h1 a2 s2)) sz) := by
  refine g_met (cc := cX9_cut) (maxL := 3) (ret := (some .boolean)) (fun A : Nat → Prop => gQi D cy A out.1 ((w9 cy h0 r0_0 r0_1 h1 r0_3 r0_4 r0_5 h2 s0) ++ (w5 cy h1 a1 s1) ++ (w2 cy h2 h1 a2 out.2))) (by decide +kernel) rfl (Nat.le_of_ble_eq_true rfl) ?_
  intro p e s m below meth c A C hA hK hP hD ls hl
  obtain ⟨hx, hb, hr, hml, hown, hts, hlk⟩ := id C
  have hown : s.vm.findClass RX9 = some m.cls := hown
  have hS : va_S A s.heap s.heap [] := va_S.rf
  have hl : lv_has ls 3 [(0, .ref h0), (1, .int p1), (2, .int p2)] := hl
  have hk_22 := hts _ (List.mem_cons_of_mem _ fl_RX9_22)
  have hk_54 := hts _ (List.mem_cons_of_mem _ fl_RX9_54)
  unfold f_X9_cut at hf
  refine lv_aload_n hx hb dX9_cut_0 rfl (lv_at hl 0 rfl) ?_
  refine va_get (ci := 8) (v := .ref h1) (C := RX9) (T := TX9) (N := 7) hx hb hts (fun w h => List.mem_cons_of_mem _ (inX9 w h)) hown hK hP 0 rfl rfl 2 (by decide) hk_22 (fun _ h9 => h9) rfl dX9_cut_1 ?_
  refine lv_iload_n hx hb dX9_cut_4 rfl (lv_at hl 1 rfl) ?_
  obtain ⟨q_5, hc_5, hf⟩ := op_bind hf
  refine g_callVi (As := [.int p1]) (rest := []) (w2 := (w9 cy h0 r0_0 r0_1 h1 r0_3 r0_4 r0_5 h2 s0) ++ (w5 cy h1 a1 s1) ++ (w2 cy h2 h1 a2 s2)) ⟨hx, hb, hml, hown, hts⟩ (c_X5_hasCut l D cy h1 a1 s1 _ fu p1 _ hc_5) (cwV 1 hts (gi_V ml_RX9_102 im_X5_hasCut se_X5_hasCut in_RX5 cd_X5_hasCut) rfl rfl rfl hdX5_hasCut ⟨Nat.le_of_ble_eq_true rfl, Nat.le_of_ble_eq_true rfl⟩) (va_recv hK hP (ci := 5) (q0 := 1) rfl rfl) rfl hl.1 rfl (Nat.le_of_ble_eq_true rfl) dX9_cut_5 hK hP hD hS hA [1, 2, 3, 4, 5, 6, 7, 8, 9] [0, 10, 11] [0, 3, 4, 5, 6, 7, 8, 9, 10, 11, 1, 2] rfl rfl rfl rfl (by decide) rfl rfl (fun H locs hP hD hS => ?_)
  refine lv_if_ne (tgt := 13) hx hb dX9_cut_8 (by decide) (fun c_8 => ?_) (fun c_8 => ?_)
  · have hf := op_neg c_8 hf
    refine lv_aload_n hx hb dX9_cut_13 rfl (lv_at hl 0 rfl) ?_
    refine va_get (ci := 8) (v := .ref h2) (C := RX9) (T := TX9) (N := 7) hx hb hts (fun w h => List.mem_cons_of_mem _ (inX9 w h)) hown hK hP 0 rfl rfl 6 (by decide) hk_54 (fun _ h9 => h9) rfl dX9_cut_14 ?_
    refine lv_iload_n hx hb dX9_cut_17 rfl (lv_at hl 1 rfl) ?_
    refine lv_iload_n hx hb dX9_cut_18 rfl (lv_at hl 2 rfl) ?_
    obtain ⟨q_19, hc_19, hf⟩ := op_bind hf
    refine g_callVv (As := [.int p1, .int p2]) (rest := []) (w2 := (w9 cy h0 r0_0 r0_1 h1 r0_3 r0_4 r0_5 h2 s0) ++ (w5 cy h1 a1 s1) ++ (w2 cy h2 h1 a2 q_19)) ⟨hx, hb, hml, hown, hts⟩ (c_X2_switchCut l D cy h2 a2 s2 h1 a1 s1 _ fu p1 p2 _ hc_19) (cwV 2 hts (gi_V ml_RX9_105 im_X2_switchCut se_X2_switchCut in_RX2 cd_X2_switchCut) rfl rfl rfl hdX2_switchCut ⟨Nat.le_of_ble_eq_true rfl, Nat.le_of_ble_eq_true rfl⟩) (va_recv hK hP (ci := 2) (q0 := 10) rfl rfl) rfl hl.1 rfl (Nat.le_of_ble_eq_true rfl) dX9_cut_19 hK hP hD hS hA [10, 11, 1, 2, 3, 4, 5, 6, 7, 8, 9] [0] [0, 3, 4, 5, 6, 7, 8, 9, 10, 11, 1, 2] rfl rfl rfl rfl (by decide) rfl rfl (fun H locs hP hD hS => ?_)
    refine lv_iconst (v := 1) hx hb dX9_cut_22 (by decide) ?_
    rw [← Option.some.inj hf]
    exact g_zret hx hb hr hlk (show isB 1 = true by decide) hK hP hD hS dX9_cut_23
  · have hf := op_pos c_8 hf
    refine lv_iconst (v := 0) hx hb dX9_cut_11 (by decide) ?_
    rw [← Option.some.inj hf]
    exact g_zret hx hb hr hlk (show isB 0 = true by decide) hK hP hD hS dX9_cut_12
def f_X9_heard (fu : Nat) (s0 : St) (s2 : St) (s1 : St) (p1 : Int32) : Option (Int32 × St) := if p1 < 1 then (some ((-1), s1)) else (if 999 < p1 then (some ((-1), s1)) else (if (s1.1 1) = 0 then (some ((-1), s1)) else ((f_X2_hear fu s2 s1 p1).bind (fun q_29 => some (q_29.1 0, q_29)))))
theorem hdX9_heard : yX9_heard.cls = RX9 ∧ yX9_heard.cls ≠ "java/lang/invoke/MethodHandle" ∧ yX9_heard.cls ≠ "java/lang/invoke/VarHandle" ∧ (parseMethodDescriptor yX9_heard.desc).map (fun d => d.parameters.length) = some 1 := by decide +kernel
set_option maxHeartbeats 4000000 in
set_option maxRecDepth 100000 in
theorem c_X9_heard (l : Launch) (D : va_G) (cy : Nat → ClassId) (h0 : Nat) (r0_0 : Nat) (r0_1 : Nat) (r0_2 : Nat) (r0_3 : Nat) (r0_4 : Nat) (r0_5 : Nat) (s0 : St) (h1 : Nat) (a1 : Nat → Nat) (s1 : St) (h2 : Nat) (a2 : Nat → Nat) (s2 : St) (sz fu : Nat) (p1 : Int32) (out : Int32 × St) (hf : f_X9_heard fu s0 s2 s1 p1 = some out) :
    Met l yX9_heard (WS yX9_heard cX9_heard 2 (some .int)) ({ frames := 5, cells := 0, slots := 0, locals := 109 } : Room) (va_Pc [.ref h0, .int p1] (gP D cy sz ((w9 cy h0 r0_0 r0_1 r0_2 r0_3 r0_4 r0_5 h1 s0) ++ (w2 cy h1 h2 a1 s1) ++ (w5 cy h2 a2 s2)))) ((fun A : Nat → Prop => gQi D cy A out.1 ((w9 cy h0 r0_0 r0_1 r0_2 r0_3 r0_4 r0_5 h1 s0) ++ (w2 cy h1 h2 a1 out.2) ++ (w5 cy h2 a2 s2))) (va_A ((w9 cy h0 r0_0 r0_1 r0_2 r0_3 r0_4 r0_5 h1 s0) ++ (w2 cy h1 h2 a1 s1) ++ (w5 cy h2 a2 s2)) sz)) 0 0 (va_A ((w9 cy h0 r0_0 r0_1 r0_2 r0_3 r0_4 r0_5 h1 s0) ++ (w2 cy h1 h2 a1 s1) ++ (w5 cy h2 a2 s2)) sz) := by
  refine g_met (cc := cX9_heard) (maxL := 2) (ret := (some .int)) (fun A : Nat → Prop => gQi D cy A out.1 ((w9 cy h0 r0_0 r0_1 r0_2 r0_3 r0_4 r0_5 h1 s0) ++ (w2 cy h1 h2 a1 out.2) ++ (w5 cy h2 a2 s2))) (by decide +kernel) rfl (Nat.le_of_ble_eq_true rfl) ?_
  intro p e s m below meth c A C hA hK hP hD ls hl
  obtain ⟨hx, hb, hr, hml, hown, hts, hlk⟩ := id C
  have hown : s.vm.findClass RX9 = some m.cls := hown
  have hS : va_S A s.heap s.heap [] := va_S.rf
  have hl : lv_has ls 2 [(0, .ref h0), (1, .int p1)] := hl
  have hk_54 := hts _ (List.mem_cons_of_mem _ fl_RX9_54)
  have hk_143 := hts _ (List.mem_cons_of_mem _ fl_RX9_143)
  have hk_150 := hts _ (List.mem_cons_of_mem _ fl_RX9_150)
  unfold f_X9_heard at hf
  refine lv_iload_n hx hb dX9_heard_0 rfl (lv_at hl 1 rfl) ?_
  refine lv_iconst (v := 1) hx hb dX9_heard_1 (by decide) ?_
  refine lv_icmp_lt (tgt := 22) hx hb dX9_heard_2 (by decide) (fun c_2 => ?_) (fun c_2 => ?_)
  · have hf := op_pos c_2 hf
    refine lv_iconst (v := (-1)) hx hb dX9_heard_22 (by decide) ?_
    rw [← Option.some.inj hf]
    exact g_iret hx hb hr hlk hK hP hD hS dX9_heard_23
  · have hf := op_neg c_2 hf
    refine lv_iload_n hx hb dX9_heard_5 rfl (lv_at hl 1 rfl) ?_
    refine lv_sipush (v := 999) hx hb dX9_heard_6 (by decide) ?_
    refine lv_icmp_gt (tgt := 22) hx hb dX9_heard_9 (by decide) (fun c_9 => ?_) (fun c_9 => ?_)
    · have hf := op_pos c_9 hf
      refine lv_iconst (v := (-1)) hx hb dX9_heard_22 (by decide) ?_
      rw [← Option.some.inj hf]
      exact g_iret hx hb hr hlk hK hP hD hS dX9_heard_23
    · have hf := op_neg c_9 hf
      refine lv_aload_n hx hb dX9_heard_12 rfl (lv_at hl 0 rfl) ?_
      refine va_get (ci := 8) (v := .ref h1) (C := RX9) (T := TX9) (N := 7) hx hb hts (fun w h => List.mem_cons_of_mem _ (inX9 w h)) hown hK hP 0 rfl rfl 6 (by decide) hk_54 (fun _ h9 => h9) rfl dX9_heard_13 ?_
      refine va_get (ci := 2) (v := .int (s1.1 1)) (C := RX2) (T := TX2) (N := 6) hx hb hts (fun w h => List.mem_cons_of_mem _ (inX2 w h)) hown hK hP 1 rfl rfl 1 (by decide) hk_143 (fun _ h9 => h9) rfl dX9_heard_16 ?_
      refine lv_if_ne (tgt := 24) hx hb dX9_heard_19 (by decide) (fun c_19 => ?_) (fun c_19 => ?_)
      · have hf := op_neg c_19 hf
        refine lv_aload_n hx hb dX9_heard_24 rfl (lv_at hl 0 rfl) ?_
        refine va_get (ci := 8) (v := .ref h1) (C := RX9) (T := TX9) (N := 7) hx hb hts (fun w h => List.mem_cons_of_mem _ (inX9 w h)) hown hK hP 0 rfl rfl 6 (by decide) hk_54 (fun _ h9 => h9) rfl dX9_heard_25 ?_
        refine lv_iload_n hx hb dX9_heard_28 rfl (lv_at hl 1 rfl) ?_
        obtain ⟨q_29, hc_29, hf⟩ := op_bind hf
        refine g_callVv (As := [.int p1]) (rest := []) (w2 := (w9 cy h0 r0_0 r0_1 r0_2 r0_3 r0_4 r0_5 h1 s0) ++ (w2 cy h1 h2 a1 q_29) ++ (w5 cy h2 a2 s2)) ⟨hx, hb, hml, hown, hts⟩ (c_X2_hear l D cy h1 a1 s1 h2 a2 s2 _ fu p1 _ hc_29) (cwV 1 hts (gi_V ml_RX9_147 im_X2_hear se_X2_hear in_RX2 cd_X2_hear) rfl rfl rfl hdX2_hear ⟨Nat.le_of_ble_eq_true rfl, Nat.le_of_ble_eq_true rfl⟩) (va_recv hK hP (ci := 2) (q0 := 1) rfl rfl) rfl hl.1 rfl (Nat.le_of_ble_eq_true rfl) dX9_heard_29 hK hP hD hS hA [1, 2, 3, 4, 5, 6, 7, 8, 9, 10, 11] [0] [0, 1, 2, 3, 4, 5, 6, 7, 8, 9, 10, 11] rfl rfl rfl rfl (by decide) rfl rfl (fun H locs hP hD hS => ?_)
        refine lv_aload_n hx hb dX9_heard_32 rfl (lv_at hl 0 rfl) ?_
        refine va_get (ci := 8) (v := .ref h1) (C := RX9) (T := TX9) (N := 7) hx hb hts (fun w h => List.mem_cons_of_mem _ (inX9 w h)) hown hK hP 0 rfl rfl 6 (by decide) hk_54 (fun _ h9 => h9) rfl dX9_heard_33 ?_
        refine va_get (ci := 2) (v := .int (q_29.1 0)) (C := RX2) (T := TX2) (N := 6) hx hb hts (fun w h => List.mem_cons_of_mem _ (inX2 w h)) hown hK hP 1 rfl rfl 0 (by decide) hk_150 (fun _ h9 => h9) rfl dX9_heard_36 ?_
        rw [← Option.some.inj hf]
        exact g_iret hx hb hr hlk hK hP hD hS dX9_heard_39
      · have hf := op_pos c_19 hf
        refine lv_iconst (v := (-1)) hx hb dX9_heard_22 (by decide) ?_
        rw [← Option.some.inj hf]
        exact g_iret hx hb hr hlk hK hP hD hS dX9_heard_23
def f_X9_hand (fu : Nat) (s0 : St) (s2 : St) (s1 : St) (p1 : Int32) (p2 : Int32) : Option (Int32 × St) := if p1 < 0 then (some ((-1), s1)) else (if p1 ≤ 999 then ((f_X2_lead fu s2 s1 p1 p2).bind (fun q_19 => some (q_19.1 0, q_19))) else (some ((-1), s1)))
theorem hdX9_hand : yX9_hand.cls = RX9 ∧ yX9_hand.cls ≠ "java/lang/invoke/MethodHandle" ∧ yX9_hand.cls ≠ "java/lang/invoke/VarHandle" ∧ (parseMethodDescriptor yX9_hand.desc).map (fun d => d.parameters.length) = some 2 := by decide +kernel
set_option maxHeartbeats 4000000 in
set_option maxRecDepth 100000 in
theorem c_X9_hand (l : Launch) (D : va_G) (cy : Nat → ClassId) (h0 : Nat) (r0_0 : Nat) (r0_1 : Nat) (r0_2 : Nat) (r0_3 : Nat) (r0_4 : Nat) (r0_5 : Nat) (s0 : St) (h1 : Nat) (a1 : Nat → Nat) (s1 : St) (h2 : Nat) (a2 : Nat → Nat) (s2 : St) (sz fu : Nat) (p1 : Int32) (p2 : Int32) (out : Int32 × St) (hf : f_X9_hand fu s0 s2 s1 p1 p2 = some out) :
    Met l yX9_hand (WS yX9_hand cX9_hand 3 (some .int)) ({ frames := 5, cells := 0, slots := 0, locals := 110 } : Room) (va_Pc [.ref h0, .int p1, .int p2] (gP D cy sz ((w9 cy h0 r0_0 r0_1 r0_2 r0_3 r0_4 r0_5 h1 s0) ++ (w2 cy h1 h2 a1 s1) ++ (w5 cy h2 a2 s2)))) ((fun A : Nat → Prop => gQi D cy A out.1 ((w9 cy h0 r0_0 r0_1 r0_2 r0_3 r0_4 r0_5 h1 s0) ++ (w2 cy h1 h2 a1 out.2) ++ (w5 cy h2 a2 s2))) (va_A ((w9 cy h0 r0_0 r0_1 r0_2 r0_3 r0_4 r0_5 h1 s0) ++ (w2 cy h1 h2 a1 s1) ++ (w5 cy h2 a2 s2)) sz)) 0 0 (va_A ((w9 cy h0 r0_0 r0_1 r0_2 r0_3 r0_4 r0_5 h1 s0) ++ (w2 cy h1 h2 a1 s1) ++ (w5 cy h2 a2 s2)) sz) := by
  refine g_met (cc := cX9_hand) (maxL := 3) (ret := (some .int)) (fun A : Nat → Prop => gQi D cy A out.1 ((w9 cy h0 r0_0 r0_1 r0_2 r0_3 r0_4 r0_5 h1 s0) ++ (w2 cy h1 h2 a1 out.2) ++ (w5 cy h2 a2 s2))) (by decide +kernel) rfl (Nat.le_of_ble_eq_true rfl) ?_
  intro p e s m below meth c A C hA hK hP hD ls hl
  obtain ⟨hx, hb, hr, hml, hown, hts, hlk⟩ := id C
  have hown : s.vm.findClass RX9 = some m.cls := hown
  have hS : va_S A s.heap s.heap [] := va_S.rf
  have hl : lv_has ls 3 [(0, .ref h0), (1, .int p1), (2, .int p2)] := hl
  have hk_54 := hts _ (List.mem_cons_of_mem _ fl_RX9_54)
  have hk_150 := hts _ (List.mem_cons_of_mem _ fl_RX9_150)
  unfold f_X9_hand at hf
  refine lv_iload_n hx hb dX9_hand_0 rfl (lv_at hl 1 rfl) ?_
  refine lv_if_lt (tgt := 11) hx hb dX9_hand_1 (by decide) (fun c_1 => ?_) (fun c_1 => ?_)
  · have hf := op_pos c_1 hf
    refine lv_iconst (v := (-1)) hx hb dX9_hand_11 (by decide) ?_
    rw [← Option.some.inj hf]
    exact g_iret hx hb hr hlk hK hP hD hS dX9_hand_12
  · have hf := op_neg c_1 hf
    refine lv_iload_n hx hb dX9_hand_4 rfl (lv_at hl 1 rfl) ?_
    refine lv_sipush (v := 999) hx hb dX9_hand_5 (by decide) ?_
    refine lv_icmp_le (tgt := 13) hx hb dX9_hand_8 (by decide) (fun c_8 => ?_) (fun c_8 => ?_)
    · have hf := op_pos c_8 hf
      refine lv_aload_n hx hb dX9_hand_13 rfl (lv_at hl 0 rfl) ?_
      refine va_get (ci := 8) (v := .ref h1) (C := RX9) (T := TX9) (N := 7) hx hb hts (fun w h => List.mem_cons_of_mem _ (inX9 w h)) hown hK hP 0 rfl rfl 6 (by decide) hk_54 (fun _ h9 => h9) rfl dX9_hand_14 ?_
      refine lv_iload_n hx hb dX9_hand_17 rfl (lv_at hl 1 rfl) ?_
      refine lv_iload_n hx hb dX9_hand_18 rfl (lv_at hl 2 rfl) ?_
      obtain ⟨q_19, hc_19, hf⟩ := op_bind hf
      refine g_callVv (As := [.int p1, .int p2]) (rest := []) (w2 := (w9 cy h0 r0_0 r0_1 r0_2 r0_3 r0_4 r0_5 h1 s0) ++ (w2 cy h1 h2 a1 q_19) ++ (w5 cy h2 a2 s2)) ⟨hx, hb, hml, hown, hts⟩ (c_X2_lead l D cy h1 a1 s1 h2 a2 s2 _ fu p1 p2 _ hc_19) (cwV 2 hts (gi_V ml_RX9_153 im_X2_lead se_X2_lead in_RX2 cd_X2_lead) rfl rfl rfl hdX2_lead ⟨Nat.le_of_ble_eq_true rfl, Nat.le_of_ble_eq_true rfl⟩) (va_recv hK hP (ci := 2) (q0 := 1) rfl rfl) rfl hl.1 rfl (Nat.le_of_ble_eq_true rfl) dX9_hand_19 hK hP hD hS hA [1, 2, 3, 4, 5, 6, 7, 8, 9, 10, 11] [0] [0, 1, 2, 3, 4, 5, 6, 7, 8, 9, 10, 11] rfl rfl rfl rfl (by decide) rfl rfl (fun H locs hP hD hS => ?_)
      refine lv_aload_n hx hb dX9_hand_22 rfl (lv_at hl 0 rfl) ?_
      refine va_get (ci := 8) (v := .ref h1) (C := RX9) (T := TX9) (N := 7) hx hb hts (fun w h => List.mem_cons_of_mem _ (inX9 w h)) hown hK hP 0 rfl rfl 6 (by decide) hk_54 (fun _ h9 => h9) rfl dX9_hand_23 ?_
      refine va_get (ci := 2) (v := .int (q_19.1 0)) (C := RX2) (T := TX2) (N := 6) hx hb hts (fun w h => List.mem_cons_of_mem _ (inX2 w h)) hown hK hP 1 rfl rfl 0 (by decide) hk_150 (fun _ h9 => h9) rfl dX9_hand_26 ?_
      rw [← Option.some.inj hf]
      exact g_iret hx hb hr hlk hK hP hD hS dX9_hand_29
    · have hf := op_neg c_8 hf
      refine lv_iconst (v := (-1)) hx hb dX9_hand_11 (by decide) ?_
      rw [← Option.some.inj hf]
      exact g_iret hx hb hr hlk hK hP hD hS dX9_hand_12
def f_X9_count (fu : Nat) (s0 : St) (s1 : St) (s2 : St)  (p1 : Int32) : Option (Int32) := if p1 = 0 then (some (s1.1 0)) else (if p1 = 1 then (some (s1.1 1)) else (if p1 = 2 then (some (s1.1 2)) else (if p1 = 3 then (some (s2.1 0)) else (if p1 = 4 then (if (s2.1 1) = 0 then (some 0) else (some 1)) else (if p1 = 5 then (some (s2.1 2)) else (if p1 = 6 then ((f_X5_widthOf fu s1 0).bind (fun q_113 => some q_113)) else (if p1 = 7 then ((f_X5_speedOf fu s1 0).bind (fun q_122 => some q_122)) else (if p1 = 8 then ((f_X5_beatsOfBar fu s1).bind (fun q_130 => some q_130)) else (some (-1))))))))))
theorem hdX9_count : yX9_count.cls = RX9 ∧ yX9_count.cls ≠ "java/lang/invoke/MethodHandle" ∧ yX9_count.cls ≠ "java/lang/invoke/VarHandle" ∧ (parseMethodDescriptor yX9_count.desc).map (fun d => d.parameters.length) = some 1 := by decide +kernel
set_option maxHeartbeats 4000000 in
set_option maxRecDepth 100000 in
theorem c_X9_count (l : Launch) (D : va_G) (cy : Nat → ClassId) (h0 : Nat) (r0_0 : Nat) (r0_1 : Nat) (r0_3 : Nat) (r0_4 : Nat) (r0_5 : Nat) (s0 : St) (h1 : Nat) (a1 : Nat → Nat) (s1 : St) (h2 : Nat) (a2 : Nat → Nat) (s2 : St) (sz fu : Nat) (p1 : Int32) (out : Int32) (hf : f_X9_count fu s0 s1 s2 p1 = some out) :
    Met l yX9_count (WS yX9_count cX9_count 2 (some .int)) ({ frames := 3, cells := 0, slots := 0, locals := 64 } : Room) (va_Pc [.ref h0, .int p1] (gP D cy sz ((w9 cy h0 r0_0 r0_1 h1 r0_3 r0_4 r0_5 h2 s0) ++ (w5 cy h1 a1 s1) ++ (w2 cy h2 h1 a2 s2)))) ((fun A : Nat → Prop => gQi D cy A out ((w9 cy h0 r0_0 r0_1 h1 r0_3 r0_4 r0_5 h2 s0) ++ (w5 cy h1 a1 s1) ++ (w2 cy h2 h1 a2 s2))) (va_A ((w9 cy h0 r0_0 r0_1 h1 r0_3 r0_4 r0_5 h2 s0) ++ (w5 cy h1 a1 s1) ++ (w2 cy h2 h1 a2 s2)) sz)) 0 0 (va_A ((w9 cy h0 r0_0 r0_1 h1 r0_3 r0_4 r0_5 h2 s0) ++ (w5 cy h1 a1 s1) ++ (w2 cy h2 h1 a2 s2)) sz) := by
  refine g_met (cc := cX9_count) (maxL := 2) (ret := (some .int)) (fun A : Nat → Prop => gQi D cy A out ((w9 cy h0 r0_0 r0_1 h1 r0_3 r0_4 r0_5 h2 s0) ++ (w5 cy h1 a1 s1) ++ (w2 cy h2 h1 a2 s2))) (by decide +kernel) rfl (Nat.le_of_ble_eq_true rfl) ?_
  intro p e s m below meth c A C hA hK hP hD ls hl
  obtain ⟨hx, hb, hr, hml, hown, hts, hlk⟩ := id C
  have hown : s.vm.findClass RX9 = some m.cls := hown
  have hS : va_S A s.heap s.heap [] := va_S.rf
  have hl : lv_has ls 2 [(0, .ref h0), (1, .int p1)] := hl
  have hk_22 := hts _ (List.mem_cons_of_mem _ fl_RX9_22)
  have hk_214 := hts _ (List.mem_cons_of_mem _ fl_RX9_214)
  have hk_90 := hts _ (List.mem_cons_of_mem _ fl_RX9_90)
  have hk_217 := hts _ (List.mem_cons_of_mem _ fl_RX9_217)
  have hk_54 := hts _ (List.mem_cons_of_mem _ fl_RX9_54)
  have hk_150 := hts _ (List.mem_cons_of_mem _ fl_RX9_150)
  have hk_143 := hts _ (List.mem_cons_of_mem _ fl_RX9_143)
  have hk_220 := hts _ (List.mem_cons_of_mem _ fl_RX9_220)
  unfold f_X9_count at hf
  refine lv_iload_n hx hb dX9_count_0 rfl (lv_at hl 1 rfl) ?_
  by_cases c_1_0 : p1 = 0
  · have hf := op_pos c_1_0 hf
    refine lv_tableIn (tgt := 52) (off := 51) hx hb dX9_count_1 (by rw [c_1_0]; decide) (by rw [c_1_0]; decide) (by rw [c_1_0]; decide) (by decide) ?_
    refine lv_aload_n hx hb dX9_count_52 rfl (lv_at hl 0 rfl) ?_
    refine va_get (ci := 8) (v := .ref h1) (C := RX9) (T := TX9) (N := 7) hx hb hts (fun w h => List.mem_cons_of_mem _ (inX9 w h)) hown hK hP 0 rfl rfl 2 (by decide) hk_22 (fun _ h9 => h9) rfl dX9_count_53 ?_
    refine va_get (ci := 5) (v := .int (s1.1 0)) (C := RX5) (T := TX5) (N := 13) hx hb hts (fun w h => List.mem_cons_of_mem _ (inX5 w h)) hown hK hP 1 rfl rfl 0 (by decide) hk_214 (fun _ h9 => h9) rfl dX9_count_56 ?_
    rw [← Option.some.inj hf]
    exact g_iret hx hb hr hlk hK hP hD hS dX9_count_59
  · have hf := op_neg c_1_0 hf
    by_cases c_1_1 : p1 = 1
    · have hf := op_pos c_1_1 hf
      refine lv_tableIn (tgt := 60) (off := 59) hx hb dX9_count_1 (by rw [c_1_1]; decide) (by rw [c_1_1]; decide) (by rw [c_1_1]; decide) (by decide) ?_
      refine lv_aload_n hx hb dX9_count_60 rfl (lv_at hl 0 rfl) ?_
      refine va_get (ci := 8) (v := .ref h1) (C := RX9) (T := TX9) (N := 7) hx hb hts (fun w h => List.mem_cons_of_mem _ (inX9 w h)) hown hK hP 0 rfl rfl 2 (by decide) hk_22 (fun _ h9 => h9) rfl dX9_count_61 ?_
      refine va_get (ci := 5) (v := .int (s1.1 1)) (C := RX5) (T := TX5) (N := 13) hx hb hts (fun w h => List.mem_cons_of_mem _ (inX5 w h)) hown hK hP 1 rfl rfl 1 (by decide) hk_90 (fun _ h9 => h9) rfl dX9_count_64 ?_
      rw [← Option.some.inj hf]
      exact g_iret hx hb hr hlk hK hP hD hS dX9_count_67
    · have hf := op_neg c_1_1 hf
      by_cases c_1_2 : p1 = 2
      · have hf := op_pos c_1_2 hf
        refine lv_tableIn (tgt := 68) (off := 67) hx hb dX9_count_1 (by rw [c_1_2]; decide) (by rw [c_1_2]; decide) (by rw [c_1_2]; decide) (by decide) ?_
        refine lv_aload_n hx hb dX9_count_68 rfl (lv_at hl 0 rfl) ?_
        refine va_get (ci := 8) (v := .ref h1) (C := RX9) (T := TX9) (N := 7) hx hb hts (fun w h => List.mem_cons_of_mem _ (inX9 w h)) hown hK hP 0 rfl rfl 2 (by decide) hk_22 (fun _ h9 => h9) rfl dX9_count_69 ?_
        refine va_get (ci := 5) (v := .int (s1.1 2)) (C := RX5) (T := TX5) (N := 13) hx hb hts (fun w h => List.mem_cons_of_mem _ (inX5 w h)) hown hK hP 1 rfl rfl 2 (by decide) hk_217 (fun _ h9 => h9) rfl dX9_count_72 ?_
        rw [← Option.some.inj hf]
        exact g_iret hx hb hr hlk hK hP hD hS dX9_count_75
      · have hf := op_neg c_1_2 hf
        by_cases c_1_3 : p1 = 3
        · have hf := op_pos c_1_3 hf
          refine lv_tableIn (tgt := 76) (off := 75) hx hb dX9_count_1 (by rw [c_1_3]; decide) (by rw [c_1_3]; decide) (by rw [c_1_3]; decide) (by decide) ?_
          refine lv_aload_n hx hb dX9_count_76 rfl (lv_at hl 0 rfl) ?_
          refine va_get (ci := 8) (v := .ref h2) (C := RX9) (T := TX9) (N := 7) hx hb hts (fun w h => List.mem_cons_of_mem _ (inX9 w h)) hown hK hP 0 rfl rfl 6 (by decide) hk_54 (fun _ h9 => h9) rfl dX9_count_77 ?_
          refine va_get (ci := 2) (v := .int (s2.1 0)) (C := RX2) (T := TX2) (N := 6) hx hb hts (fun w h => List.mem_cons_of_mem _ (inX2 w h)) hown hK hP 10 rfl rfl 0 (by decide) hk_150 (fun _ h9 => h9) rfl dX9_count_80 ?_
          rw [← Option.some.inj hf]
          exact g_iret hx hb hr hlk hK hP hD hS dX9_count_83
        · have hf := op_neg c_1_3 hf
          by_cases c_1_4 : p1 = 4
          · have hf := op_pos c_1_4 hf
            refine lv_tableIn (tgt := 84) (off := 83) hx hb dX9_count_1 (by rw [c_1_4]; decide) (by rw [c_1_4]; decide) (by rw [c_1_4]; decide) (by decide) ?_
            refine lv_aload_n hx hb dX9_count_84 rfl (lv_at hl 0 rfl) ?_
            refine va_get (ci := 8) (v := .ref h2) (C := RX9) (T := TX9) (N := 7) hx hb hts (fun w h => List.mem_cons_of_mem _ (inX9 w h)) hown hK hP 0 rfl rfl 6 (by decide) hk_54 (fun _ h9 => h9) rfl dX9_count_85 ?_
            refine va_get (ci := 2) (v := .int (s2.1 1)) (C := RX2) (T := TX2) (N := 6) hx hb hts (fun w h => List.mem_cons_of_mem _ (inX2 w h)) hown hK hP 10 rfl rfl 1 (by decide) hk_143 (fun _ h9 => h9) rfl dX9_count_88 ?_
            refine lv_if_eq (tgt := 98) hx hb dX9_count_91 (by decide) (fun c_91 => ?_) (fun c_91 => ?_)
            · have hf := op_pos c_91 hf
              refine lv_iconst (v := 0) hx hb dX9_count_98 (by decide) ?_
              rw [← Option.some.inj hf]
              exact g_iret hx hb hr hlk hK hP hD hS dX9_count_99
            · have hf := op_neg c_91 hf
              refine lv_iconst (v := 1) hx hb dX9_count_94 (by decide) ?_
              refine lv_goto (tgt := 99) hx hb dX9_count_95 (by decide) ?_
              rw [← Option.some.inj hf]
              exact g_iret hx hb hr hlk hK hP hD hS dX9_count_99
          · have hf := op_neg c_1_4 hf
            by_cases c_1_5 : p1 = 5
            · have hf := op_pos c_1_5 hf
              refine lv_tableIn (tgt := 100) (off := 99) hx hb dX9_count_1 (by rw [c_1_5]; decide) (by rw [c_1_5]; decide) (by rw [c_1_5]; decide) (by decide) ?_
              refine lv_aload_n hx hb dX9_count_100 rfl (lv_at hl 0 rfl) ?_
              refine va_get (ci := 8) (v := .ref h2) (C := RX9) (T := TX9) (N := 7) hx hb hts (fun w h => List.mem_cons_of_mem _ (inX9 w h)) hown hK hP 0 rfl rfl 6 (by decide) hk_54 (fun _ h9 => h9) rfl dX9_count_101 ?_
              refine va_get (ci := 2) (v := .int (s2.1 2)) (C := RX2) (T := TX2) (N := 6) hx hb hts (fun w h => List.mem_cons_of_mem _ (inX2 w h)) hown hK hP 10 rfl rfl 2 (by decide) hk_220 (fun _ h9 => h9) rfl dX9_count_104 ?_
              rw [← Option.some.inj hf]
              exact g_iret hx hb hr hlk hK hP hD hS dX9_count_107
            · have hf := op_neg c_1_5 hf
              by_cases c_1_6 : p1 = 6
              · have hf := op_pos c_1_6 hf
                refine lv_tableIn (tgt := 108) (off := 107) hx hb dX9_count_1 (by rw [c_1_6]; decide) (by rw [c_1_6]; decide) (by rw [c_1_6]; decide) (by decide) ?_
                refine lv_aload_n hx hb dX9_count_108 rfl (lv_at hl 0 rfl) ?_
                refine va_get (ci := 8) (v := .ref h1) (C := RX9) (T := TX9) (N := 7) hx hb hts (fun w h => List.mem_cons_of_mem _ (inX9 w h)) hown hK hP 0 rfl rfl 2 (by decide) hk_22 (fun _ h9 => h9) rfl dX9_count_109 ?_
                refine lv_iconst (v := 0) hx hb dX9_count_112 (by decide) ?_
                obtain ⟨q_113, hc_113, hf⟩ := op_bind hf
                refine g_callVi (As := [.int 0]) (rest := []) (w2 := (w9 cy h0 r0_0 r0_1 h1 r0_3 r0_4 r0_5 h2 s0) ++ (w5 cy h1 a1 s1) ++ (w2 cy h2 h1 a2 s2)) ⟨hx, hb, hml, hown, hts⟩ (c_X5_widthOf l D cy h1 a1 s1 _ fu 0 _ hc_113) (cwV 1 hts (gi_V ml_RX9_125 im_X5_widthOf se_X5_widthOf in_RX5 cd_X5_widthOf) rfl rfl rfl hdX5_widthOf ⟨Nat.le_of_ble_eq_true rfl, Nat.le_of_ble_eq_true rfl⟩) (va_recv hK hP (ci := 5) (q0 := 1) rfl rfl) rfl hl.1 rfl (Nat.le_of_ble_eq_true rfl) dX9_count_113 hK hP hD hS hA [1, 2, 3, 4, 5, 6, 7, 8, 9] [0, 10, 11] [0, 3, 4, 5, 6, 7, 8, 9, 10, 11, 1, 2] rfl rfl rfl rfl (by decide) rfl rfl (fun H locs hP hD hS => ?_)
                rw [← Option.some.inj hf]
                exact g_iret hx hb hr hlk hK hP hD hS dX9_count_116
              · have hf := op_neg c_1_6 hf
                by_cases c_1_7 : p1 = 7
                · have hf := op_pos c_1_7 hf
                  refine lv_tableIn (tgt := 117) (off := 116) hx hb dX9_count_1 (by rw [c_1_7]; decide) (by rw [c_1_7]; decide) (by rw [c_1_7]; decide) (by decide) ?_
                  refine lv_aload_n hx hb dX9_count_117 rfl (lv_at hl 0 rfl) ?_
                  refine va_get (ci := 8) (v := .ref h1) (C := RX9) (T := TX9) (N := 7) hx hb hts (fun w h => List.mem_cons_of_mem _ (inX9 w h)) hown hK hP 0 rfl rfl 2 (by decide) hk_22 (fun _ h9 => h9) rfl dX9_count_118 ?_
                  refine lv_iconst (v := 0) hx hb dX9_count_121 (by decide) ?_
                  obtain ⟨q_122, hc_122, hf⟩ := op_bind hf
                  refine g_callVi (As := [.int 0]) (rest := []) (w2 := (w9 cy h0 r0_0 r0_1 h1 r0_3 r0_4 r0_5 h2 s0) ++ (w5 cy h1 a1 s1) ++ (w2 cy h2 h1 a2 s2)) ⟨hx, hb, hml, hown, hts⟩ (c_X5_speedOf l D cy h1 a1 s1 _ fu 0 _ hc_122) (cwV 1 hts (gi_V ml_RX9_223 im_X5_speedOf se_X5_speedOf in_RX5 cd_X5_speedOf) rfl rfl rfl hdX5_speedOf ⟨Nat.le_of_ble_eq_true rfl, Nat.le_of_ble_eq_true rfl⟩) (va_recv hK hP (ci := 5) (q0 := 1) rfl rfl) rfl hl.1 rfl (Nat.le_of_ble_eq_true rfl) dX9_count_122 hK hP hD hS hA [1, 2, 3, 4, 5, 6, 7, 8, 9] [0, 10, 11] [0, 3, 4, 5, 6, 7, 8, 9, 10, 11, 1, 2] rfl rfl rfl rfl (by decide) rfl rfl (fun H locs hP hD hS => ?_)
                  rw [← Option.some.inj hf]
                  exact g_iret hx hb hr hlk hK hP hD hS dX9_count_125
                · have hf := op_neg c_1_7 hf
                  by_cases c_1_8 : p1 = 8
                  · have hf := op_pos c_1_8 hf
                    refine lv_tableIn (tgt := 126) (off := 125) hx hb dX9_count_1 (by rw [c_1_8]; decide) (by rw [c_1_8]; decide) (by rw [c_1_8]; decide) (by decide) ?_
                    refine lv_aload_n hx hb dX9_count_126 rfl (lv_at hl 0 rfl) ?_
                    refine va_get (ci := 8) (v := .ref h1) (C := RX9) (T := TX9) (N := 7) hx hb hts (fun w h => List.mem_cons_of_mem _ (inX9 w h)) hown hK hP 0 rfl rfl 2 (by decide) hk_22 (fun _ h9 => h9) rfl dX9_count_127 ?_
                    obtain ⟨q_130, hc_130, hf⟩ := op_bind hf
                    refine g_callVi (As := []) (rest := []) (w2 := (w9 cy h0 r0_0 r0_1 h1 r0_3 r0_4 r0_5 h2 s0) ++ (w5 cy h1 a1 s1) ++ (w2 cy h2 h1 a2 s2)) ⟨hx, hb, hml, hown, hts⟩ (c_X5_beatsOfBar l D cy h1 a1 s1 _ fu _ hc_130) (cwV 0 hts (gi_V ml_RX9_226 im_X5_beatsOfBar se_X5_beatsOfBar in_RX5 cd_X5_beatsOfBar) rfl rfl rfl hdX5_beatsOfBar ⟨Nat.le_of_ble_eq_true rfl, Nat.le_of_ble_eq_true rfl⟩) (va_recv hK hP (ci := 5) (q0 := 1) rfl rfl) rfl hl.1 rfl (Nat.le_of_ble_eq_true rfl) dX9_count_130 hK hP hD hS hA [1, 2, 3, 4, 5, 6, 7, 8, 9] [0, 10, 11] [0, 3, 4, 5, 6, 7, 8, 9, 10, 11, 1, 2] rfl rfl rfl rfl (by decide) rfl rfl (fun H locs hP hD hS => ?_)
                    rw [← Option.some.inj hf]
                    exact g_iret hx hb hr hlk hK hP hD hS dX9_count_133
                  · have hf := op_neg c_1_8 hf
                    have e_0 : ¬ (p1).toInt = 0 := fun h => c_1_0 (Int32.toInt_inj.mp (h.trans (by decide)))
                    have e_1 : ¬ (p1).toInt = 1 := fun h => c_1_1 (Int32.toInt_inj.mp (h.trans (by decide)))
                    have e_2 : ¬ (p1).toInt = 2 := fun h => c_1_2 (Int32.toInt_inj.mp (h.trans (by decide)))
                    have e_3 : ¬ (p1).toInt = 3 := fun h => c_1_3 (Int32.toInt_inj.mp (h.trans (by decide)))
                    have e_4 : ¬ (p1).toInt = 4 := fun h => c_1_4 (Int32.toInt_inj.mp (h.trans (by decide)))
                    have e_5 : ¬ (p1).toInt = 5 := fun h => c_1_5 (Int32.toInt_inj.mp (h.trans (by decide)))
                    have e_6 : ¬ (p1).toInt = 6 := fun h => c_1_6 (Int32.toInt_inj.mp (h.trans (by decide)))
                    have e_7 : ¬ (p1).toInt = 7 := fun h => c_1_7 (Int32.toInt_inj.mp (h.trans (by decide)))
                    have e_8 : ¬ (p1).toInt = 8 := fun h => c_1_8 (Int32.toInt_inj.mp (h.trans (by decide)))
                    refine lv_tableOut (tgt := 134) hx hb dX9_count_1 (by omega) (by decide) ?_
                    refine lv_iconst (v := (-1)) hx hb dX9_count_134 (by decide) ?_
                    rw [← Option.some.inj hf]
                    exact g_iret hx hb hr hlk hK hP hD hS dX9_count_135
def f_X9_countedBarsOf (fu : Nat) (s0 : St) (s1 : St) (s2 : St)  (p1 : Int32) : Option (Int32) := (f_X5_barOf fu s1 p1).bind (fun q_9 => (f_X5_endOf fu s1 p1).bind (fun q_17 => (f_X2_countedBars fu s2 s1 q_9 q_17).bind (fun q_20 => some q_20)))
theorem hdX9_countedBarsOf : yX9_countedBarsOf.cls = RX9 ∧ yX9_countedBarsOf.cls ≠ "java/lang/invoke/MethodHandle" ∧ yX9_countedBarsOf.cls ≠ "java/lang/invoke/VarHandle" ∧ (parseMethodDescriptor yX9_countedBarsOf.desc).map (fun d => d.parameters.length) = some 1 := by decide +kernel
set_option maxHeartbeats 4000000 in
set_option maxRecDepth 100000 in
theorem c_X9_countedBarsOf (l : Launch) (D : va_G) (cy : Nat → ClassId) (h0 : Nat) (r0_0 : Nat) (r0_1 : Nat) (r0_3 : Nat) (r0_4 : Nat) (r0_5 : Nat) (s0 : St) (h1 : Nat) (a1 : Nat → Nat) (s1 : St) (h2 : Nat) (a2 : Nat → Nat) (s2 : St) (sz fu : Nat) (p1 : Int32) (out : Int32) (hf : f_X9_countedBarsOf fu s0 s1 s2 p1 = some out) :
    Met l yX9_countedBarsOf (WS yX9_countedBarsOf cX9_countedBarsOf 2 (some .int)) ({ frames := 4, cells := 0, slots := 0, locals := 94 } : Room) (va_Pc [.ref h0, .int p1] (gP D cy sz ((w9 cy h0 r0_0 r0_1 h1 r0_3 r0_4 r0_5 h2 s0) ++ (w5 cy h1 a1 s1) ++ (w2 cy h2 h1 a2 s2)))) ((fun A : Nat → Prop => gQi D cy A out ((w9 cy h0 r0_0 r0_1 h1 r0_3 r0_4 r0_5 h2 s0) ++ (w5 cy h1 a1 s1) ++ (w2 cy h2 h1 a2 s2))) (va_A ((w9 cy h0 r0_0 r0_1 h1 r0_3 r0_4 r0_5 h2 s0) ++ (w5 cy h1 a1 s1) ++ (w2 cy h2 h1 a2 s2)) sz)) 0 0 (va_A ((w9 cy h0 r0_0 r0_1 h1 r0_3 r0_4 r0_5 h2 s0) ++ (w5 cy h1 a1 s1) ++ (w2 cy h2 h1 a2 s2)) sz) := by
  refine g_met (cc := cX9_countedBarsOf) (maxL := 2) (ret := (some .int)) (fun A : Nat → Prop => gQi D cy A out ((w9 cy h0 r0_0 r0_1 h1 r0_3 r0_4 r0_5 h2 s0) ++ (w5 cy h1 a1 s1) ++ (w2 cy h2 h1 a2 s2))) (by decide +kernel) rfl (Nat.le_of_ble_eq_true rfl) ?_
  intro p e s m below meth c A C hA hK hP hD ls hl
  obtain ⟨hx, hb, hr, hml, hown, hts, hlk⟩ := id C
  have hown : s.vm.findClass RX9 = some m.cls := hown
  have hS : va_S A s.heap s.heap [] := va_S.rf
  have hl : lv_has ls 2 [(0, .ref h0), (1, .int p1)] := hl
  have hk_54 := hts _ (List.mem_cons_of_mem _ fl_RX9_54)
  have hk_22 := hts _ (List.mem_cons_of_mem _ fl_RX9_22)
  unfold f_X9_countedBarsOf at hf
  refine lv_aload_n hx hb dX9_countedBarsOf_0 rfl (lv_at hl 0 rfl) ?_
  refine va_get (ci := 8) (v := .ref h2) (C := RX9) (T := TX9) (N := 7) hx hb hts (fun w h => List.mem_cons_of_mem _ (inX9 w h)) hown hK hP 0 rfl rfl 6 (by decide) hk_54 (fun _ h9 => h9) rfl dX9_countedBarsOf_1 ?_
  refine lv_aload_n hx hb dX9_countedBarsOf_4 rfl (lv_at hl 0 rfl) ?_
  refine va_get (ci := 8) (v := .ref h1) (C := RX9) (T := TX9) (N := 7) hx hb hts (fun w h => List.mem_cons_of_mem _ (inX9 w h)) hown hK hP 0 rfl rfl 2 (by decide) hk_22 (fun _ h9 => h9) rfl dX9_countedBarsOf_5 ?_
  refine lv_iload_n hx hb dX9_countedBarsOf_8 rfl (lv_at hl 1 rfl) ?_
  obtain ⟨q_9, hc_9, hf⟩ := op_bind hf
  refine g_callVi (As := [.int p1]) (rest := [.ref h2]) (w2 := (w9 cy h0 r0_0 r0_1 h1 r0_3 r0_4 r0_5 h2 s0) ++ (w5 cy h1 a1 s1) ++ (w2 cy h2 h1 a2 s2)) ⟨hx, hb, hml, hown, hts⟩ (c_X5_barOf l D cy h1 a1 s1 _ fu p1 _ hc_9) (cwV 1 hts (gi_V ml_RX9_163 im_X5_barOf se_X5_barOf in_RX5 cd_X5_barOf) rfl rfl rfl hdX5_barOf ⟨Nat.le_of_ble_eq_true rfl, Nat.le_of_ble_eq_true rfl⟩) (va_recv hK hP (ci := 5) (q0 := 1) rfl rfl) rfl hl.1 rfl (Nat.le_of_ble_eq_true rfl) dX9_countedBarsOf_9 hK hP hD hS hA [1, 2, 3, 4, 5, 6, 7, 8, 9] [0, 10, 11] [0, 3, 4, 5, 6, 7, 8, 9, 10, 11, 1, 2] rfl rfl rfl rfl (by decide) rfl rfl (fun H locs hP hD hS => ?_)
  refine lv_aload_n hx hb dX9_countedBarsOf_12 rfl (lv_at hl 0 rfl) ?_
  refine va_get (ci := 8) (v := .ref h1) (C := RX9) (T := TX9) (N := 7) hx hb hts (fun w h => List.mem_cons_of_mem _ (inX9 w h)) hown hK hP 0 rfl rfl 2 (by decide) hk_22 (fun _ h9 => h9) rfl dX9_countedBarsOf_13 ?_
  refine lv_iload_n hx hb dX9_countedBarsOf_16 rfl (lv_at hl 1 rfl) ?_
  obtain ⟨q_17, hc_17, hf⟩ := op_bind hf
  refine g_callVi (As := [.int p1]) (rest := [.int q_9, .ref h2]) (w2 := (w9 cy h0 r0_0 r0_1 h1 r0_3 r0_4 r0_5 h2 s0) ++ (w5 cy h1 a1 s1) ++ (w2 cy h2 h1 a2 s2)) ⟨hx, hb, hml, hown, hts⟩ (c_X5_endOf l D cy h1 a1 s1 _ fu p1 _ hc_17) (cwV 1 hts (gi_V ml_RX9_230 im_X5_endOf se_X5_endOf in_RX5 cd_X5_endOf) rfl rfl rfl hdX5_endOf ⟨Nat.le_of_ble_eq_true rfl, Nat.le_of_ble_eq_true rfl⟩) (va_recv hK hP (ci := 5) (q0 := 1) rfl rfl) rfl hl.1 rfl (Nat.le_of_ble_eq_true rfl) dX9_countedBarsOf_17 hK hP hD hS hA [1, 2, 3, 4, 5, 6, 7, 8, 9] [0, 10, 11] [0, 3, 4, 5, 6, 7, 8, 9, 10, 11, 1, 2] rfl rfl rfl rfl (by decide) rfl rfl (fun H locs hP hD hS => ?_)
  obtain ⟨q_20, hc_20, hf⟩ := op_bind hf
  refine g_callVi (As := [.int q_9, .int q_17]) (rest := []) (w2 := (w9 cy h0 r0_0 r0_1 h1 r0_3 r0_4 r0_5 h2 s0) ++ (w5 cy h1 a1 s1) ++ (w2 cy h2 h1 a2 s2)) ⟨hx, hb, hml, hown, hts⟩ (c_X2_countedBars l D cy h2 a2 s2 h1 a1 s1 _ fu q_9 q_17 _ hc_20) (cwV 2 hts (gi_V ml_RX9_233 im_X2_countedBars se_X2_countedBars in_RX2 cd_X2_countedBars) rfl rfl rfl hdX2_countedBars ⟨Nat.le_of_ble_eq_true rfl, Nat.le_of_ble_eq_true rfl⟩) (va_recv hK hP (ci := 2) (q0 := 10) rfl rfl) rfl hl.1 rfl (Nat.le_of_ble_eq_true rfl) dX9_countedBarsOf_20 hK hP hD hS hA [10, 11, 1, 2, 3, 4, 5, 6, 7, 8, 9] [0] [0, 3, 4, 5, 6, 7, 8, 9, 10, 11, 1, 2] rfl rfl rfl rfl (by decide) rfl rfl (fun H locs hP hD hS => ?_)
  rw [← Option.some.inj hf]
  exact g_iret hx hb hr hlk hK hP hD hS dX9_countedBarsOf_23
