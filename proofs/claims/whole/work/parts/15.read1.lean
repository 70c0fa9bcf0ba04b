def f_X3_fail (fu : Nat)  (s0 : St) (p1 : Int32) (p2 : Int32) : Option (Int32 × St) := some (0, sF (sF s0 0 p1) 1 p2)
theorem hdX3_fail : yX3_fail.cls = RX3 ∧ yX3_fail.cls ≠ "java/lang/invoke/MethodHandle" ∧ yX3_fail.cls ≠ "java/lang/invoke/VarHandle" ∧ (parseMethodDescriptor yX3_fail.desc).map (fun d => d.parameters.length) = some 2 := by decide +kernel
set_option maxHeartbeats 4000000 in
set_option maxRecDepth 100000 in
theorem c_X3_fail (l : Launch) (D : va_G) (cy : Nat → ClassId) (h0 : Nat) (r0_2 : Nat) (r0_3 : Nat) (s0 : St) (sz fu : Nat) (p1 : Int32) (p2 : Int32) (out : Int32 × St) (hf : f_X3_fail fu s0 p1 p2 = some out) :
    Met l yX3_fail (WS yX3_fail cX3_fail 3 (some .boolean)) ({ frames := 0, cells := 0, slots := 0, locals := 0 } : Room) (va_Pc [.ref h0, .int p1, .int p2] (gP D cy sz (w3 cy h0 r0_2 r0_3 s0))) ((fun A : Nat → Prop => gQi D cy A out.1 (w3 cy h0 r0_2 r0_3 out.2)) (va_A (w3 cy h0 r0_2 r0_3 s0) sz)) 0 0 (va_A (w3 cy h0 r0_2 r0_3 s0) sz) := by
  refine g_met (cc := cX3_fail) (maxL := 3) (ret := (some .boolean)) (fun A : Nat → Prop => gQi D cy A out.1 (w3 cy h0 r0_2 r0_3 out.2)) (by decide +kernel) rfl (Nat.le_of_ble_eq_true rfl) ?_
  intro p e s m below meth c A C hA hK hP hD ls hl
  obtain ⟨hx, hb, hr, hml, hown, hts, hlk⟩ := id C
  have hown : s.vm.findClass RX3 = some m.cls := hown
  have hS : va_S A s.heap s.heap [] := va_S.rf
  have hl : lv_has ls 3 [(0, .ref h0), (1, .int p1), (2, .int p2)] := hl
  have hk_28 := hts _ (List.mem_cons_of_mem _ fl_RX3_28)
  have hk_9 := hts _ (List.mem_cons_of_mem _ fl_RX3_9)
  unfold f_X3_fail at hf
  refine lv_aload_n hx hb dX3_fail_0 rfl (lv_at hl 0 rfl) ?_
  refine lv_iload_n hx hb dX3_fail_1 rfl (lv_at hl 1 rfl) ?_
  refine va_put (ci := 3) (v := .int p1) (ty := tyX3 0) (C := RX3) (T := TX3) (N := 6) hx hb hts (fun w h => List.mem_cons_of_mem _ (inX3 w h)) tyX3 tyX3_ok nmX3 hown hK hP hD hS 0 rfl rfl 0 (by decide) hk_28 (fun _ h9 => h9) rfl (tyX3_ok 0 (by decide)) rfl rfl (Nat.le_of_ble_eq_true rfl) dX3_fail_2 (fun H locs hP hD hS => ?_)
  have hP : va_P D vwCl (w3 cy h0 r0_2 r0_3 (sF s0 0 p1)) H := pP3_0 hP
  have hD : va_D A (w3 cy h0 r0_2 r0_3 (sF s0 0 p1)) := pD3_0 hD
  refine lv_aload_n hx hb dX3_fail_5 rfl (lv_at hl 0 rfl) ?_
  refine lv_iload_n hx hb dX3_fail_6 rfl (lv_at hl 2 rfl) ?_
  refine va_put (ci := 3) (v := .int p2) (ty := tyX3 1) (C := RX3) (T := TX3) (N := 6) hx hb hts (fun w h => List.mem_cons_of_mem _ (inX3 w h)) tyX3 tyX3_ok nmX3 hown hK hP hD hS 0 rfl rfl 1 (by decide) hk_9 (fun _ h9 => h9) rfl (tyX3_ok 1 (by decide)) rfl rfl (Nat.le_of_ble_eq_true rfl) dX3_fail_7 (fun H locs hP hD hS => ?_)
  have hP : va_P D vwCl (w3 cy h0 r0_2 r0_3 (sF (sF s0 0 p1) 1 p2)) H := pP3_1 hP
  have hD : va_D A (w3 cy h0 r0_2 r0_3 (sF (sF s0 0 p1) 1 p2)) := pD3_1 hD
  refine lv_iconst (v := 0) hx hb dX3_fail_10 (by decide) ?_
  rw [← Option.some.inj hf]
  exact g_zret hx hb hr hlk (show isB 0 = true by decide) hK hP hD hS dX3_fail_11
def f_X3_readNumber_L62  (fu : Nat) (b2 : Nat → Int32) (u0 : St) (u1 : St) : Option (Int32 × St × St) := (f_X3_fail fu u0 2 (u0.1 5)).bind (fun q_68 => if isB q_68.1 = true then (some (q_68.1, q_68.2, u1)) else none)
set_option maxHeartbeats 4000000 in
set_option maxRecDepth 100000 in
theorem b_X3_readNumber_L62 {p : Program} {e : Env} {s : State} {m : MethodId} {args : Array Value} {below : List Frame} {meth : Method} {c : Code} {A : Nat → Prop} (l : Launch) (D : va_G) (cy : Nat → ClassId) (h0 : Nat) (r0_3 : Nat) (h1 : Nat) (h2 : Nat) (b2 : Nat → Int32) (fu : Nat) (out : Int32 × St × St) (C : gC p s m args meth c (WS yX3_readNumber cX3_readNumber 3 (some .boolean)) cX3_readNumber 3 (some .boolean) RX3) (hA : ∀ q : Nat, s.heap.size ≤ q → A q) (hK : va_K D vwCl (TY cy) s)  :
    ∀ (u0 : St) (u1 : St), f_X3_readNumber_L62 fu b2 u0 u1 = some out → ∀ (H : Heap) (locs : List Loc) (ls : Array Slot), va_P D vwCl ((w3 cy h0 h1 r0_3 u0) ++ (w4 cy h1 h2 u1) ++ (wB cy h2 b2)) H → va_D A ((w3 cy h0 h1 r0_3 u0) ++ (w4 cy h1 h2 u1) ++ (wB cy h2 b2)) → va_S A s.heap H locs → lv_has ls 3 [(0, .ref h0)] → W p l e ({ frames := 3, cells := 0, slots := 0, locals := 62 } : Room) s m args below meth c H locs 0 0 (MQ below (gQi D cy A out.1 ((w3 cy h0 h1 r0_3 out.2.1) ++ (w4 cy h1 h2 out.2.2) ++ (wB cy h2 b2))) args s 0 0 A) (F0 m 62 ls []) := by
  obtain ⟨hx, hb, hr, hml, hown, hts, hlk⟩ := id C
  have hown : s.vm.findClass RX3 = some m.cls := hown
  have hk_84 := hts _ (List.mem_cons_of_mem _ fl_RX3_84)
  intro u0 u1 hf H locs ls hP hD hS hl
  unfold f_X3_readNumber_L62 at hf
  refine lv_aload_n hx hb dX3_readNumber_62 rfl (lv_at hl 0 rfl) ?_
  refine lv_iconst (v := 2) hx hb dX3_readNumber_63 (by decide) ?_
  refine lv_aload_n hx hb dX3_readNumber_64 rfl (lv_at hl 0 rfl) ?_
  refine va_get (ci := 3) (v := .int (u0.1 5)) (C := RX3) (T := TX3) (N := 6) hx hb hts (fun w h => List.mem_cons_of_mem _ (inX3 w h)) hown hK hP 0 rfl rfl 5 (by decide) hk_84 (fun _ h9 => h9) rfl dX3_readNumber_65 ?_
  obtain ⟨q_68, hc_68, hf⟩ := op_bind hf
  refine g_callVi (As := [.int 2, .int (u0.1 5)]) (rest := []) (w2 := (w3 cy h0 h1 r0_3 q_68.2) ++ (w4 cy h1 h2 u1) ++ (wB cy h2 b2)) ⟨hx, hb, hml, hown, hts⟩ (c_X3_fail l D cy h0 h1 r0_3 u0 _ fu 2 (u0.1 5) _ hc_68) (cwV 2 hts (gi_V ml_RX3_60 im_X3_fail se_X3_fail in_RX3 cd_X3_fail) rfl rfl rfl hdX3_fail ⟨Nat.le_of_ble_eq_true rfl, Nat.le_of_ble_eq_true rfl⟩) (va_recv hK hP (ci := 3) (q0 := 0) rfl rfl) rfl hl.1 rfl (Nat.le_of_ble_eq_true rfl) dX3_readNumber_68 hK hP hD hS hA [0] [1, 2] [2, 0, 1] rfl rfl rfl rfl (by decide) rfl rfl (fun H locs hP hD hS => ?_)
  obtain ⟨hg_71, hf⟩ := op_if hf
  rw [← Option.some.inj hf]
  exact g_zret hx hb hr hlk hg_71 hK hP hD hS dX3_readNumber_71
def f_X3_readNumber (fu : Nat) (b2 : Nat → Int32) (s0 : St) (s1 : St) (p1 : Int32) (p2 : Int32) : Option (Int32 × St × St) := if (s1.1 1) = 3 then (if (s1.1 3) < p1 then (f_X3_readNumber_L62 fu b2 (sF (sF s0 4 (s1.1 3)) 5 (s1.1 2)) s1) else (if (s1.1 3) ≤ p2 then ((f_X4_step fu b2 s1).bind (fun q_76 => some (1, sF (sF s0 4 (s1.1 3)) 5 (s1.1 2), q_76))) else (f_X3_readNumber_L62 fu b2 (sF (sF s0 4 (s1.1 3)) 5 (s1.1 2)) s1))) else ((f_X3_fail fu s0 1 (s1.1 2)).bind (fun q_20 => if isB q_20.1 = true then (some (q_20.1, q_20.2, s1)) else none))
theorem hdX3_readNumber : yX3_readNumber.cls = RX3 ∧ yX3_readNumber.cls ≠ "java/lang/invoke/MethodHandle" ∧ yX3_readNumber.cls ≠ "java/lang/invoke/VarHandle" ∧ (parseMethodDescriptor yX3_readNumber.desc).map (fun d => d.parameters.length) = some 2 := by decide +kernel
set_option maxHeartbeats 4000000 in
set_option maxRecDepth 100000 in
theorem c_X3_readNumber (l : Launch) (D : va_G) (cy : Nat → ClassId) (h0 : Nat) (r0_3 : Nat) (s0 : St) (h1 : Nat) (s1 : St) (h2 : Nat) (b2 : Nat → Int32) (sz fu : Nat) (p1 : Int32) (p2 : Int32) (out : Int32 × St × St) (hf : f_X3_readNumber fu b2 s0 s1 p1 p2 = some out) :
    Met l yX3_readNumber (WS yX3_readNumber cX3_readNumber 3 (some .boolean)) ({ frames := 3, cells := 0, slots := 0, locals := 62 } : Room) (va_Pc [.ref h0, .int p1, .int p2] (gP D cy sz ((w3 cy h0 h1 r0_3 s0) ++ (w4 cy h1 h2 s1) ++ (wB cy h2 b2)))) ((fun A : Nat → Prop => gQi D cy A out.1 ((w3 cy h0 h1 r0_3 out.2.1) ++ (w4 cy h1 h2 out.2.2) ++ (wB cy h2 b2))) (va_A ((w3 cy h0 h1 r0_3 s0) ++ (w4 cy h1 h2 s1) ++ (wB cy h2 b2)) sz)) 0 0 (va_A ((w3 cy h0 h1 r0_3 s0) ++ (w4 cy h1 h2 s1) ++ (wB cy h2 b2)) sz) := by
  refine g_met (cc := cX3_readNumber) (maxL := 3) (ret := (some .boolean)) (fun A : Nat → Prop => gQi D cy A out.1 ((w3 cy h0 h1 r0_3 out.2.1) ++ (w4 cy h1 h2 out.2.2) ++ (wB cy h2 b2))) (by decide +kernel) rfl (Nat.le_of_ble_eq_true rfl) ?_
  intro p e s m below meth c A C hA hK hP hD ls hl
  obtain ⟨hx, hb, hr, hml, hown, hts, hlk⟩ := id C
  have hown : s.vm.findClass RX3 = some m.cls := hown
  have hS : va_S A s.heap s.heap [] := va_S.rf
  have hl : lv_has ls 3 [(0, .ref h0), (1, .int p1), (2, .int p2)] := hl
  have hk_24 := hts _ (List.mem_cons_of_mem _ fl_RX3_24)
  have hk_78 := hts _ (List.mem_cons_of_mem _ fl_RX3_78)
  have hk_81 := hts _ (List.mem_cons_of_mem _ fl_RX3_81)
  have hk_70 := hts _ (List.mem_cons_of_mem _ fl_RX3_70)
  have hk_57 := hts _ (List.mem_cons_of_mem _ fl_RX3_57)
  have hk_84 := hts _ (List.mem_cons_of_mem _ fl_RX3_84)
  unfold f_X3_readNumber at hf
  refine lv_aload_n hx hb dX3_readNumber_0 rfl (lv_at hl 0 rfl) ?_
  refine va_get (ci := 3) (v := .ref h1) (C := RX3) (T := TX3) (N := 6) hx hb hts (fun w h => List.mem_cons_of_mem _ (inX3 w h)) hown hK hP 0 rfl rfl 2 (by decide) hk_24 (fun _ h9 => h9) rfl dX3_readNumber_1 ?_
  refine va_get (ci := 4) (v := .int (s1.1 1)) (C := RX4) (T := TX4) (N := 6) hx hb hts (fun w h => List.mem_cons_of_mem _ (inX4 w h)) hown hK hP 1 rfl rfl 1 (by decide) hk_78 (fun _ h9 => h9) rfl dX3_readNumber_4 ?_
  refine lv_iconst (v := 3) hx hb dX3_readNumber_7 (by decide) ?_
  refine lv_icmp_eq (tgt := 24) hx hb dX3_readNumber_8 (by decide) (fun c_8 => ?_) (fun c_8 => ?_)
  · have hf := op_pos c_8 hf
    refine lv_aload_n hx hb dX3_readNumber_24 rfl (lv_at hl 0 rfl) ?_
    refine lv_aload_n hx hb dX3_readNumber_25 rfl (lv_at hl 0 rfl) ?_
    refine va_get (ci := 3) (v := .ref h1) (C := RX3) (T := TX3) (N := 6) hx hb hts (fun w h => List.mem_cons_of_mem _ (inX3 w h)) hown hK hP 0 rfl rfl 2 (by decide) hk_24 (fun _ h9 => h9) rfl dX3_readNumber_26 ?_
    refine va_get (ci := 4) (v := .int (s1.1 3)) (C := RX4) (T := TX4) (N := 6) hx hb hts (fun w h => List.mem_cons_of_mem _ (inX4 w h)) hown hK hP 1 rfl rfl 3 (by decide) hk_81 (fun _ h9 => h9) rfl dX3_readNumber_29 ?_
    refine va_put (ci := 3) (v := .int (s1.1 3)) (ty := tyX3 4) (C := RX3) (T := TX3) (N := 6) hx hb hts (fun w h => List.mem_cons_of_mem _ (inX3 w h)) tyX3 tyX3_ok nmX3 hown hK hP hD hS 0 rfl rfl 4 (by decide) hk_70 (fun _ h9 => h9) rfl (tyX3_ok 4 (by decide)) rfl rfl (Nat.le_of_ble_eq_true rfl) dX3_readNumber_32 (fun H locs hP hD hS => ?_)
    have hP : va_P D vwCl ((w3 cy h0 h1 r0_3 (sF s0 4 (s1.1 3))) ++ (w4 cy h1 h2 s1) ++ (wB cy h2 b2)) H := hP
    have hD : va_D A ((w3 cy h0 h1 r0_3 (sF s0 4 (s1.1 3))) ++ (w4 cy h1 h2 s1) ++ (wB cy h2 b2)) := hD
    refine lv_aload_n hx hb dX3_readNumber_35 rfl (lv_at hl 0 rfl) ?_
    refine lv_aload_n hx hb dX3_readNumber_36 rfl (lv_at hl 0 rfl) ?_
    refine va_get (ci := 3) (v := .ref h1) (C := RX3) (T := TX3) (N := 6) hx hb hts (fun w h => List.mem_cons_of_mem _ (inX3 w h)) hown hK hP 0 rfl rfl 2 (by decide) hk_24 (fun _ h9 => h9) rfl dX3_readNumber_37 ?_
    refine va_get (ci := 4) (v := .int (s1.1 2)) (C := RX4) (T := TX4) (N := 6) hx hb hts (fun w h => List.mem_cons_of_mem _ (inX4 w h)) hown hK hP 1 rfl rfl 2 (by decide) hk_57 (fun _ h9 => h9) rfl dX3_readNumber_40 ?_
    refine va_put (ci := 3) (v := .int (s1.1 2)) (ty := tyX3 5) (C := RX3) (T := TX3) (N := 6) hx hb hts (fun w h => List.mem_cons_of_mem _ (inX3 w h)) tyX3 tyX3_ok nmX3 hown hK hP hD hS 0 rfl rfl 5 (by decide) hk_84 (fun _ h9 => h9) rfl (tyX3_ok 5 (by decide)) rfl rfl (Nat.le_of_ble_eq_true rfl) dX3_readNumber_43 (fun H locs hP hD hS => ?_)
    have hP : va_P D vwCl ((w3 cy h0 h1 r0_3 (sF (sF s0 4 (s1.1 3)) 5 (s1.1 2))) ++ (w4 cy h1 h2 s1) ++ (wB cy h2 b2)) H := hP
    have hD : va_D A ((w3 cy h0 h1 r0_3 (sF (sF s0 4 (s1.1 3)) 5 (s1.1 2))) ++ (w4 cy h1 h2 s1) ++ (wB cy h2 b2)) := hD
    refine lv_aload_n hx hb dX3_readNumber_46 rfl (lv_at hl 0 rfl) ?_
    refine va_get (ci := 3) (v := .int (s1.1 3)) (C := RX3) (T := TX3) (N := 6) hx hb hts (fun w h => List.mem_cons_of_mem _ (inX3 w h)) hown hK hP 0 rfl rfl 4 (by decide) hk_70 (fun _ h9 => h9) rfl dX3_readNumber_47 ?_
    refine lv_iload_n hx hb dX3_readNumber_50 rfl (lv_at hl 1 rfl) ?_
    refine lv_icmp_lt (tgt := 62) hx hb dX3_readNumber_51 (by decide) (fun c_51 => ?_) (fun c_51 => ?_)
    · have hf := op_pos c_51 hf
      exact b_X3_readNumber_L62 l D cy h0 r0_3 h1 h2 b2 fu out C hA hK (sF (sF s0 4 (s1.1 3)) 5 (s1.1 2)) s1 hf _ _ ls hP hD hS (lv_sub hl [0] rfl)
    · have hf := op_neg c_51 hf
      refine lv_aload_n hx hb dX3_readNumber_54 rfl (lv_at hl 0 rfl) ?_
      refine va_get (ci := 3) (v := .int (s1.1 3)) (C := RX3) (T := TX3) (N := 6) hx hb hts (fun w h => List.mem_cons_of_mem _ (inX3 w h)) hown hK hP 0 rfl rfl 4 (by decide) hk_70 (fun _ h9 => h9) rfl dX3_readNumber_55 ?_
      refine lv_iload_n hx hb dX3_readNumber_58 rfl (lv_at hl 2 rfl) ?_
      refine lv_icmp_le (tgt := 72) hx hb dX3_readNumber_59 (by decide) (fun c_59 => ?_) (fun c_59 => ?_)
      · have hf := op_pos c_59 hf
        refine lv_aload_n hx hb dX3_readNumber_72 rfl (lv_at hl 0 rfl) ?_
        refine va_get (ci := 3) (v := .ref h1) (C := RX3) (T := TX3) (N := 6) hx hb hts (fun w h => List.mem_cons_of_mem _ (inX3 w h)) hown hK hP 0 rfl rfl 2 (by decide) hk_24 (fun _ h9 => h9) rfl dX3_readNumber_73 ?_
        obtain ⟨q_76, hc_76, hf⟩ := op_bind hf
        refine g_callVv (As := []) (rest := []) (w2 := (w3 cy h0 h1 r0_3 (sF (sF s0 4 (s1.1 3)) 5 (s1.1 2))) ++ (w4 cy h1 h2 q_76) ++ (wB cy h2 b2)) ⟨hx, hb, hml, hown, hts⟩ (c_X4_step l D cy h1 s1 h2 b2 _ fu _ hc_76) (cwV 0 hts (gi_V ml_RX3_64 im_X4_step se_X4_step in_RX4 cd_X4_step) rfl rfl rfl hdX4_step ⟨Nat.le_of_ble_eq_true rfl, Nat.le_of_ble_eq_true rfl⟩) (va_recv hK hP (ci := 4) (q0 := 1) rfl rfl) rfl hl.1 rfl (Nat.le_of_ble_eq_true rfl) dX3_readNumber_76 hK hP hD hS hA [1, 2] [0] [0, 1, 2] rfl rfl rfl rfl (by decide) rfl rfl (fun H locs hP hD hS => ?_)
        refine lv_iconst (v := 1) hx hb dX3_readNumber_79 (by decide) ?_
        rw [← Option.some.inj hf]
        exact g_zret hx hb hr hlk (show isB 1 = true by decide) hK hP hD hS dX3_readNumber_80
      · have hf := op_neg c_59 hf
        exact b_X3_readNumber_L62 l D cy h0 r0_3 h1 h2 b2 fu out C hA hK (sF (sF s0 4 (s1.1 3)) 5 (s1.1 2)) s1 hf _ _ ls hP hD hS (lv_sub hl [0] rfl)
  · have hf := op_neg c_8 hf
    refine lv_aload_n hx hb dX3_readNumber_11 rfl (lv_at hl 0 rfl) ?_
    refine lv_iconst (v := 1) hx hb dX3_readNumber_12 (by decide) ?_
    refine lv_aload_n hx hb dX3_readNumber_13 rfl (lv_at hl 0 rfl) ?_
    refine va_get (ci := 3) (v := .ref h1) (C := RX3) (T := TX3) (N := 6) hx hb hts (fun w h => List.mem_cons_of_mem _ (inX3 w h)) hown hK hP 0 rfl rfl 2 (by decide) hk_24 (fun _ h9 => h9) rfl dX3_readNumber_14 ?_
    refine va_get (ci := 4) (v := .int (s1.1 2)) (C := RX4) (T := TX4) (N := 6) hx hb hts (fun w h => List.mem_cons_of_mem _ (inX4 w h)) hown hK hP 1 rfl rfl 2 (by decide) hk_57 (fun _ h9 => h9) rfl dX3_readNumber_17 ?_
    obtain ⟨q_20, hc_20, hf⟩ := op_bind hf
    refine g_callVi (As := [.int 1, .int (s1.1 2)]) (rest := []) (w2 := (w3 cy h0 h1 r0_3 q_20.2) ++ (w4 cy h1 h2 s1) ++ (wB cy h2 b2)) ⟨hx, hb, hml, hown, hts⟩ (c_X3_fail l D cy h0 h1 r0_3 s0 _ fu 1 (s1.1 2) _ hc_20) (cwV 2 hts (gi_V ml_RX3_60 im_X3_fail se_X3_fail in_RX3 cd_X3_fail) rfl rfl rfl hdX3_fail ⟨Nat.le_of_ble_eq_true rfl, Nat.le_of_ble_eq_true rfl⟩) (va_recv hK hP (ci := 3) (q0 := 0) rfl rfl) rfl hl.1 rfl (Nat.le_of_ble_eq_true rfl) dX3_readNumber_20 hK hP hD hS hA [0] [1, 2] [2, 0, 1] rfl rfl rfl rfl (by decide) rfl rfl (fun H locs hP hD hS => ?_)
    obtain ⟨hg_23, hf⟩ := op_if hf
    rw [← Option.some.inj hf]
    exact g_zret hx hb hr hlk hg_23 hK hP hD hS dX3_readNumber_23
def f_X3_readSemicolon (fu : Nat) (b2 : Nat → Int32) (s0 : St) (s1 : St)  : Option (Int32 × St × St) := if (s1.1 1) = 5 then ((f_X4_step fu b2 s1).bind (fun q_28 => some (1, s0, q_28))) else ((f_X3_fail fu s0 1 (s1.1 2)).bind (fun q_20 => if isB q_20.1 = true then (some (q_20.1, q_20.2, s1)) else none))
theorem hdX3_readSemicolon : yX3_readSemicolon.cls = RX3 ∧ yX3_readSemicolon.cls ≠ "java/lang/invoke/MethodHandle" ∧ yX3_readSemicolon.cls ≠ "java/lang/invoke/VarHandle" ∧ (parseMethodDescriptor yX3_readSemicolon.desc).map (fun d => d.parameters.length) = some 0 := by decide +kernel
set_option maxHeartbeats 4000000 in
set_option maxRecDepth 100000 in
theorem c_X3_readSemicolon (l : Launch) (D : va_G) (cy : Nat → ClassId) (h0 : Nat) (r0_3 : Nat) (s0 : St) (h1 : Nat) (s1 : St) (h2 : Nat) (b2 : Nat → Int32) (sz fu : Nat)  (out : Int32 × St × St) (hf : f_X3_readSemicolon fu b2 s0 s1 = some out) :
    Met l yX3_readSemicolon (WS yX3_readSemicolon cX3_readSemicolon 1 (some .boolean)) ({ frames := 3, cells := 0, slots := 0, locals := 62 } : Room) (va_Pc [.ref h0] (gP D cy sz ((w3 cy h0 h1 r0_3 s0) ++ (w4 cy h1 h2 s1) ++ (wB cy h2 b2)))) ((fun A : Nat → Prop => gQi D cy A out.1 ((w3 cy h0 h1 r0_3 out.2.1) ++ (w4 cy h1 h2 out.2.2) ++ (wB cy h2 b2))) (va_A ((w3 cy h0 h1 r0_3 s0) ++ (w4 cy h1 h2 s1) ++ (wB cy h2 b2)) sz)) 0 0 (va_A ((w3 cy h0 h1 r0_3 s0) ++ (w4 cy h1 h2 s1) ++ (wB cy h2 b2)) sz) := by
  refine g_met (cc := cX3_readSemicolon) (maxL := 1) (ret := (some .boolean)) (fun A : Nat → Prop => gQi D cy A out.1 ((w3 cy h0 h1 r0_3 out.2.1) ++ (w4 cy h1 h2 out.2.2) ++ (wB cy h2 b2))) (by decide +kernel) rfl (Nat.le_of_ble_eq_true rfl) ?_
  intro p e s m below meth c A C hA hK hP hD ls hl
  obtain ⟨hx, hb, hr, hml, hown, hts, hlk⟩ := id C
  have hown : s.vm.findClass RX3 = some m.cls := hown
  have hS : va_S A s.heap s.heap [] := va_S.rf
  have hl : lv_has ls 1 [(0, .ref h0)] := hl
  have hk_24 := hts _ (List.mem_cons_of_mem _ fl_RX3_24)
  have hk_78 := hts _ (List.mem_cons_of_mem _ fl_RX3_78)
  have hk_57 := hts _ (List.mem_cons_of_mem _ fl_RX3_57)
  unfold f_X3_readSemicolon at hf
  refine lv_aload_n hx hb dX3_readSemicolon_0 rfl (lv_at hl 0 rfl) ?_
  refine va_get (ci := 3) (v := .ref h1) (C := RX3) (T := TX3) (N := 6) hx hb hts (fun w h => List.mem_cons_of_mem _ (inX3 w h)) hown hK hP 0 rfl rfl 2 (by decide) hk_24 (fun _ h9 => h9) rfl dX3_readSemicolon_1 ?_
  refine va_get (ci := 4) (v := .int (s1.1 1)) (C := RX4) (T := TX4) (N := 6) hx hb hts (fun w h => List.mem_cons_of_mem _ (inX4 w h)) hown hK hP 1 rfl rfl 1 (by decide) hk_78 (fun _ h9 => h9) rfl dX3_readSemicolon_4 ?_
  refine lv_iconst (v := 5) hx hb dX3_readSemicolon_7 (by decide) ?_
  refine lv_icmp_eq (tgt := 24) hx hb dX3_readSemicolon_8 (by decide) (fun c_8 => ?_) (fun c_8 => ?_)
  · have hf := op_pos c_8 hf
    refine lv_aload_n hx hb dX3_readSemicolon_24 rfl (lv_at hl 0 rfl) ?_
    refine va_get (ci := 3) (v := .ref h1) (C := RX3) (T := TX3) (N := 6) hx hb hts (fun w h => List.mem_cons_of_mem _ (inX3 w h)) hown hK hP 0 rfl rfl 2 (by decide) hk_24 (fun _ h9 => h9) rfl dX3_readSemicolon_25 ?_
    obtain ⟨q_28, hc_28, hf⟩ := op_bind hf
    refine g_callVv (As := []) (rest := []) (w2 := (w3 cy h0 h1 r0_3 s0) ++ (w4 cy h1 h2 q_28) ++ (wB cy h2 b2)) ⟨hx, hb, hml, hown, hts⟩ (c_X4_step l D cy h1 s1 h2 b2 _ fu _ hc_28) (cwV 0 hts (gi_V ml_RX3_64 im_X4_step se_X4_step in_RX4 cd_X4_step) rfl rfl rfl hdX4_step ⟨Nat.le_of_ble_eq_true rfl, Nat.le_of_ble_eq_true rfl⟩) (va_recv hK hP (ci := 4) (q0 := 1) rfl rfl) rfl hl.1 rfl (Nat.le_of_ble_eq_true rfl) dX3_readSemicolon_28 hK hP hD hS hA [1, 2] [0] [0, 1, 2] rfl rfl rfl rfl (by decide) rfl rfl (fun H locs hP hD hS => ?_)
    refine lv_iconst (v := 1) hx hb dX3_readSemicolon_31 (by decide) ?_
    rw [← Option.some.inj hf]
    exact g_zret hx hb hr hlk (show isB 1 = true by decide) hK hP hD hS dX3_readSemicolon_32
  · have hf := op_neg c_8 hf
    refine lv_aload_n hx hb dX3_readSemicolon_11 rfl (lv_at hl 0 rfl) ?_
    refine lv_iconst (v := 1) hx hb dX3_readSemicolon_12 (by decide) ?_
    refine lv_aload_n hx hb dX3_readSemicolon_13 rfl (lv_at hl 0 rfl) ?_
    refine va_get (ci := 3) (v := .ref h1) (C := RX3) (T := TX3) (N := 6) hx hb hts (fun w h => List.mem_cons_of_mem _ (inX3 w h)) hown hK hP 0 rfl rfl 2 (by decide) hk_24 (fun _ h9 => h9) rfl dX3_readSemicolon_14 ?_
    refine va_get (ci := 4) (v := .int (s1.1 2)) (C := RX4) (T := TX4) (N := 6) hx hb hts (fun w h => List.mem_cons_of_mem _ (inX4 w h)) hown hK hP 1 rfl rfl 2 (by decide) hk_57 (fun _ h9 => h9) rfl dX3_readSemicolon_17 ?_
    obtain ⟨q_20, hc_20, hf⟩ := op_bind hf
    refine g_callVi (As := [.int 1, .int (s1.1 2)]) (rest := []) (w2 := (w3 cy h0 h1 r0_3 q_20.2) ++ (w4 cy h1 h2 s1) ++ (wB cy h2 b2)) ⟨hx, hb, hml, hown, hts⟩ (c_X3_fail l D cy h0 h1 r0_3 s0 _ fu 1 (s1.1 2) _ hc_20) (cwV 2 hts (gi_V ml_RX3_60 im_X3_fail se_X3_fail in_RX3 cd_X3_fail) rfl rfl rfl hdX3_fail ⟨Nat.le_of_ble_eq_true rfl, Nat.le_of_ble_eq_true rfl⟩) (va_recv hK hP (ci := 3) (q0 := 0) rfl rfl) rfl hl.1 rfl (Nat.le_of_ble_eq_true rfl) dX3_readSemicolon_20 hK hP hD hS hA [0] [1, 2] [2, 0, 1] rfl rfl rfl rfl (by decide) rfl rfl (fun H locs hP hD hS => ?_)
    obtain ⟨hg_23, hf⟩ := op_if hf
    rw [← Option.some.inj hf]
    exact g_zret hx hb hr hlk hg_23 hK hP hD hS dX3_readSemicolon_23
def f_X3_readTongueSettingW (fu : Nat) (b2 : Nat → Int32) (s0 : St) (s1 : St) (s3 : St) (p2 : Int32) (p3 : Int32) : Option (Int32 × St × St × St) := (f_X4_step fu b2 s1).bind (fun q_13 => (f_X3_readNumber fu b2 s0 q_13 0 ((s3.1 0) - 1)).bind (fun q_27 => if q_27.1 = 0 then (some (0, q_27.2.1, q_27.2.2, s3)) else ((f_X5_tellsW fu s3 (q_27.2.1.1 4)).bind (fun q_48 => if q_48 = 0 then ((f_X3_readNumber fu b2 q_27.2.1 q_27.2.2 p2 p3).bind (fun q_65 => if q_65.1 = 0 then (some (0, q_65.2.1, q_65.2.2, s3)) else ((f_X5_tellW fu s3 (q_27.2.1.1 4) (q_65.2.1.1 4)).bind (fun q_84 => (f_X3_readSemicolon fu b2 q_65.2.1 q_65.2.2).bind (fun q_88 => if isB q_88.1 = true then (some (q_88.1, q_88.2.1, q_88.2.2, q_84)) else none))))) else ((f_X3_fail fu q_27.2.1 3 (s1.1 2)).bind (fun q_58 => if isB q_58.1 = true then (some (q_58.1, q_58.2, q_27.2.2, s3)) else none))))))
theorem hdX3_readTongueSetting : yX3_readTongueSetting.cls = RX3 ∧ yX3_readTongueSetting.cls ≠ "java/lang/invoke/MethodHandle" ∧ yX3_readTongueSetting.cls ≠ "java/lang/invoke/VarHandle" ∧ (parseMethodDescriptor yX3_readTongueSetting.desc).map (fun d => d.parameters.length) = some 3 := by decide +kernel
set_option maxHeartbeats 4000000 in
set_option maxRecDepth 100000 in
theorem c_X3_readTongueSettingW (l : Launch) (D : va_G) (cy : Nat → ClassId) (h0 : Nat) (s0 : St) (h1 : Nat) (s1 : St) (h2 : Nat) (b2 : Nat → Int32) (h3 : Nat) (a3 : Nat → Nat) (s3 : St) (sz fu : Nat) (p2 : Int32) (p3 : Int32) (out : Int32 × St × St × St) (hf : f_X3_readTongueSettingW fu b2 s0 s1 s3 p2 p3 = some out) :
    Met l yX3_readTongueSetting (WS yX3_readTongueSetting cX3_readTongueSetting 6 (some .boolean)) ({ frames := 4, cells := 0, slots := 0, locals := 84 } : Room) (va_Pc [.ref h0, .ref (a3 5), .int p2, .int p3] (gP D cy sz ((w3 cy h0 h1 h3 s0) ++ (w4 cy h1 h2 s1) ++ (wB cy h2 b2) ++ (w5 cy h3 a3 s3)))) ((fun A : Nat → Prop => gQi D cy A out.1 ((w3 cy h0 h1 h3 out.2.1) ++ (w4 cy h1 h2 out.2.2.1) ++ (wB cy h2 b2) ++ (w5 cy h3 a3 out.2.2.2))) (va_A ((w3 cy h0 h1 h3 s0) ++ (w4 cy h1 h2 s1) ++ (wB cy h2 b2) ++ (w5 cy h3 a3 s3)) sz)) 0 0 (va_A ((w3 cy h0 h1 h3 s0) ++ (w4 cy h1 h2 s1) ++ (wB cy h2 b2) ++ (w5 cy h3 a3 s3)) sz) := by
  refine g_met (cc := cX3_readTongueSetting) (maxL := 6) (ret := (some .boolean)) (fun A : Nat → Prop => gQi D cy A out.1 ((w3 cy h0 h1 h3 out.2.1) ++ (w4 cy h1 h2 out.2.2.1) ++ (wB cy h2 b2) ++ (w5 cy h3 a3 out.2.2.2))) (by decide +kernel) rfl (Nat.le_of_ble_eq_true rfl) ?_
  intro p e s m below meth c A C hA hK hP hD ls hl
  obtain ⟨hx, hb, hr, hml, hown, hts, hlk⟩ := id C
  have hown : s.vm.findClass RX3 = some m.cls := hown
  have hS : va_S A s.heap s.heap [] := va_S.rf
  have hl : lv_has ls 6 [(0, .ref h0), (1, .ref (a3 5)), (2, .int p2), (3, .int p3)] := hl
  have hk_24 := hts _ (List.mem_cons_of_mem _ fl_RX3_24)
  have hk_57 := hts _ (List.mem_cons_of_mem _ fl_RX3_57)
  have hk_15 := hts _ (List.mem_cons_of_mem _ fl_RX3_15)
  have hk_73 := hts _ (List.mem_cons_of_mem _ fl_RX3_73)
  have hk_70 := hts _ (List.mem_cons_of_mem _ fl_RX3_70)
  unfold f_X3_readTongueSettingW at hf
  refine lv_aload_n hx hb dX3_readTongueSetting_0 rfl (lv_at hl 0 rfl) ?_
  refine va_get (ci := 3) (v := .ref h1) (C := RX3) (T := TX3) (N := 6) hx hb hts (fun w h => List.mem_cons_of_mem _ (inX3 w h)) hown hK hP 0 rfl rfl 2 (by decide) hk_24 (fun _ h9 => h9) rfl dX3_readTongueSetting_1 ?_
  refine va_get (ci := 4) (v := .int (s1.1 2)) (C := RX4) (T := TX4) (N := 6) hx hb hts (fun w h => List.mem_cons_of_mem _ (inX4 w h)) hown hK hP 1 rfl rfl 2 (by decide) hk_57 (fun _ h9 => h9) rfl dX3_readTongueSetting_4 ?_
  refine lv_istore (lv' := [(4, .int (s1.1 2)), (0, .ref h0), (1, .ref (a3 5)), (2, .int p2), (3, .int p3)]) hx hb dX3_readTongueSetting_7 hl (by decide) rfl (fun ls hl => ?_)
  refine lv_aload_n hx hb dX3_readTongueSetting_9 rfl (lv_at hl 1 rfl) ?_
  refine va_get (ci := 3) (v := .ref h1) (C := RX3) (T := TX3) (N := 6) hx hb hts (fun w h => List.mem_cons_of_mem _ (inX3 w h)) hown hK hP 0 rfl rfl 2 (by decide) hk_24 (fun _ h9 => h9) rfl dX3_readTongueSetting_10 ?_
  obtain ⟨q_13, hc_13, hf⟩ := op_bind hf
  refine g_callVv (As := []) (rest := []) (w2 := (w3 cy h0 h1 h3 s0) ++ (w4 cy h1 h2 q_13) ++ (wB cy h2 b2) ++ (w5 cy h3 a3 s3)) ⟨hx, hb, hml, hown, hts⟩ (c_X4_step l D cy h1 s1 h2 b2 _ fu _ hc_13) (cwV 0 hts (gi_V ml_RX3_64 im_X4_step se_X4_step in_RX4 cd_X4_step) rfl rfl rfl hdX4_step ⟨Nat.le_of_ble_eq_true rfl, Nat.le_of_ble_eq_true rfl⟩) (va_recv hK hP (ci := 4) (q0 := 1) rfl rfl) rfl hl.1 rfl (Nat.le_of_ble_eq_true rfl) dX3_readTongueSetting_13 hK hP hD hS hA [1, 2] [0, 3, 4, 5, 6, 7, 8, 9, 10, 11] [0, 10, 11, 1, 2, 3, 4, 5, 6, 7, 8, 9] rfl rfl rfl rfl (by decide) rfl rfl (fun H locs hP hD hS => ?_)
  refine lv_aload_n hx hb dX3_readTongueSetting_16 rfl (lv_at hl 1 rfl) ?_
  refine lv_iconst (v := 0) hx hb dX3_readTongueSetting_17 (by decide) ?_
  refine lv_aload_n hx hb dX3_readTongueSetting_18 rfl (lv_at hl 1 rfl) ?_
  refine va_get (ci := 3) (v := .ref h3) (C := RX3) (T := TX3) (N := 6) hx hb hts (fun w h => List.mem_cons_of_mem _ (inX3 w h)) hown hK hP 0 rfl rfl 3 (by decide) hk_15 (fun _ h9 => h9) rfl dX3_readTongueSetting_19 ?_
  refine va_get (ci := 5) (v := .int (s3.1 0)) (C := RX5) (T := TX5) (N := 13) hx hb hts (fun w h => List.mem_cons_of_mem _ (inX5 w h)) hown hK hP 3 rfl rfl 0 (by decide) hk_73 (fun _ h9 => h9) rfl dX3_readTongueSetting_22 ?_
  refine lv_iconst (v := 1) hx hb dX3_readTongueSetting_25 (by decide) ?_
  refine lv_isub hx hb dX3_readTongueSetting_26 ?_
  obtain ⟨q_27, hc_27, hf⟩ := op_bind hf
  refine g_callVi (As := [.int 0, .int ((s3.1 0) - 1)]) (rest := []) (w2 := (w3 cy h0 h1 h3 q_27.2.1) ++ (w4 cy h1 h2 q_27.2.2) ++ (wB cy h2 b2) ++ (w5 cy h3 a3 s3)) ⟨hx, hb, hml, hown, hts⟩ (c_X3_readNumber l D cy h0 h3 s0 h1 q_13 h2 b2 _ fu 0 ((s3.1 0) - 1) _ hc_27) (cwV 2 hts (gi_V ml_RX3_67 im_X3_readNumber se_X3_readNumber in_RX3 cd_X3_readNumber) rfl rfl rfl hdX3_readNumber ⟨Nat.le_of_ble_eq_true rfl, Nat.le_of_ble_eq_true rfl⟩) (va_recv hK hP (ci := 3) (q0 := 0) rfl rfl) rfl hl.1 rfl (Nat.le_of_ble_eq_true rfl) dX3_readTongueSetting_27 hK hP hD hS hA [0, 1, 2] [3, 4, 5, 6, 7, 8, 9, 10, 11] [9, 10, 11, 0, 1, 2, 3, 4, 5, 6, 7, 8] rfl rfl rfl rfl (by decide) rfl rfl (fun H locs hP hD hS => ?_)
  refine lv_if_ne (tgt := 35) hx hb dX3_readTongueSetting_30 (by decide) (fun c_30 => ?_) (fun c_30 => ?_)
  · have hf := op_neg c_30 hf
    refine lv_aload_n hx hb dX3_readTongueSetting_35 rfl (lv_at hl 1 rfl) ?_
    refine va_get (ci := 3) (v := .int (q_27.2.1.1 4)) (C := RX3) (T := TX3) (N := 6) hx hb hts (fun w h => List.mem_cons_of_mem _ (inX3 w h)) hown hK hP 0 rfl rfl 4 (by decide) hk_70 (fun _ h9 => h9) rfl dX3_readTongueSetting_36 ?_
    refine lv_istore (lv' := [(5, .int (q_27.2.1.1 4)), (4, .int (s1.1 2)), (0, .ref h0), (1, .ref (a3 5)), (2, .int p2), (3, .int p3)]) hx hb dX3_readTongueSetting_39 hl (by decide) rfl (fun ls hl => ?_)
    refine lv_aload_n hx hb dX3_readTongueSetting_41 rfl (lv_at hl 2 rfl) ?_
    refine va_get (ci := 3) (v := .ref h3) (C := RX3) (T := TX3) (N := 6) hx hb hts (fun w h => List.mem_cons_of_mem _ (inX3 w h)) hown hK hP 0 rfl rfl 3 (by decide) hk_15 (fun _ h9 => h9) rfl dX3_readTongueSetting_42 ?_
    refine lv_aload_n hx hb dX3_readTongueSetting_45 rfl (lv_at hl 3 rfl) ?_
    refine lv_iload hx hb dX3_readTongueSetting_46 (lv_at hl 0 rfl) ?_
    obtain ⟨q_48, hc_48, hf⟩ := op_bind hf
    refine g_callVi (As := [.ref (a3 5), .int (q_27.2.1.1 4)]) (rest := []) (w2 := (w3 cy h0 h1 h3 q_27.2.1) ++ (w4 cy h1 h2 q_27.2.2) ++ (wB cy h2 b2) ++ (w5 cy h3 a3 s3)) ⟨hx, hb, hml, hown, hts⟩ (c_X5_tellsW l D cy h3 a3 s3 _ fu (q_27.2.1.1 4) _ hc_48) (cwV 2 hts (gi_V ml_RX3_107 im_X5_tells se_X5_tells in_RX5 cd_X5_tells) rfl rfl rfl hdX5_tells ⟨Nat.le_of_ble_eq_true rfl, Nat.le_of_ble_eq_true rfl⟩) (va_recv hK hP (ci := 5) (q0 := 3) rfl rfl) rfl hl.1 rfl (Nat.le_of_ble_eq_true rfl) dX3_readTongueSetting_48 hK hP hD hS hA [3, 4, 5, 6, 7, 8, 9, 10, 11] [0, 1, 2] [0, 1, 2, 3, 4, 5, 6, 7, 8, 9, 10, 11] rfl rfl rfl rfl (by decide) rfl rfl (fun H locs hP hD hS => ?_)
    refine lv_if_eq (tgt := 62) hx hb dX3_readTongueSetting_51 (by decide) (fun c_51 => ?_) (fun c_51 => ?_)
    · have hf := op_pos c_51 hf
      refine lv_aload_n hx hb dX3_readTongueSetting_62 rfl (lv_at hl 2 rfl) ?_
      refine lv_iload_n hx hb dX3_readTongueSetting_63 rfl (lv_at hl 4 rfl) ?_
      refine lv_iload_n hx hb dX3_readTongueSetting_64 rfl (lv_at hl 5 rfl) ?_
      obtain ⟨q_65, hc_65, hf⟩ := op_bind hf
      refine g_callVi (As := [.int p2, .int p3]) (rest := []) (w2 := (w3 cy h0 h1 h3 q_65.2.1) ++ (w4 cy h1 h2 q_65.2.2) ++ (wB cy h2 b2) ++ (w5 cy h3 a3 s3)) ⟨hx, hb, hml, hown, hts⟩ (c_X3_readNumber l D cy h0 h3 q_27.2.1 h1 q_27.2.2 h2 b2 _ fu p2 p3 _ hc_65) (cwV 2 hts (gi_V ml_RX3_67 im_X3_readNumber se_X3_readNumber in_RX3 cd_X3_readNumber) rfl rfl rfl hdX3_readNumber ⟨Nat.le_of_ble_eq_true rfl, Nat.le_of_ble_eq_true rfl⟩) (va_recv hK hP (ci := 3) (q0 := 0) rfl rfl) rfl hl.1 rfl (Nat.le_of_ble_eq_true rfl) dX3_readTongueSetting_65 hK hP hD hS hA [0, 1, 2] [3, 4, 5, 6, 7, 8, 9, 10, 11] [9, 10, 11, 0, 1, 2, 3, 4, 5, 6, 7, 8] rfl rfl rfl rfl (by decide) rfl rfl (fun H locs hP hD hS => ?_)
      refine lv_if_ne (tgt := 73) hx hb dX3_readTongueSetting_68 (by decide) (fun c_68 => ?_) (fun c_68 => ?_)
      · have hf := op_neg c_68 hf
        refine lv_aload_n hx hb dX3_readTongueSetting_73 rfl (lv_at hl 2 rfl) ?_
        refine va_get (ci := 3) (v := .ref h3) (C := RX3) (T := TX3) (N := 6) hx hb hts (fun w h => List.mem_cons_of_mem _ (inX3 w h)) hown hK hP 0 rfl rfl 3 (by decide) hk_15 (fun _ h9 => h9) rfl dX3_readTongueSetting_74 ?_
        refine lv_aload_n hx hb dX3_readTongueSetting_77 rfl (lv_at hl 3 rfl) ?_
        refine lv_iload hx hb dX3_readTongueSetting_78 (lv_at hl 0 rfl) ?_
        refine lv_aload_n hx hb dX3_readTongueSetting_80 rfl (lv_at hl 2 rfl) ?_
        refine va_get (ci := 3) (v := .int (q_65.2.1.1 4)) (C := RX3) (T := TX3) (N := 6) hx hb hts (fun w h => List.mem_cons_of_mem _ (inX3 w h)) hown hK hP 0 rfl rfl 4 (by decide) hk_70 (fun _ h9 => h9) rfl dX3_readTongueSetting_81 ?_
        obtain ⟨q_84, hc_84, hf⟩ := op_bind hf
        refine g_callVv (As := [.ref (a3 5), .int (q_27.2.1.1 4), .int (q_65.2.1.1 4)]) (rest := []) (w2 := (w3 cy h0 h1 h3 q_65.2.1) ++ (w4 cy h1 h2 q_65.2.2) ++ (wB cy h2 b2) ++ (w5 cy h3 a3 q_84)) ⟨hx, hb, hml, hown, hts⟩ (c_X5_tellW l D cy h3 a3 s3 _ fu (q_27.2.1.1 4) (q_65.2.1.1 4) _ hc_84) (cwV 3 hts (gi_V ml_RX3_111 im_X5_tell se_X5_tell in_RX5 cd_X5_tell) rfl rfl rfl hdX5_tell ⟨Nat.le_of_ble_eq_true rfl, Nat.le_of_ble_eq_true rfl⟩) (va_recv hK hP (ci := 5) (q0 := 3) rfl rfl) rfl hl.1 rfl (Nat.le_of_ble_eq_true rfl) dX3_readTongueSetting_84 hK hP hD hS hA [3, 4, 5, 6, 7, 8, 9, 10, 11] [0, 1, 2] [0, 1, 2, 3, 4, 5, 6, 7, 8, 9, 10, 11] rfl rfl rfl rfl (by decide) rfl rfl (fun H locs hP hD hS => ?_)
        refine lv_aload_n hx hb dX3_readTongueSetting_87 rfl (lv_at hl 2 rfl) ?_
        obtain ⟨q_88, hc_88, hf⟩ := op_bind hf
        refine g_callVi (As := []) (rest := []) (w2 := (w3 cy h0 h1 h3 q_88.2.1) ++ (w4 cy h1 h2 q_88.2.2) ++ (wB cy h2 b2) ++ (w5 cy h3 a3 q_84)) ⟨hx, hb, hml, hown, hts⟩ (c_X3_readSemicolon l D cy h0 h3 q_65.2.1 h1 q_65.2.2 h2 b2 _ fu _ hc_88) (cwV 0 hts (gi_V ml_RX3_75 im_X3_readSemicolon se_X3_readSemicolon in_RX3 cd_X3_readSemicolon) rfl rfl rfl hdX3_readSemicolon ⟨Nat.le_of_ble_eq_true rfl, Nat.le_of_ble_eq_true rfl⟩) (va_recv hK hP (ci := 3) (q0 := 0) rfl rfl) rfl hl.1 rfl (Nat.le_of_ble_eq_true rfl) dX3_readTongueSetting_88 hK hP hD hS hA [0, 1, 2] [3, 4, 5, 6, 7, 8, 9, 10, 11] [9, 10, 11, 0, 1, 2, 3, 4, 5, 6, 7, 8] rfl rfl rfl rfl (by decide) rfl rfl (fun H locs hP hD hS => ?_)
        obtain ⟨hg_91, hf⟩ := op_if hf
        rw [← Option.some.inj hf]
        exact g_zret hx hb hr hlk hg_91 hK hP hD hS dX3_readTongueSetting_91
      · have hf := op_pos c_68 hf
        refine lv_iconst (v := 0) hx hb dX3_readTongueSetting_71 (by decide) ?_
        rw [← Option.some.inj hf]
        exact g_zret hx hb hr hlk (show isB 0 = true by decide) hK hP hD hS dX3_readTongueSetting_72
    · have hf := op_neg c_51 hf
      refine lv_aload_n hx hb dX3_readTongueSetting_54 rfl (lv_at hl 2 rfl) ?_
      refine lv_iconst (v := 3) hx hb dX3_readTongueSetting_55 (by decide) ?_
      refine lv_iload hx hb dX3_readTongueSetting_56 (lv_at hl 1 rfl) ?_
      obtain ⟨q_58, hc_58, hf⟩ := op_bind hf
      refine g_callVi (As := [.int 3, .int (s1.1 2)]) (rest := []) (w2 := (w3 cy h0 h1 h3 q_58.2) ++ (w4 cy h1 h2 q_27.2.2) ++ (wB cy h2 b2) ++ (w5 cy h3 a3 s3)) ⟨hx, hb, hml, hown, hts⟩ (c_X3_fail l D cy h0 h1 h3 q_27.2.1 _ fu 3 (s1.1 2) _ hc_58) (cwV 2 hts (gi_V ml_RX3_60 im_X3_fail se_X3_fail in_RX3 cd_X3_fail) rfl rfl rfl hdX3_fail ⟨Nat.le_of_ble_eq_true rfl, Nat.le_of_ble_eq_true rfl⟩) (va_recv hK hP (ci := 3) (q0 := 0) rfl rfl) rfl hl.1 rfl (Nat.le_of_ble_eq_true rfl) dX3_readTongueSetting_58 hK hP hD hS hA [0] [1, 2, 3, 4, 5, 6, 7, 8, 9, 10, 11] [11, 0, 1, 2, 3, 4, 5, 6, 7, 8, 9, 10] rfl rfl rfl rfl (by decide) rfl rfl (fun H locs hP hD hS => ?_)
      obtain ⟨hg_61, hf⟩ := op_if hf
      rw [← Option.some.inj hf]
      exact g_zret hx hb hr hlk hg_61 hK hP hD hS dX3_readTongueSetting_61
  · have hf := op_pos c_30 hf
    refine lv_iconst (v := 0) hx hb dX3_readTongueSetting_33 (by decide) ?_
    rw [← Option.some.inj hf]
    exact g_zret hx hb hr hlk (show isB 0 = true by decide) hK hP hD hS dX3_readTongueSetting_34
def f_X3_readTongueSettingS (fu : Nat) (b2 : Nat → Int32) (s0 : St) (s1 : St) (s3 : St) (p2 : Int32) (p3 : Int32) : Option (Int32 × St × St × St) := (f_X4_step fu b2 s1).bind (fun q_13 => (f_X3_readNumber fu b2 s0 q_13 0 ((s3.1 0) - 1)).bind (fun q_27 => if q_27.1 = 0 then (some (0, q_27.2.1, q_27.2.2, s3)) else ((f_X5_tellsS fu s3 (q_27.2.1.1 4)).bind (fun q_48 => if q_48 = 0 then ((f_X3_readNumber fu b2 q_27.2.1 q_27.2.2 p2 p3).bind (fun q_65 => if q_65.1 = 0 then (some (0, q_65.2.1, q_65.2.2, s3)) else ((f_X5_tellS fu s3 (q_27.2.1.1 4) (q_65.2.1.1 4)).bind (fun q_84 => (f_X3_readSemicolon fu b2 q_65.2.1 q_65.2.2).bind (fun q_88 => if isB q_88.1 = true then (some (q_88.1, q_88.2.1, q_88.2.2, q_84)) else none))))) else ((f_X3_fail fu q_27.2.1 3 (s1.1 2)).bind (fun q_58 => if isB q_58.1 = true then (some (q_58.1, q_58.2, q_27.2.2, s3)) else none))))))
set_option maxHeartbeats 4000000 in
set_option maxRecDepth 100000 in
theorem c_X3_readTongueSettingS (l : Launch) (D : va_G) (cy : Nat → ClassId) (h0 : Nat) (s0 : St) (h1 : Nat) (s1 : St) (h2 : Nat) (b2 : Nat → Int32) (h3 : Nat) (a3 : Nat → Nat) (s3 : St) (sz fu : Nat) (p2 : Int32) (p3 : Int32) (out : Int32 × St × St × St) (hf : f_X3_readTongueSettingS fu b2 s0 s1 s3 p2 p3 = some out) :
    Met l yX3_readTongueSetting (WS yX3_readTongueSetting cX3_readTongueSetting 6 (some .boolean)) ({ frames := 4, cells := 0, slots := 0, locals := 84 } : Room) (va_Pc [.ref h0, .ref (a3 6), .int p2, .int p3] (gP D cy sz ((w3 cy h0 h1 h3 s0) ++ (w4 cy h1 h2 s1) ++ (wB cy h2 b2) ++ (w5 cy h3 a3 s3)))) ((fun A : Nat → Prop => gQi D cy A out.1 ((w3 cy h0 h1 h3 out.2.1) ++ (w4 cy h1 h2 out.2.2.1) ++ (wB cy h2 b2) ++ (w5 cy h3 a3 out.2.2.2))) (va_A ((w3 cy h0 h1 h3 s0) ++ (w4 cy h1 h2 s1) ++ (wB cy h2 b2) ++ (w5 cy h3 a3 s3)) sz)) 0 0 (va_A ((w3 cy h0 h1 h3 s0) ++ (w4 cy h1 h2 s1) ++ (wB cy h2 b2) ++ (w5 cy h3 a3 s3)) sz) := by
  refine g_met (cc := cX3_readTongueSetting) (maxL := 6) (ret := (some .boolean)) (fun A : Nat → Prop => gQi D cy A out.1 ((w3 cy h0 h1 h3 out.2.1) ++ (w4 cy h1 h2 out.2.2.1) ++ (wB cy h2 b2) ++ (w5 cy h3 a3 out.2.2.2))) (by decide +kernel) rfl (Nat.le_of_ble_eq_true rfl) ?_
  intro p e s m below meth c A C hA hK hP hD ls hl
  obtain ⟨hx, hb, hr, hml, hown, hts, hlk⟩ := id C
  have hown : s.vm.findClass RX3 = some m.cls := hown
  have hS : va_S A s.heap s.heap [] := va_S.rf
  have hl : lv_has ls 6 [(0, .ref h0), (1, .ref (a3 6)), (2, .int p2), (3, .int p3)] := hl
  have hk_24 := hts _ (List.mem_cons_of_mem _ fl_RX3_24)
  have hk_57 := hts _ (List.mem_cons_of_mem _ fl_RX3_57)
  have hk_15 := hts _ (List.mem_cons_of_mem _ fl_RX3_15)
  have hk_73 := hts _ (List.mem_cons_of_mem _ fl_RX3_73)
  have hk_70 := hts _ (List.mem_cons_of_mem _ fl_RX3_70)
  unfold f_X3_readTongueSettingS at hf
  refine lv_aload_n hx hb dX3_readTongueSetting_0 rfl (lv_at hl 0 rfl) ?_
  refine va_get (ci := 3) (v := .ref h1) (C := RX3) (T := TX3) (N := 6) hx hb hts (fun w h => List.mem_cons_of_mem _ (inX3 w h)) hown hK hP 0 rfl rfl 2 (by decide) hk_24 (fun _ h9 => h9) rfl dX3_readTongueSetting_1 ?_
  refine va_get (ci := 4) (v := .int (s1.1 2)) (C := RX4) (T := TX4) (N := 6) hx hb hts (fun w h => List.mem_cons_of_mem _ (inX4 w h)) hown hK hP 1 rfl rfl 2 (by decide) hk_57 (fun _ h9 => h9) rfl dX3_readTongueSetting_4 ?_
  refine lv_istore (lv' := [(4, .int (s1.1 2)), (0, .ref h0), (1, .ref (a3 6)), (2, .int p2), (3, .int p3)]) hx hb dX3_readTongueSetting_7 hl (by decide) rfl (fun ls hl => ?_)
  refine lv_aload_n hx hb dX3_readTongueSetting_9 rfl (lv_at hl 1 rfl) ?_
  refine va_get (ci := 3) (v := .ref h1) (C := RX3) (T := TX3) (N := 6) hx hb hts (fun w h => List.mem_cons_of_mem _ (inX3 w h)) hown hK hP 0 rfl rfl 2 (by decide) hk_24 (fun _ h9 => h9) rfl dX3_readTongueSetting_10 ?_
  obtain ⟨q_13, hc_13, hf⟩ := op_bind hf
  refine g_callVv (As := []) (rest := []) (w2 := (w3 cy h0 h1 h3 s0) ++ (w4 cy h1 h2 q_13) ++ (wB cy h2 b2) ++ (w5 cy h3 a3 s3)) ⟨hx, hb, hml, hown, hts⟩ (c_X4_step l D cy h1 s1 h2 b2 _ fu _ hc_13) (cwV 0 hts (gi_V ml_RX3_64 im_X4_step se_X4_step in_RX4 cd_X4_step) rfl rfl rfl hdX4_step ⟨Nat.le_of_ble_eq_true rfl, Nat.le_of_ble_eq_true rfl⟩) (va_recv hK hP (ci := 4) (q0 := 1) rfl rfl) rfl hl.1 rfl (Nat.le_of_ble_eq_true rfl) dX3_readTongueSetting_13 hK hP hD hS hA [1, 2] [0, 3, 4, 5, 6, 7, 8, 9, 10, 11] [0, 10, 11, 1, 2, 3, 4, 5, 6, 7, 8, 9] rfl rfl rfl rfl (by decide) rfl rfl (fun H locs hP hD hS => ?_)
  refine lv_aload_n hx hb dX3_readTongueSetting_16 rfl (lv_at hl 1 rfl) ?_
  refine lv_iconst (v := 0) hx hb dX3_readTongueSetting_17 (by decide) ?_
  refine lv_aload_n hx hb dX3_readTongueSetting_18 rfl (lv_at hl 1 rfl) ?_
  refine va_get (ci := 3) (v := .ref h3) (C := RX3) (T := TX3) (N := 6) hx hb hts (fun w h => List.mem_cons_of_mem _ (inX3 w h)) hown hK hP 0 rfl rfl 3 (by decide) hk_15 (fun _ h9 => h9) rfl dX3_readTongueSetting_19 ?_
  refine va_get (ci := 5) (v := .int (s3.1 0)) (C := RX5) (T := TX5) (N := 13) hx hb hts (fun w h => List.mem_cons_of_mem _ (inX5 w h)) hown hK hP 3 rfl rfl 0 (by decide) hk_73 (fun _ h9 => h9) rfl dX3_readTongueSetting_22 ?_
  refine lv_iconst (v := 1) hx hb dX3_readTongueSetting_25 (by decide) ?_
  refine lv_isub hx hb dX3_readTongueSetting_26 ?_
  obtain ⟨q_27, hc_27, hf⟩ := op_bind hf
  refine g_callVi (As := [.int 0, .int ((s3.1 0) - 1)]) (rest := []) (w2 := (w3 cy h0 h1 h3 q_27.2.1) ++ (w4 cy h1 h2 q_27.2.2) ++ (wB cy h2 b2) ++ (w5 cy h3 a3 s3)) ⟨hx, hb, hml, hown, hts⟩ (c_X3_readNumber l D cy h0 h3 s0 h1 q_13 h2 b2 _ fu 0 ((s3.1 0) - 1) _ hc_27) (cwV 2 hts (gi_V ml_RX3_67 im_X3_readNumber se_X3_readNumber in_RX3 cd_X3_readNumber) rfl rfl rfl hdX3_readNumber ⟨Nat.le_of_ble_eq_true rfl, Nat.le_of_ble_eq_true rfl⟩) (va_recv hK hP (ci := 3) (q0 := 0) rfl rfl) rfl hl.1 rfl (Nat.le_of_ble_eq_true rfl) dX3_readTongueSetting_27 hK hP hD hS hA [0, 1, 2] [3, 4, 5, 6, 7, 8, 9, 10, 11] [9, 10, 11, 0, 1, 2, 3, 4, 5, 6, 7, 8] rfl rfl rfl rfl (by decide) rfl rfl (fun H locs hP hD hS => ?_)
  refine lv_if_ne (tgt := 35) hx hb dX3_readTongueSetting_30 (by decide) (fun c_30 => ?_) (fun c_30 => ?_)
  · have hf := op_neg c_30 hf
    refine lv_aload_n hx hb dX3_readTongueSetting_35 rfl (lv_at hl 1 rfl) ?_
    refine va_get (ci := 3) (v := .int (q_27.2.1.1 4)) (C := RX3) (T := TX3) (N := 6) hx hb hts (fun w h => List.mem_cons_of_mem _ (inX3 w h)) hown hK hP 0 rfl rfl 4 (by decide) hk_70 (fun _ h9 => h9) rfl dX3_readTongueSetting_36 ?_
    refine lv_istore (lv' := [(5, .int (q_27.2.1.1 4)), (4, .int (s1.1 2)), (0, .ref h0), (1, .ref (a3 6)), (2, .int p2), (3, .int p3)]) hx hb dX3_readTongueSetting_39 hl (by decide) rfl (fun ls hl => ?_)
    refine lv_aload_n hx hb dX3_readTongueSetting_41 rfl (lv_at hl 2 rfl) ?_
    refine va_get (ci := 3) (v := .ref h3) (C := RX3) (T := TX3) (N := 6) hx hb hts (fun w h => List.mem_cons_of_mem _ (inX3 w h)) hown hK hP 0 rfl rfl 3 (by decide) hk_15 (fun _ h9 => h9) rfl dX3_readTongueSetting_42 ?_
    refine lv_aload_n hx hb dX3_readTongueSetting_45 rfl (lv_at hl 3 rfl) ?_
    refine lv_iload hx hb dX3_readTongueSetting_46 (lv_at hl 0 rfl) ?_
    obtain ⟨q_48, hc_48, hf⟩ := op_bind hf
    refine g_callVi (As := [.ref (a3 6), .int (q_27.2.1.1 4)]) (rest := []) (w2 := (w3 cy h0 h1 h3 q_27.2.1) ++ (w4 cy h1 h2 q_27.2.2) ++ (wB cy h2 b2) ++ (w5 cy h3 a3 s3)) ⟨hx, hb, hml, hown, hts⟩ (c_X5_tellsS l D cy h3 a3 s3 _ fu (q_27.2.1.1 4) _ hc_48) (cwV 2 hts (gi_V ml_RX3_107 im_X5_tells se_X5_tells in_RX5 cd_X5_tells) rfl rfl rfl hdX5_tells ⟨Nat.le_of_ble_eq_true rfl, Nat.le_of_ble_eq_true rfl⟩) (va_recv hK hP (ci := 5) (q0 := 3) rfl rfl) rfl hl.1 rfl (Nat.le_of_ble_eq_true rfl) dX3_readTongueSetting_48 hK hP hD hS hA [3, 4, 5, 6, 7, 8, 9, 10, 11] [0, 1, 2] [0, 1, 2, 3, 4, 5, 6, 7, 8, 9, 10, 11] rfl rfl rfl rfl (by decide) rfl rfl (fun H locs hP hD hS => ?_)
    refine lv_if_eq (tgt := 62) hx hb dX3_readTongueSetting_51 (by decide) (fun c_51 => ?_) (fun c_51 => ?_)
    · have hf := op_pos c_51 hf
      refine lv_aload_n hx hb dX3_readTongueSetting_62 rfl (lv_at hl 2 rfl) ?_
      refine lv_iload_n hx hb dX3_readTongueSetting_63 rfl (lv_at hl 4 rfl) ?_
      refine lv_iload_n hx hb dX3_readTongueSetting_64 rfl (lv_at hl 5 rfl) ?_
      obtain ⟨q_65, hc_65, hf⟩ := op_bind hf
      refine g_callVi (As := [.int p2, .int p3]) (rest := []) (w2 := (w3 cy h0 h1 h3 q_65.2.1) ++ (w4 cy h1 h2 q_65.2.2) ++ (wB cy h2 b2) ++ (w5 cy h3 a3 s3)) ⟨hx, hb, hml, hown, hts⟩ (c_X3_readNumber l D cy h0 h3 q_27.2.1 h1 q_27.2.2 h2 b2 _ fu p2 p3 _ hc_65) (cwV 2 hts (gi_V ml_RX3_67 im_X3_readNumber se_X3_readNumber in_RX3 cd_X3_readNumber) rfl rfl rfl hdX3_readNumber ⟨Nat.le_of_ble_eq_true rfl, Nat.le_of_ble_eq_true rfl⟩) (va_recv hK hP (ci := 3) (q0 := 0) rfl rfl) rfl hl.1 rfl (Nat.le_of_ble_eq_true rfl) dX3_readTongueSetting_65 hK hP hD hS hA [0, 1, 2] [3, 4, 5, 6, 7, 8, 9, 10, 11] [9, 10, 11, 0, 1, 2, 3, 4, 5, 6, 7, 8] rfl rfl rfl rfl (by decide) rfl rfl (fun H locs hP hD hS => ?_)
      refine lv_if_ne (tgt := 73) hx hb dX3_readTongueSetting_68 (by decide) (fun c_68 => ?_) (fun c_68 => ?_)
      · have hf := op_neg c_68 hf
        refine lv_aload_n hx hb dX3_readTongueSetting_73 rfl (lv_at hl 2 rfl) ?_
        refine va_get (ci := 3) (v := .ref h3) (C := RX3) (T := TX3) (N := 6) hx hb hts (fun w h => List.mem_cons_of_mem _ (inX3 w h)) hown hK hP 0 rfl rfl 3 (by decide) hk_15 (fun _ h9 => h9) rfl dX3_readTongueSetting_74 ?_
        refine lv_aload_n hx hb dX3_readTongueSetting_77 rfl (lv_at hl 3 rfl) ?_
        refine lv_iload hx hb dX3_readTongueSetting_78 (lv_at hl 0 rfl) ?_
        refine lv_aload_n hx hb dX3_readTongueSetting_80 rfl (lv_at hl 2 rfl) ?_
        refine va_get (ci := 3) (v := .int (q_65.2.1.1 4)) (C := RX3) (T := TX3) (N := 6) hx hb hts (fun w h => List.mem_cons_of_mem _ (inX3 w h)) hown hK hP 0 rfl rfl 4 (by decide) hk_70 (fun _ h9 => h9) rfl dX3_readTongueSetting_81 ?_
        obtain ⟨q_84, hc_84, hf⟩ := op_bind hf
        refine g_callVv (As := [.ref (a3 6), .int (q_27.2.1.1 4), .int (q_65.2.1.1 4)]) (rest := []) (w2 := (w3 cy h0 h1 h3 q_65.2.1) ++ (w4 cy h1 h2 q_65.2.2) ++ (wB cy h2 b2) ++ (w5 cy h3 a3 q_84)) ⟨hx, hb, hml, hown, hts⟩ (c_X5_tellS l D cy h3 a3 s3 _ fu (q_27.2.1.1 4) (q_65.2.1.1 4) _ hc_84) (cwV 3 hts (gi_V ml_RX3_111 im_X5_tell se_X5_tell in_RX5 cd_X5_tell) rfl rfl rfl hdX5_tell ⟨Nat.le_of_ble_eq_true rfl, Nat.le_of_ble_eq_true rfl⟩) (va_recv hK hP (ci := 5) (q0 := 3) rfl rfl) rfl hl.1 rfl (Nat.le_of_ble_eq_true rfl) dX3_readTongueSetting_84 hK hP hD hS hA [3, 4, 5, 6, 7, 8, 9, 10, 11] [0, 1, 2] [0, 1, 2, 3, 4, 5, 6, 7, 8, 9, 10, 11] rfl rfl rfl rfl (by decide) rfl rfl (fun H locs hP hD hS => ?_)
        refine lv_aload_n hx hb dX3_readTongueSetting_87 rfl (lv_at hl 2 rfl) ?_
        obtain ⟨q_88, hc_88, hf⟩ := op_bind hf
        refine g_callVi (As := []) (rest := []) (w2 := (w3 cy h0 h1 h3 q_88.2.1) ++ (w4 cy h1 h2 q_88.2.2) ++ (wB cy h2 b2) ++ (w5 cy h3 a3 q_84)) ⟨hx, hb, hml, hown, hts⟩ (c_X3_readSemicolon l D cy h0 h3 q_65.2.1 h1 q_65.2.2 h2 b2 _ fu _ hc_88) (cwV 0 hts (gi_V ml_RX3_75 im_X3_readSemicolon se_X3_readSemicolon in_RX3 cd_X3_readSemicolon) rfl rfl rfl hdX3_readSemicolon ⟨Nat.le_of_ble_eq_true rfl, Nat.le_of_ble_eq_true rfl⟩) (va_recv hK hP (ci := 3) (q0 := 0) rfl rfl) rfl hl.1 rfl (Nat.le_of_ble_eq_true rfl) dX3_readTongueSetting_88 hK hP hD hS hA [0, 1, 2] [3, 4, 5, 6, 7, 8, 9, 10, 11] [9, 10, 11, 0, 1, 2, 3, 4, 5, 6, 7, 8] rfl rfl rfl rfl (by decide) rfl rfl (fun H locs hP hD hS => ?_)
        obtain ⟨hg_91, hf⟩ := op_if hf
        rw [← Option.some.inj hf]
        exact g_zret hx hb hr hlk hg_91 hK hP hD hS dX3_readTongueSetting_91
      · have hf := op_pos c_68 hf
        refine lv_iconst (v := 0) hx hb dX3_readTongueSetting_71 (by decide) ?_
        rw [← Option.some.inj hf]
        exact g_zret hx hb hr hlk (show isB 0 = true by decide) hK hP hD hS dX3_readTongueSetting_72
    · have hf := op_neg c_51 hf
      refine lv_aload_n hx hb dX3_readTongueSetting_54 rfl (lv_at hl 2 rfl) ?_
      refine lv_iconst (v := 3) hx hb dX3_readTongueSetting_55 (by decide) ?_
      refine lv_iload hx hb dX3_readTongueSetting_56 (lv_at hl 1 rfl) ?_
      obtain ⟨q_58, hc_58, hf⟩ := op_bind hf
      refine g_callVi (As := [.int 3, .int (s1.1 2)]) (rest := []) (w2 := (w3 cy h0 h1 h3 q_58.2) ++ (w4 cy h1 h2 q_27.2.2) ++ (wB cy h2 b2) ++ (w5 cy h3 a3 s3)) ⟨hx, hb, hml, hown, hts⟩ (c_X3_fail l D cy h0 h1 h3 q_27.2.1 _ fu 3 (s1.1 2) _ hc_58) (cwV 2 hts (gi_V ml_RX3_60 im_X3_fail se_X3_fail in_RX3 cd_X3_fail) rfl rfl rfl hdX3_fail ⟨Nat.le_of_ble_eq_true rfl, Nat.le_of_ble_eq_true rfl⟩) (va_recv hK hP (ci := 3) (q0 := 0) rfl rfl) rfl hl.1 rfl (Nat.le_of_ble_eq_true rfl) dX3_readTongueSetting_58 hK hP hD hS hA [0] [1, 2, 3, 4, 5, 6, 7, 8, 9, 10, 11] [11, 0, 1, 2, 3, 4, 5, 6, 7, 8, 9, 10] rfl rfl rfl rfl (by decide) rfl rfl (fun H locs hP hD hS => ?_)
      obtain ⟨hg_61, hf⟩ := op_if hf
      rw [← Option.some.inj hf]
      exact g_zret hx hb hr hlk hg_61 hK hP hD hS dX3_readTongueSetting_61
  · have hf := op_pos c_30 hf
    refine lv_iconst (v := 0) hx hb dX3_readTongueSetting_33 (by decide) ?_
    rw [← Option.some.inj hf]
    exact g_zret hx hb hr hlk (show isB 0 = true by decide) hK hP hD hS dX3_readTongueSetting_34
def f_X3_readBeats (fu : Nat) (b2 : Nat → Int32) (s0 : St) (s1 : St) (s3 : St)  : Option (Int32 × St × St × St) := (f_X5_tellsBeats fu s3).bind (fun q_4 => if q_4 = 0 then ((f_X4_step fu b2 s1).bind (fun q_27 => (f_X3_readNumber fu b2 s0 q_27 1 8).bind (fun q_34 => if q_34.1 = 0 then (some (0, q_34.2.1, q_34.2.2, s3)) else ((f_X5_tellBeats fu s3 (q_34.2.1.1 4)).bind (fun q_50 => (f_X3_readSemicolon fu b2 q_34.2.1 q_34.2.2).bind (fun q_54 => if isB q_54.1 = true then (some (q_54.1, q_54.2.1, q_54.2.2, q_50)) else none)))))) else ((f_X3_fail fu s0 3 (s1.1 2)).bind (fun q_19 => if isB q_19.1 = true then (some (q_19.1, q_19.2, s1, s3)) else none)))
theorem hdX3_readBeats : yX3_readBeats.cls = RX3 ∧ yX3_readBeats.cls ≠ "java/lang/invoke/MethodHandle" ∧ yX3_readBeats.cls ≠ "java/lang/invoke/VarHandle" ∧ (parseMethodDescriptor yX3_readBeats.desc).map (fun d => d.parameters.length) = some 0 := by decide +kernel
set_option maxHeartbeats 4000000 in
set_option maxRecDepth 100000 in
theorem c_X3_readBeats (l : Launch) (D : va_G) (cy : Nat → ClassId) (h0 : Nat) (s0 : St) (h1 : Nat) (s1 : St) (h2 : Nat) (b2 : Nat → Int32) (h3 : Nat) (a3 : Nat → Nat) (s3 : St) (sz fu : Nat)  (out : Int32 × St × St × St) (hf : f_X3_readBeats fu b2 s0 s1 s3 = some out) :
    Met l yX3_readBeats (WS yX3_readBeats cX3_readBeats 1 (some .boolean)) ({ frames := 4, cells := 0, slots := 0, locals := 84 } : Room) (va_Pc [.ref h0] (gP D cy sz ((w3 cy h0 h1 h3 s0) ++ (w4 cy h1 h2 s1) ++ (wB cy h2 b2) ++ (w5 cy h3 a3 s3)))) ((fun A : Nat → Prop => gQi D cy A out.1 ((w3 cy h0 h1 h3 out.2.1) ++ (w4 cy h1 h2 out.2.2.1) ++ (wB cy h2 b2) ++ (w5 cy h3 a3 out.2.2.2))) (va_A ((w3 cy h0 h1 h3 s0) ++ (w4 cy h1 h2 s1) ++ (wB cy h2 b2) ++ (w5 cy h3 a3 s3)) sz)) 0 0 (va_A ((w3 cy h0 h1 h3 s0) ++ (w4 cy h1 h2 s1) ++ (wB cy h2 b2) ++ (w5 cy h3 a3 s3)) sz) := by
  refine g_met (cc := cX3_readBeats) (maxL := 1) (ret := (some .boolean)) (fun A : Nat → Prop => gQi D cy A out.1 ((w3 cy h0 h1 h3 out.2.1) ++ (w4 cy h1 h2 out.2.2.1) ++ (wB cy h2 b2) ++ (w5 cy h3 a3 out.2.2.2))) (by decide +kernel) rfl (Nat.le_of_ble_eq_true rfl) ?_
  intro p e s m below meth c A C hA hK hP hD ls hl
  obtain ⟨hx, hb, hr, hml, hown, hts, hlk⟩ := id C
  have hown : s.vm.findClass RX3 = some m.cls := hown
  have hS : va_S A s.heap s.heap [] := va_S.rf
  have hl : lv_has ls 1 [(0, .ref h0)] := hl
  have hk_15 := hts _ (List.mem_cons_of_mem _ fl_RX3_15)
  have hk_24 := hts _ (List.mem_cons_of_mem _ fl_RX3_24)
  have hk_70 := hts _ (List.mem_cons_of_mem _ fl_RX3_70)
  have hk_57 := hts _ (List.mem_cons_of_mem _ fl_RX3_57)
  unfold f_X3_readBeats at hf
  refine lv_aload_n hx hb dX3_readBeats_0 rfl (lv_at hl 0 rfl) ?_
  refine va_get (ci := 3) (v := .ref h3) (C := RX3) (T := TX3) (N := 6) hx hb hts (fun w h => List.mem_cons_of_mem _ (inX3 w h)) hown hK hP 0 rfl rfl 3 (by decide) hk_15 (fun _ h9 => h9) rfl dX3_readBeats_1 ?_
  obtain ⟨q_4, hc_4, hf⟩ := op_bind hf
  refine g_callVi (As := []) (rest := []) (w2 := (w3 cy h0 h1 h3 s0) ++ (w4 cy h1 h2 s1) ++ (wB cy h2 b2) ++ (w5 cy h3 a3 s3)) ⟨hx, hb, hml, hown, hts⟩ (c_X5_tellsBeats l D cy h3 a3 s3 _ fu _ hc_4) (cwV 0 hts (gi_V ml_RX3_115 im_X5_tellsBeats se_X5_tellsBeats in_RX5 cd_X5_tellsBeats) rfl rfl rfl hdX5_tellsBeats ⟨Nat.le_of_ble_eq_true rfl, Nat.le_of_ble_eq_true rfl⟩) (va_recv hK hP (ci := 5) (q0 := 3) rfl rfl) rfl hl.1 rfl (Nat.le_of_ble_eq_true rfl) dX3_readBeats_4 hK hP hD hS hA [3, 4, 5, 6, 7, 8, 9, 10, 11] [0, 1, 2] [0, 1, 2, 3, 4, 5, 6, 7, 8, 9, 10, 11] rfl rfl rfl rfl (by decide) rfl rfl (fun H locs hP hD hS => ?_)
  refine lv_if_eq (tgt := 23) hx hb dX3_readBeats_7 (by decide) (fun c_7 => ?_) (fun c_7 => ?_)
  · have hf := op_pos c_7 hf
    refine lv_aload_n hx hb dX3_readBeats_23 rfl (lv_at hl 0 rfl) ?_
    refine va_get (ci := 3) (v := .ref h1) (C := RX3) (T := TX3) (N := 6) hx hb hts (fun w h => List.mem_cons_of_mem _ (inX3 w h)) hown hK hP 0 rfl rfl 2 (by decide) hk_24 (fun _ h9 => h9) rfl dX3_readBeats_24 ?_
    obtain ⟨q_27, hc_27, hf⟩ := op_bind hf
    refine g_callVv (As := []) (rest := []) (w2 := (w3 cy h0 h1 h3 s0) ++ (w4 cy h1 h2 q_27) ++ (wB cy h2 b2) ++ (w5 cy h3 a3 s3)) ⟨hx, hb, hml, hown, hts⟩ (c_X4_step l D cy h1 s1 h2 b2 _ fu _ hc_27) (cwV 0 hts (gi_V ml_RX3_64 im_X4_step se_X4_step in_RX4 cd_X4_step) rfl rfl rfl hdX4_step ⟨Nat.le_of_ble_eq_true rfl, Nat.le_of_ble_eq_true rfl⟩) (va_recv hK hP (ci := 4) (q0 := 1) rfl rfl) rfl hl.1 rfl (Nat.le_of_ble_eq_true rfl) dX3_readBeats_27 hK hP hD hS hA [1, 2] [0, 3, 4, 5, 6, 7, 8, 9, 10, 11] [0, 10, 11, 1, 2, 3, 4, 5, 6, 7, 8, 9] rfl rfl rfl rfl (by decide) rfl rfl (fun H locs hP hD hS => ?_)
    refine lv_aload_n hx hb dX3_readBeats_30 rfl (lv_at hl 0 rfl) ?_
    refine lv_iconst (v := 1) hx hb dX3_readBeats_31 (by decide) ?_
    refine lv_bipush (v := 8) hx hb dX3_readBeats_32 (by decide) ?_
    obtain ⟨q_34, hc_34, hf⟩ := op_bind hf
    refine g_callVi (As := [.int 1, .int 8]) (rest := []) (w2 := (w3 cy h0 h1 h3 q_34.2.1) ++ (w4 cy h1 h2 q_34.2.2) ++ (wB cy h2 b2) ++ (w5 cy h3 a3 s3)) ⟨hx, hb, hml, hown, hts⟩ (c_X3_readNumber l D cy h0 h3 s0 h1 q_27 h2 b2 _ fu 1 8 _ hc_34) (cwV 2 hts (gi_V ml_RX3_67 im_X3_readNumber se_X3_readNumber in_RX3 cd_X3_readNumber) rfl rfl rfl hdX3_readNumber ⟨Nat.le_of_ble_eq_true rfl, Nat.le_of_ble_eq_true rfl⟩) (va_recv hK hP (ci := 3) (q0 := 0) rfl rfl) rfl hl.1 rfl (Nat.le_of_ble_eq_true rfl) dX3_readBeats_34 hK hP hD hS hA [0, 1, 2] [3, 4, 5, 6, 7, 8, 9, 10, 11] [9, 10, 11, 0, 1, 2, 3, 4, 5, 6, 7, 8] rfl rfl rfl rfl (by decide) rfl rfl (fun H locs hP hD hS => ?_)
    refine lv_if_ne (tgt := 42) hx hb dX3_readBeats_37 (by decide) (fun c_37 => ?_) (fun c_37 => ?_)
    · have hf := op_neg c_37 hf
      refine lv_aload_n hx hb dX3_readBeats_42 rfl (lv_at hl 0 rfl) ?_
      refine va_get (ci := 3) (v := .ref h3) (C := RX3) (T := TX3) (N := 6) hx hb hts (fun w h => List.mem_cons_of_mem _ (inX3 w h)) hown hK hP 0 rfl rfl 3 (by decide) hk_15 (fun _ h9 => h9) rfl dX3_readBeats_43 ?_
      refine lv_aload_n hx hb dX3_readBeats_46 rfl (lv_at hl 0 rfl) ?_
      refine va_get (ci := 3) (v := .int (q_34.2.1.1 4)) (C := RX3) (T := TX3) (N := 6) hx hb hts (fun w h => List.mem_cons_of_mem _ (inX3 w h)) hown hK hP 0 rfl rfl 4 (by decide) hk_70 (fun _ h9 => h9) rfl dX3_readBeats_47 ?_
      obtain ⟨q_50, hc_50, hf⟩ := op_bind hf
      refine g_callVv (As := [.int (q_34.2.1.1 4)]) (rest := []) (w2 := (w3 cy h0 h1 h3 q_34.2.1) ++ (w4 cy h1 h2 q_34.2.2) ++ (wB cy h2 b2) ++ (w5 cy h3 a3 q_50)) ⟨hx, hb, hml, hown, hts⟩ (c_X5_tellBeats l D cy h3 a3 s3 _ fu (q_34.2.1.1 4) _ hc_50) (cwV 1 hts (gi_V ml_RX3_118 im_X5_tellBeats se_X5_tellBeats in_RX5 cd_X5_tellBeats) rfl rfl rfl hdX5_tellBeats ⟨Nat.le_of_ble_eq_true rfl, Nat.le_of_ble_eq_true rfl⟩) (va_recv hK hP (ci := 5) (q0 := 3) rfl rfl) rfl hl.1 rfl (Nat.le_of_ble_eq_true rfl) dX3_readBeats_50 hK hP hD hS hA [3, 4, 5, 6, 7, 8, 9, 10, 11] [0, 1, 2] [0, 1, 2, 3, 4, 5, 6, 7, 8, 9, 10, 11] rfl rfl rfl rfl (by decide) rfl rfl (fun H locs hP hD hS => ?_)
      refine lv_aload_n hx hb dX3_readBeats_53 rfl (lv_at hl 0 rfl) ?_
      obtain ⟨q_54, hc_54, hf⟩ := op_bind hf
      refine g_callVi (As := []) (rest := []) (w2 := (w3 cy h0 h1 h3 q_54.2.1) ++ (w4 cy h1 h2 q_54.2.2) ++ (wB cy h2 b2) ++ (w5 cy h3 a3 q_50)) ⟨hx, hb, hml, hown, hts⟩ (c_X3_readSemicolon l D cy h0 h3 q_34.2.1 h1 q_34.2.2 h2 b2 _ fu _ hc_54) (cwV 0 hts (gi_V ml_RX3_75 im_X3_readSemicolon se_X3_readSemicolon in_RX3 cd_X3_readSemicolon) rfl rfl rfl hdX3_readSemicolon ⟨Nat.le_of_ble_eq_true rfl, Nat.le_of_ble_eq_true rfl⟩) (va_recv hK hP (ci := 3) (q0 := 0) rfl rfl) rfl hl.1 rfl (Nat.le_of_ble_eq_true rfl) dX3_readBeats_54 hK hP hD hS hA [0, 1, 2] [3, 4, 5, 6, 7, 8, 9, 10, 11] [9, 10, 11, 0, 1, 2, 3, 4, 5, 6, 7, 8] rfl rfl rfl rfl (by decide) rfl rfl (fun H locs hP hD hS => ?_)
      obtain ⟨hg_57, hf⟩ := op_if hf
      rw [← Option.some.inj hf]
      exact g_zret hx hb hr hlk hg_57 hK hP hD hS dX3_readBeats_57
    · have hf := op_pos c_37 hf
      refine lv_iconst (v := 0) hx hb dX3_readBeats_40 (by decide) ?_
      rw [← Option.some.inj hf]
      exact g_zret hx hb hr hlk (show isB 0 = true by decide) hK hP hD hS dX3_readBeats_41
  · have hf := op_neg c_7 hf
    refine lv_aload_n hx hb dX3_readBeats_10 rfl (lv_at hl 0 rfl) ?_
    refine lv_iconst (v := 3) hx hb dX3_readBeats_11 (by decide) ?_
    refine lv_aload_n hx hb dX3_readBeats_12 rfl (lv_at hl 0 rfl) ?_
    refine va_get (ci := 3) (v := .ref h1) (C := RX3) (T := TX3) (N := 6) hx hb hts (fun w h => List.mem_cons_of_mem _ (inX3 w h)) hown hK hP 0 rfl rfl 2 (by decide) hk_24 (fun _ h9 => h9) rfl dX3_readBeats_13 ?_
    refine va_get (ci := 4) (v := .int (s1.1 2)) (C := RX4) (T := TX4) (N := 6) hx hb hts (fun w h => List.mem_cons_of_mem _ (inX4 w h)) hown hK hP 1 rfl rfl 2 (by decide) hk_57 (fun _ h9 => h9) rfl dX3_readBeats_16 ?_
    obtain ⟨q_19, hc_19, hf⟩ := op_bind hf
    refine g_callVi (As := [.int 3, .int (s1.1 2)]) (rest := []) (w2 := (w3 cy h0 h1 h3 q_19.2) ++ (w4 cy h1 h2 s1) ++ (wB cy h2 b2) ++ (w5 cy h3 a3 s3)) ⟨hx, hb, hml, hown, hts⟩ (c_X3_fail l D cy h0 h1 h3 s0 _ fu 3 (s1.1 2) _ hc_19) (cwV 2 hts (gi_V ml_RX3_60 im_X3_fail se_X3_fail in_RX3 cd_X3_fail) rfl rfl rfl hdX3_fail ⟨Nat.le_of_ble_eq_true rfl, Nat.le_of_ble_eq_true rfl⟩) (va_recv hK hP (ci := 3) (q0 := 0) rfl rfl) rfl hl.1 rfl (Nat.le_of_ble_eq_true rfl) dX3_readBeats_19 hK hP hD hS hA [0] [1, 2, 3, 4, 5, 6, 7, 8, 9, 10, 11] [11, 0, 1, 2, 3, 4, 5, 6, 7, 8, 9, 10] rfl rfl rfl rfl (by decide) rfl rfl (fun H locs hP hD hS => ?_)
    obtain ⟨hg_22, hf⟩ := op_if hf
    rw [← Option.some.inj hf]
    exact g_zret hx hb hr hlk hg_22 hK hP hD hS dX3_readBeats_22
def f_X3_readMark (fu : Nat) (b2 : Nat → Int32) (s0 : St) (s1 : St) (s3 : St)  : Option (Int32 × St × St × St) := (f_X5_isFullOfMarks fu s3).bind (fun q_4 => if q_4 = 0 then ((f_X4_step fu b2 s1).bind (fun q_27 => (f_X3_readNumber fu b2 s0 q_27 1 999).bind (fun q_35 => if q_35.1 = 0 then (some (0, q_35.2.1, q_35.2.2, s3)) else ((f_X5_latestBar fu s3).bind (fun q_51 => if q_51 < (q_35.2.1.1 4) then ((f_X5_addMark fu s3 (q_35.2.1.1 4)).bind (fun q_75 => some (1, q_35.2.1, q_35.2.2, q_75))) else ((f_X3_fail fu q_35.2.1 3 (q_35.2.1.1 5)).bind (fun q_63 => if isB q_63.1 = true then (some (q_63.1, q_63.2, q_35.2.2, s3)) else none))))))) else ((f_X3_fail fu s0 2 (s1.1 2)).bind (fun q_19 => if isB q_19.1 = true then (some (q_19.1, q_19.2, s1, s3)) else none)))
theorem hdX3_readMark : yX3_readMark.cls = RX3 ∧ yX3_readMark.cls ≠ "java/lang/invoke/MethodHandle" ∧ yX3_readMark.cls ≠ "java/lang/invoke/VarHandle" ∧ (parseMethodDescriptor yX3_readMark.desc).map (fun d => d.parameters.length) = some 0 := by decide +kernel
set_option maxHeartbeats 4000000 in
set_option maxRecDepth 100000 in
theorem c_X3_readMark (l : Launch) (D : va_G) (cy : Nat → ClassId) (h0 : Nat) (s0 : St) (h1 : Nat) (s1 : St) (h2 : Nat) (b2 : Nat → Int32) (h3 : Nat) (a3 : Nat → Nat) (s3 : St) (sz fu : Nat)  (out : Int32 × St × St × St) (hf : f_X3_readMark fu b2 s0 s1 s3 = some out) :
    Met l yX3_readMark (WS yX3_readMark cX3_readMark 1 (some .boolean)) ({ frames := 4, cells := 0, slots := 0, locals := 84 } : Room) (va_Pc [.ref h0] (gP D cy sz ((w3 cy h0 h1 h3 s0) ++ (w4 cy h1 h2 s1) ++ (wB cy h2 b2) ++ (w5 cy h3 a3 s3)))) ((fun A : Nat → Prop => gQi D cy A out.1 ((w3 cy h0 h1 h3 out.2.1) ++ (w4 cy h1 h2 out.2.2.1) ++ (wB cy h2 b2) ++ (w5 cy h3 a3 out.2.2.2))) (va_A ((w3 cy h0 h1 h3 s0) ++ (w4 cy h1 h2 s1) ++ (wB cy h2 b2) ++ (w5 cy h3 a3 s3)) sz)) 0 0 (va_A ((w3 cy h0 h1 h3 s0) ++ (w4 cy h1 h2 s1) ++ (wB cy h2 b2) ++ (w5 cy h3 a3 s3)) sz) := by
  refine g_met (cc := cX3_readMark) (maxL := 1) (ret := (some .boolean)) (fun A : Nat → Prop => gQi D cy A out.1 ((w3 cy h0 h1 h3 out.2.1) ++ (w4 cy h1 h2 out.2.2.1) ++ (wB cy h2 b2) ++ (w5 cy h3 a3 out.2.2.2))) (by decide +kernel) rfl (Nat.le_of_ble_eq_true rfl) ?_
  intro p e s m below meth c A C hA hK hP hD ls hl
  obtain ⟨hx, hb, hr, hml, hown, hts, hlk⟩ := id C
  have hown : s.vm.findClass RX3 = some m.cls := hown
  have hS : va_S A s.heap s.heap [] := va_S.rf
  have hl : lv_has ls 1 [(0, .ref h0)] := hl
  have hk_15 := hts _ (List.mem_cons_of_mem _ fl_RX3_15)
  have hk_24 := hts _ (List.mem_cons_of_mem _ fl_RX3_24)
  have hk_70 := hts _ (List.mem_cons_of_mem _ fl_RX3_70)
  have hk_84 := hts _ (List.mem_cons_of_mem _ fl_RX3_84)
  have hk_57 := hts _ (List.mem_cons_of_mem _ fl_RX3_57)
  unfold f_X3_readMark at hf
  refine lv_aload_n hx hb dX3_readMark_0 rfl (lv_at hl 0 rfl) ?_
  refine va_get (ci := 3) (v := .ref h3) (C := RX3) (T := TX3) (N := 6) hx hb hts (fun w h => List.mem_cons_of_mem _ (inX3 w h)) hown hK hP 0 rfl rfl 3 (by decide) hk_15 (fun _ h9 => h9) rfl dX3_readMark_1 ?_
  obtain ⟨q_4, hc_4, hf⟩ := op_bind hf
  refine g_callVi (As := []) (rest := []) (w2 := (w3 cy h0 h1 h3 s0) ++ (w4 cy h1 h2 s1) ++ (wB cy h2 b2) ++ (w5 cy h3 a3 s3)) ⟨hx, hb, hml, hown, hts⟩ (c_X5_isFullOfMarks l D cy h3 a3 s3 _ fu _ hc_4) (cwV 0 hts (gi_V ml_RX3_140 im_X5_isFullOfMarks se_X5_isFullOfMarks in_RX5 cd_X5_isFullOfMarks) rfl rfl rfl hdX5_isFullOfMarks ⟨Nat.le_of_ble_eq_true rfl, Nat.le_of_ble_eq_true rfl⟩) (va_recv hK hP (ci := 5) (q0 := 3) rfl rfl) rfl hl.1 rfl (Nat.le_of_ble_eq_true rfl) dX3_readMark_4 hK hP hD hS hA [3, 4, 5, 6, 7, 8, 9, 10, 11] [0, 1, 2] [0, 1, 2, 3, 4, 5, 6, 7, 8, 9, 10, 11] rfl rfl rfl rfl (by decide) rfl rfl (fun H locs hP hD hS => ?_)
  refine lv_if_eq (tgt := 23) hx hb dX3_readMark_7 (by decide) (fun c_7 => ?_) (fun c_7 => ?_)
  · have hf := op_pos c_7 hf
    refine lv_aload_n hx hb dX3_readMark_23 rfl (lv_at hl 0 rfl) ?_
    refine va_get (ci := 3) (v := .ref h1) (C := RX3) (T := TX3) (N := 6) hx hb hts (fun w h => List.mem_cons_of_mem _ (inX3 w h)) hown hK hP 0 rfl rfl 2 (by decide) hk_24 (fun _ h9 => h9) rfl dX3_readMark_24 ?_
    obtain ⟨q_27, hc_27, hf⟩ := op_bind hf
    refine g_callVv (As := []) (rest := []) (w2 := (w3 cy h0 h1 h3 s0) ++ (w4 cy h1 h2 q_27) ++ (wB cy h2 b2) ++ (w5 cy h3 a3 s3)) ⟨hx, hb, hml, hown, hts⟩ (c_X4_step l D cy h1 s1 h2 b2 _ fu _ hc_27) (cwV 0 hts (gi_V ml_RX3_64 im_X4_step se_X4_step in_RX4 cd_X4_step) rfl rfl rfl hdX4_step ⟨Nat.le_of_ble_eq_true rfl, Nat.le_of_ble_eq_true rfl⟩) (va_recv hK hP (ci := 4) (q0 := 1) rfl rfl) rfl hl.1 rfl (Nat.le_of_ble_eq_true rfl) dX3_readMark_27 hK hP hD hS hA [1, 2] [0, 3, 4, 5, 6, 7, 8, 9, 10, 11] [0, 10, 11, 1, 2, 3, 4, 5, 6, 7, 8, 9] rfl rfl rfl rfl (by decide) rfl rfl (fun H locs hP hD hS => ?_)
    refine lv_aload_n hx hb dX3_readMark_30 rfl (lv_at hl 0 rfl) ?_
    refine lv_iconst (v := 1) hx hb dX3_readMark_31 (by decide) ?_
    refine lv_sipush (v := 999) hx hb dX3_readMark_32 (by decide) ?_
    obtain ⟨q_35, hc_35, hf⟩ := op_bind hf
    refine g_callVi (As := [.int 1, .int 999]) (rest := []) (w2 := (w3 cy h0 h1 h3 q_35.2.1) ++ (w4 cy h1 h2 q_35.2.2) ++ (wB cy h2 b2) ++ (w5 cy h3 a3 s3)) ⟨hx, hb, hml, hown, hts⟩ (c_X3_readNumber l D cy h0 h3 s0 h1 q_27 h2 b2 _ fu 1 999 _ hc_35) (cwV 2 hts (gi_V ml_RX3_67 im_X3_readNumber se_X3_readNumber in_RX3 cd_X3_readNumber) rfl rfl rfl hdX3_readNumber ⟨Nat.le_of_ble_eq_true rfl, Nat.le_of_ble_eq_true rfl⟩) (va_recv hK hP (ci := 3) (q0 := 0) rfl rfl) rfl hl.1 rfl (Nat.le_of_ble_eq_true rfl) dX3_readMark_35 hK hP hD hS hA [0, 1, 2] [3, 4, 5, 6, 7, 8, 9, 10, 11] [9, 10, 11, 0, 1, 2, 3, 4, 5, 6, 7, 8] rfl rfl rfl rfl (by decide) rfl rfl (fun H locs hP hD hS => ?_)
    refine lv_if_ne (tgt := 43) hx hb dX3_readMark_38 (by decide) (fun c_38 => ?_) (fun c_38 => ?_)
    · have hf := op_neg c_38 hf
      refine lv_aload_n hx hb dX3_readMark_43 rfl (lv_at hl 0 rfl) ?_
      refine va_get (ci := 3) (v := .int (q_35.2.1.1 4)) (C := RX3) (T := TX3) (N := 6) hx hb hts (fun w h => List.mem_cons_of_mem _ (inX3 w h)) hown hK hP 0 rfl rfl 4 (by decide) hk_70 (fun _ h9 => h9) rfl dX3_readMark_44 ?_
      refine lv_aload_n hx hb dX3_readMark_47 rfl (lv_at hl 0 rfl) ?_
      refine va_get (ci := 3) (v := .ref h3) (C := RX3) (T := TX3) (N := 6) hx hb hts (fun w h => List.mem_cons_of_mem _ (inX3 w h)) hown hK hP 0 rfl rfl 3 (by decide) hk_15 (fun _ h9 => h9) rfl dX3_readMark_48 ?_
      obtain ⟨q_51, hc_51, hf⟩ := op_bind hf
      refine g_callVi (As := []) (rest := [.int (q_35.2.1.1 4)]) (w2 := (w3 cy h0 h1 h3 q_35.2.1) ++ (w4 cy h1 h2 q_35.2.2) ++ (wB cy h2 b2) ++ (w5 cy h3 a3 s3)) ⟨hx, hb, hml, hown, hts⟩ (c_X5_latestBar l D cy h3 a3 s3 _ fu _ hc_51) (cwV 0 hts (gi_V ml_RX3_143 im_X5_latestBar se_X5_latestBar in_RX5 cd_X5_latestBar) rfl rfl rfl hdX5_latestBar ⟨Nat.le_of_ble_eq_true rfl, Nat.le_of_ble_eq_true rfl⟩) (va_recv hK hP (ci := 5) (q0 := 3) rfl rfl) rfl hl.1 rfl (Nat.le_of_ble_eq_true rfl) dX3_readMark_51 hK hP hD hS hA [3, 4, 5, 6, 7, 8, 9, 10, 11] [0, 1, 2] [0, 1, 2, 3, 4, 5, 6, 7, 8, 9, 10, 11] rfl rfl rfl rfl (by decide) rfl rfl (fun H locs hP hD hS => ?_)
      refine lv_icmp_gt (tgt := 67) hx hb dX3_readMark_54 (by decide) (fun c_54 => ?_) (fun c_54 => ?_)
      · have hf := op_pos c_54 hf
        refine lv_aload_n hx hb dX3_readMark_67 rfl (lv_at hl 0 rfl) ?_
        refine va_get (ci := 3) (v := .ref h3) (C := RX3) (T := TX3) (N := 6) hx hb hts (fun w h => List.mem_cons_of_mem _ (inX3 w h)) hown hK hP 0 rfl rfl 3 (by decide) hk_15 (fun _ h9 => h9) rfl dX3_readMark_68 ?_
        refine lv_aload_n hx hb dX3_readMark_71 rfl (lv_at hl 0 rfl) ?_
        refine va_get (ci := 3) (v := .int (q_35.2.1.1 4)) (C := RX3) (T := TX3) (N := 6) hx hb hts (fun w h => List.mem_cons_of_mem _ (inX3 w h)) hown hK hP 0 rfl rfl 4 (by decide) hk_70 (fun _ h9 => h9) rfl dX3_readMark_72 ?_
        obtain ⟨q_75, hc_75, hf⟩ := op_bind hf
        refine g_callVv (As := [.int (q_35.2.1.1 4)]) (rest := []) (w2 := (w3 cy h0 h1 h3 q_35.2.1) ++ (w4 cy h1 h2 q_35.2.2) ++ (wB cy h2 b2) ++ (w5 cy h3 a3 q_75)) ⟨hx, hb, hml, hown, hts⟩ (c_X5_addMark l D cy h3 a3 s3 _ fu (q_35.2.1.1 4) _ hc_75) (cwV 1 hts (gi_V ml_RX3_147 im_X5_addMark se_X5_addMark in_RX5 cd_X5_addMark) rfl rfl rfl hdX5_addMark ⟨Nat.le_of_ble_eq_true rfl, Nat.le_of_ble_eq_true rfl⟩) (va_recv hK hP (ci := 5) (q0 := 3) rfl rfl) rfl hl.1 rfl (Nat.le_of_ble_eq_true rfl) dX3_readMark_75 hK hP hD hS hA [3, 4, 5, 6, 7, 8, 9, 10, 11] [0, 1, 2] [0, 1, 2, 3, 4, 5, 6, 7, 8, 9, 10, 11] rfl rfl rfl rfl (by decide) rfl rfl (fun H locs hP hD hS => ?_)
        refine lv_iconst (v := 1) hx hb dX3_readMark_78 (by decide) ?_
        rw [← Option.some.inj hf]
        exact g_zret hx hb hr hlk (show isB 1 = true by decide) hK hP hD hS dX3_readMark_79
      · have hf := op_neg c_54 hf
        refine lv_aload_n hx hb dX3_readMark_57 rfl (lv_at hl 0 rfl) ?_
        refine lv_iconst (v := 3) hx hb dX3_readMark_58 (by decide) ?_
        refine lv_aload_n hx hb dX3_readMark_59 rfl (lv_at hl 0 rfl) ?_
        refine va_get (ci := 3) (v := .int (q_35.2.1.1 5)) (C := RX3) (T := TX3) (N := 6) hx hb hts (fun w h => List.mem_cons_of_mem _ (inX3 w h)) hown hK hP 0 rfl rfl 5 (by decide) hk_84 (fun _ h9 => h9) rfl dX3_readMark_60 ?_
        obtain ⟨q_63, hc_63, hf⟩ := op_bind hf
        refine g_callVi (As := [.int 3, .int (q_35.2.1.1 5)]) (rest := []) (w2 := (w3 cy h0 h1 h3 q_63.2) ++ (w4 cy h1 h2 q_35.2.2) ++ (wB cy h2 b2) ++ (w5 cy h3 a3 s3)) ⟨hx, hb, hml, hown, hts⟩ (c_X3_fail l D cy h0 h1 h3 q_35.2.1 _ fu 3 (q_35.2.1.1 5) _ hc_63) (cwV 2 hts (gi_V ml_RX3_60 im_X3_fail se_X3_fail in_RX3 cd_X3_fail) rfl rfl rfl hdX3_fail ⟨Nat.le_of_ble_eq_true rfl, Nat.le_of_ble_eq_true rfl⟩) (va_recv hK hP (ci := 3) (q0 := 0) rfl rfl) rfl hl.1 rfl (Nat.le_of_ble_eq_true rfl) dX3_readMark_63 hK hP hD hS hA [0] [1, 2, 3, 4, 5, 6, 7, 8, 9, 10, 11] [11, 0, 1, 2, 3, 4, 5, 6, 7, 8, 9, 10] rfl rfl rfl rfl (by decide) rfl rfl (fun H locs hP hD hS => ?_)
        obtain ⟨hg_66, hf⟩ := op_if hf
        rw [← Option.some.inj hf]
        exact g_zret hx hb hr hlk hg_66 hK hP hD hS dX3_readMark_66
    · have hf := op_pos c_38 hf
      refine lv_iconst (v := 0) hx hb dX3_readMark_41 (by decide) ?_
      rw [← Option.some.inj hf]
      exact g_zret hx hb hr hlk (show isB 0 = true by decide) hK hP hD hS dX3_readMark_42
  · have hf := op_neg c_7 hf
    refine lv_aload_n hx hb dX3_readMark_10 rfl (lv_at hl 0 rfl) ?_
    refine lv_iconst (v := 2) hx hb dX3_readMark_11 (by decide) ?_
    refine lv_aload_n hx hb dX3_readMark_12 rfl (lv_at hl 0 rfl) ?_
    refine va_get (ci := 3) (v := .ref h1) (C := RX3) (T := TX3) (N := 6) hx hb hts (fun w h => List.mem_cons_of_mem _ (inX3 w h)) hown hK hP 0 rfl rfl 2 (by decide) hk_24 (fun _ h9 => h9) rfl dX3_readMark_13 ?_
    refine va_get (ci := 4) (v := .int (s1.1 2)) (C := RX4) (T := TX4) (N := 6) hx hb hts (fun w h => List.mem_cons_of_mem _ (inX4 w h)) hown hK hP 1 rfl rfl 2 (by decide) hk_57 (fun _ h9 => h9) rfl dX3_readMark_16 ?_
    obtain ⟨q_19, hc_19, hf⟩ := op_bind hf
    refine g_callVi (As := [.int 2, .int (s1.1 2)]) (rest := []) (w2 := (w3 cy h0 h1 h3 q_19.2) ++ (w4 cy h1 h2 s1) ++ (wB cy h2 b2) ++ (w5 cy h3 a3 s3)) ⟨hx, hb, hml, hown, hts⟩ (c_X3_fail l D cy h0 h1 h3 s0 _ fu 2 (s1.1 2) _ hc_19) (cwV 2 hts (gi_V ml_RX3_60 im_X3_fail se_X3_fail in_RX3 cd_X3_fail) rfl rfl rfl hdX3_fail ⟨Nat.le_of_ble_eq_true rfl, Nat.le_of_ble_eq_true rfl⟩) (va_recv hK hP (ci := 3) (q0 := 0) rfl rfl) rfl hl.1 rfl (Nat.le_of_ble_eq_true rfl) dX3_readMark_19 hK hP hD hS hA [0] [1, 2, 3, 4, 5, 6, 7, 8, 9, 10, 11] [11, 0, 1, 2, 3, 4, 5, 6, 7, 8, 9, 10] rfl rfl rfl rfl (by decide) rfl rfl (fun H locs hP hD hS => ?_)
    obtain ⟨hg_22, hf⟩ := op_if hf
    rw [← Option.some.inj hf]
    exact g_zret hx hb hr hlk hg_22 hK hP hD hS dX3_readMark_22
def f_X3_readFurtherString_L86  (fu : Nat) (b2 : Nat → Int32) (u0 : St) (u1 : St) (u3 : St) : Option (Int32 × St × St × St) := (f_X4_step fu b2 u1).bind (fun q_90 => some (1, u0, q_90, u3))
set_option maxHeartbeats 4000000 in
set_option maxRecDepth 100000 in
theorem b_X3_readFurtherString_L86 {p : Program} {e : Env} {s : State} {m : MethodId} {args : Array Value} {below : List Frame} {meth : Method} {c : Code} {A : Nat → Prop} (l : Launch) (D : va_G) (cy : Nat → ClassId) (h0 : Nat) (h1 : Nat) (h2 : Nat) (b2 : Nat → Int32) (h3 : Nat) (a3 : Nat → Nat) (fu : Nat) (out : Int32 × St × St × St) (C : gC p s m args meth c (WS yX3_readFurtherString cX3_readFurtherString 4 (some .boolean)) cX3_readFurtherString 4 (some .boolean) RX3) (hA : ∀ q : Nat, s.heap.size ≤ q → A q) (hK : va_K D vwCl (TY cy) s)  :
    ∀ (u0 : St) (u1 : St) (u3 : St), f_X3_readFurtherString_L86 fu b2 u0 u1 u3 = some out → ∀ (H : Heap) (locs : List Loc) (ls : Array Slot), va_P D vwCl ((w3 cy h0 h1 h3 u0) ++ (w4 cy h1 h2 u1) ++ (wB cy h2 b2) ++ (w5 cy h3 a3 u3)) H → va_D A ((w3 cy h0 h1 h3 u0) ++ (w4 cy h1 h2 u1) ++ (wB cy h2 b2) ++ (w5 cy h3 a3 u3)) → va_S A s.heap H locs → lv_has ls 4 [(0, .ref h0)] → W p l e ({ frames := 3, cells := 0, slots := 0, locals := 62 } : Room) s m args below meth c H locs 0 0 (MQ below (gQi D cy A out.1 ((w3 cy h0 h1 h3 out.2.1) ++ (w4 cy h1 h2 out.2.2.1) ++ (wB cy h2 b2) ++ (w5 cy h3 a3 out.2.2.2))) args s 0 0 A) (F0 m 86 ls []) := by
  obtain ⟨hx, hb, hr, hml, hown, hts, hlk⟩ := id C
  have hown : s.vm.findClass RX3 = some m.cls := hown
  have hk_24 := hts _ (List.mem_cons_of_mem _ fl_RX3_24)
  intro u0 u1 u3 hf H locs ls hP hD hS hl
  unfold f_X3_readFurtherString_L86 at hf
  refine lv_aload_n hx hb dX3_readFurtherString_86 rfl (lv_at hl 0 rfl) ?_
  refine va_get (ci := 3) (v := .ref h1) (C := RX3) (T := TX3) (N := 6) hx hb hts (fun w h => List.mem_cons_of_mem _ (inX3 w h)) hown hK hP 0 rfl rfl 2 (by decide) hk_24 (fun _ h9 => h9) rfl dX3_readFurtherString_87 ?_
  obtain ⟨q_90, hc_90, hf⟩ := op_bind hf
  refine g_callVv (As := []) (rest := []) (w2 := (w3 cy h0 h1 h3 u0) ++ (w4 cy h1 h2 q_90) ++ (wB cy h2 b2) ++ (w5 cy h3 a3 u3)) ⟨hx, hb, hml, hown, hts⟩ (c_X4_step l D cy h1 u1 h2 b2 _ fu _ hc_90) (cwV 0 hts (gi_V ml_RX3_64 im_X4_step se_X4_step in_RX4 cd_X4_step) rfl rfl rfl hdX4_step ⟨Nat.le_of_ble_eq_true rfl, Nat.le_of_ble_eq_true rfl⟩) (va_recv hK hP (ci := 4) (q0 := 1) rfl rfl) rfl hl.1 rfl (Nat.le_of_ble_eq_true rfl) dX3_readFurtherString_90 hK hP hD hS hA [1, 2] [0, 3, 4, 5, 6, 7, 8, 9, 10, 11] [0, 10, 11, 1, 2, 3, 4, 5, 6, 7, 8, 9] rfl rfl rfl rfl (by decide) rfl rfl (fun H locs hP hD hS => ?_)
  refine lv_iconst (v := 1) hx hb dX3_readFurtherString_93 (by decide) ?_
  rw [← Option.some.inj hf]
  exact g_zret hx hb hr hlk (show isB 1 = true by decide) hK hP hD hS dX3_readFurtherString_94
def f_X3_readFurtherString_L48  (fu : Nat) (b2 : Nat → Int32) (u0 : St) (u1 : St) (u3 : St) (x1 : Int32) (x2 : Int32) (x3 : Int32) : Option (Int32 × St × St × St) := (f_X5_hasTongue fu u3 x1).bind (fun q_53 => if q_53 = 0 then ((f_X3_fail fu u0 2 (u1.1 2)).bind (fun q_68 => if isB q_68.1 = true then (some (q_68.1, q_68.2, u1, u3)) else none)) else (if x3 ≤ 0 then (f_X3_readFurtherString_L86 fu b2 u0 u1 u3) else ((f_X5_setString fu u3 x1 x2 x3).bind (fun q_83 => f_X3_readFurtherString_L86 fu b2 u0 u1 q_83))))
set_option maxHeartbeats 4000000 in
set_option maxRecDepth 100000 in
theorem b_X3_readFurtherString_L48 {p : Program} {e : Env} {s : State} {m : MethodId} {args : Array Value} {below : List Frame} {meth : Method} {c : Code} {A : Nat → Prop} (l : Launch) (D : va_G) (cy : Nat → ClassId) (h0 : Nat) (h1 : Nat) (h2 : Nat) (b2 : Nat → Int32) (h3 : Nat) (a3 : Nat → Nat) (fu : Nat) (out : Int32 × St × St × St) (C : gC p s m args meth c (WS yX3_readFurtherString cX3_readFurtherString 4 (some .boolean)) cX3_readFurtherString 4 (some .boolean) RX3) (hA : ∀ q : Nat, s.heap.size ≤ q → A q) (hK : va_K D vwCl (TY cy) s)  :
    ∀ (u0 : St) (u1 : St) (u3 : St) (x1 : Int32) (x2 : Int32) (x3 : Int32), f_X3_readFurtherString_L48 fu b2 u0 u1 u3 x1 x2 x3 = some out → ∀ (H : Heap) (locs : List Loc) (ls : Array Slot), va_P D vwCl ((w3 cy h0 h1 h3 u0) ++ (w4 cy h1 h2 u1) ++ (wB cy h2 b2) ++ (w5 cy h3 a3 u3)) H → va_D A ((w3 cy h0 h1 h3 u0) ++ (w4 cy h1 h2 u1) ++ (wB cy h2 b2) ++ (w5 cy h3 a3 u3)) → va_S A s.heap H locs → lv_has ls 4 [(0, .ref h0), (1, .int x1), (2, .int x2), (3, .int x3)] → W p l e ({ frames := 3, cells := 0, slots := 0, locals := 62 } : Room) s m args below meth c H locs 0 0 (MQ below (gQi D cy A out.1 ((w3 cy h0 h1 h3 out.2.1) ++ (w4 cy h1 h2 out.2.2.1) ++ (wB cy h2 b2) ++ (w5 cy h3 a3 out.2.2.2))) args s 0 0 A) (F0 m 48 ls []) := by
  obtain ⟨hx, hb, hr, hml, hown, hts, hlk⟩ := id C
  have hown : s.vm.findClass RX3 = some m.cls := hown
  have hk_15 := hts _ (List.mem_cons_of_mem _ fl_RX3_15)
  have hk_24 := hts _ (List.mem_cons_of_mem _ fl_RX3_24)
  have hk_57 := hts _ (List.mem_cons_of_mem _ fl_RX3_57)
  intro u0 u1 u3 x1 x2 x3 hf H locs ls hP hD hS hl
  unfold f_X3_readFurtherString_L48 at hf
  refine lv_aload_n hx hb dX3_readFurtherString_48 rfl (lv_at hl 0 rfl) ?_
  refine va_get (ci := 3) (v := .ref h3) (C := RX3) (T := TX3) (N := 6) hx hb hts (fun w h => List.mem_cons_of_mem _ (inX3 w h)) hown hK hP 0 rfl rfl 3 (by decide) hk_15 (fun _ h9 => h9) rfl dX3_readFurtherString_49 ?_
  refine lv_iload_n hx hb dX3_readFurtherString_52 rfl (lv_at hl 1 rfl) ?_
  obtain ⟨q_53, hc_53, hf⟩ := op_bind hf
  refine g_callVi (As := [.int x1]) (rest := []) (w2 := (w3 cy h0 h1 h3 u0) ++ (w4 cy h1 h2 u1) ++ (wB cy h2 b2) ++ (w5 cy h3 a3 u3)) ⟨hx, hb, hml, hown, hts⟩ (c_X5_hasTongue l D cy h3 a3 u3 _ fu x1 _ hc_53) (cwV 1 hts (gi_V ml_RX3_173 im_X5_hasTongue se_X5_hasTongue in_RX5 cd_X5_hasTongue) rfl rfl rfl hdX5_hasTongue ⟨Nat.le_of_ble_eq_true rfl, Nat.le_of_ble_eq_true rfl⟩) (va_recv hK hP (ci := 5) (q0 := 3) rfl rfl) rfl hl.1 rfl (Nat.le_of_ble_eq_true rfl) dX3_readFurtherString_53 hK hP hD hS hA [3, 4, 5, 6, 7, 8, 9, 10, 11] [0, 1, 2] [0, 1, 2, 3, 4, 5, 6, 7, 8, 9, 10, 11] rfl rfl rfl rfl (by decide) rfl rfl (fun H locs hP hD hS => ?_)
  refine lv_if_ne (tgt := 72) hx hb dX3_readFurtherString_56 (by decide) (fun c_56 => ?_) (fun c_56 => ?_)
  · have hf := op_neg c_56 hf
    refine lv_iload_n hx hb dX3_readFurtherString_72 rfl (lv_at hl 3 rfl) ?_
    refine lv_if_le (tgt := 86) hx hb dX3_readFurtherString_73 (by decide) (fun c_73 => ?_) (fun c_73 => ?_)
    · have hf := op_pos c_73 hf
      exact b_X3_readFurtherString_L86 l D cy h0 h1 h2 b2 h3 a3 fu out C hA hK u0 u1 u3 hf _ _ ls hP hD hS (lv_sub hl [0] rfl)
    · have hf := op_neg c_73 hf
      refine lv_aload_n hx hb dX3_readFurtherString_76 rfl (lv_at hl 0 rfl) ?_
      refine va_get (ci := 3) (v := .ref h3) (C := RX3) (T := TX3) (N := 6) hx hb hts (fun w h => List.mem_cons_of_mem _ (inX3 w h)) hown hK hP 0 rfl rfl 3 (by decide) hk_15 (fun _ h9 => h9) rfl dX3_readFurtherString_77 ?_
      refine lv_iload_n hx hb dX3_readFurtherString_80 rfl (lv_at hl 1 rfl) ?_
      refine lv_iload_n hx hb dX3_readFurtherString_81 rfl (lv_at hl 2 rfl) ?_
      refine lv_iload_n hx hb dX3_readFurtherString_82 rfl (lv_at hl 3 rfl) ?_
      obtain ⟨q_83, hc_83, hf⟩ := op_bind hf
      refine g_callVv (As := [.int x1, .int x2, .int x3]) (rest := []) (w2 := (w3 cy h0 h1 h3 u0) ++ (w4 cy h1 h2 u1) ++ (wB cy h2 b2) ++ (w5 cy h3 a3 q_83)) ⟨hx, hb, hml, hown, hts⟩ (c_X5_setString l D cy h3 a3 u3 _ fu x1 x2 x3 _ hc_83) (cwV 3 hts (gi_V ml_RX3_176 im_X5_setString se_X5_setString in_RX5 cd_X5_setString) rfl rfl rfl hdX5_setString ⟨Nat.le_of_ble_eq_true rfl, Nat.le_of_ble_eq_true rfl⟩) (va_recv hK hP (ci := 5) (q0 := 3) rfl rfl) rfl hl.1 rfl (Nat.le_of_ble_eq_true rfl) dX3_readFurtherString_83 hK hP hD hS hA [3, 4, 5, 6, 7, 8, 9, 10, 11] [0, 1, 2] [0, 1, 2, 3, 4, 5, 6, 7, 8, 9, 10, 11] rfl rfl rfl rfl (by decide) rfl rfl (fun H locs hP hD hS => ?_)
      exact b_X3_readFurtherString_L86 l D cy h0 h1 h2 b2 h3 a3 fu out C hA hK u0 u1 q_83 hf _ _ ls hP hD hS (lv_sub hl [0] rfl)
  · have hf := op_pos c_56 hf
    refine lv_aload_n hx hb dX3_readFurtherString_59 rfl (lv_at hl 0 rfl) ?_
    refine lv_iconst (v := 2) hx hb dX3_readFurtherString_60 (by decide) ?_
    refine lv_aload_n hx hb dX3_readFurtherString_61 rfl (lv_at hl 0 rfl) ?_
    refine va_get (ci := 3) (v := .ref h1) (C := RX3) (T := TX3) (N := 6) hx hb hts (fun w h => List.mem_cons_of_mem _ (inX3 w h)) hown hK hP 0 rfl rfl 2 (by decide) hk_24 (fun _ h9 => h9) rfl dX3_readFurtherString_62 ?_
    refine va_get (ci := 4) (v := .int (u1.1 2)) (C := RX4) (T := TX4) (N := 6) hx hb hts (fun w h => List.mem_cons_of_mem _ (inX4 w h)) hown hK hP 1 rfl rfl 2 (by decide) hk_57 (fun _ h9 => h9) rfl dX3_readFurtherString_65 ?_
    obtain ⟨q_68, hc_68, hf⟩ := op_bind hf
    refine g_callVi (As := [.int 2, .int (u1.1 2)]) (rest := []) (w2 := (w3 cy h0 h1 h3 q_68.2) ++ (w4 cy h1 h2 u1) ++ (wB cy h2 b2) ++ (w5 cy h3 a3 u3)) ⟨hx, hb, hml, hown, hts⟩ (c_X3_fail l D cy h0 h1 h3 u0 _ fu 2 (u1.1 2) _ hc_68) (cwV 2 hts (gi_V ml_RX3_60 im_X3_fail se_X3_fail in_RX3 cd_X3_fail) rfl rfl rfl hdX3_fail ⟨Nat.le_of_ble_eq_true rfl, Nat.le_of_ble_eq_true rfl⟩) (va_recv hK hP (ci := 3) (q0 := 0) rfl rfl) rfl hl.1 rfl (Nat.le_of_ble_eq_true rfl) dX3_readFurtherString_68 hK hP hD hS hA [0] [1, 2, 3, 4, 5, 6, 7, 8, 9, 10, 11] [11, 0, 1, 2, 3, 4, 5, 6, 7, 8, 9, 10] rfl rfl rfl rfl (by decide) rfl rfl (fun H locs hP hD hS => ?_)
    obtain ⟨hg_71, hf⟩ := op_if hf
    rw [← Option.some.inj hf]
    exact g_zret hx hb hr hlk hg_71 hK hP hD hS dX3_readFurtherString_71
def f_X3_readFurtherString (fu : Nat) (b2 : Nat → Int32) (s0 : St) (s1 : St) (s3 : St) (p1 : Int32) : Option (Int32 × St × St × St) := (f_X4_stringFrom fu s1).bind (fun q_4 => (f_X4_stringLength fu s1).bind (fun q_12 => if q_12 ≤ 0 then (f_X3_readFurtherString_L48 fu b2 s0 s1 s3 p1 q_4 q_12) else ((f_X8_areProper fu b2 q_4 q_12).bind (fun q_29 => if q_29 = 0 then ((f_X3_fail fu s0 1 (s1.1 2)).bind (fun q_44 => if isB q_44.1 = true then (some (q_44.1, q_44.2, s1, s3)) else none)) else (f_X3_readFurtherString_L48 fu b2 s0 s1 s3 p1 q_4 q_12)))))
theorem hdX3_readFurtherString : yX3_readFurtherString.cls = RX3 ∧ yX3_readFurtherString.cls ≠ "java/lang/invoke/MethodHandle" ∧ yX3_readFurtherString.cls ≠ "java/lang/invoke/VarHandle" ∧ (parseMethodDescriptor yX3_readFurtherString.desc).map (fun d => d.parameters.length) = some 1 := by decide +kernel
set_option maxHeartbeats 4000000 in
set_option maxRecDepth 100000 in
theorem c_X3_readFurtherString (l : Launch) (D : va_G) (cy : Nat → ClassId) (h0 : Nat) (s0 : St) (h1 : Nat) (s1 : St) (h2 : Nat) (b2 : Nat → Int32) (h3 : Nat) (a3 : Nat → Nat) (s3 : St) (sz fu : Nat) (p1 : Int32) (out : Int32 × St × St × St) (hf : f_X3_readFurtherString fu b2 s0 s1 s3 p1 = some out) :
    Met l yX3_readFurtherString (WS yX3_readFurtherString cX3_readFurtherString 4 (some .boolean)) ({ frames := 3, cells := 0, slots := 0, locals := 62 } : Room) (va_Pc [.ref h0, .int p1] (gP D cy sz ((w3 cy h0 h1 h3 s0) ++ (w4 cy h1 h2 s1) ++ (wB cy h2 b2) ++ (w5 cy h3 a3 s3)))) ((fun A : Nat → Prop => gQi D cy A out.1 ((w3 cy h0 h1 h3 out.2.1) ++ (w4 cy h1 h2 out.2.2.1) ++ (wB cy h2 b2) ++ (w5 cy h3 a3 out.2.2.2))) (va_A ((w3 cy h0 h1 h3 s0) ++ (w4 cy h1 h2 s1) ++ (wB cy h2 b2) ++ (w5 cy h3 a3 s3)) sz)) 0 0 (va_A ((w3 cy h0 h1 h3 s0) ++ (w4 cy h1 h2 s1) ++ (wB cy h2 b2) ++ (w5 cy h3 a3 s3)) sz) := by
  refine g_met (cc := cX3_readFurtherString) (maxL := 4) (ret := (some .boolean)) (fun A : Nat → Prop => gQi D cy A out.1 ((w3 cy h0 h1 h3 out.2.1) ++ (w4 cy h1 h2 out.2.2.1) ++ (wB cy h2 b2) ++ (w5 cy h3 a3 out.2.2.2))) (by decide +kernel) rfl (Nat.le_of_ble_eq_true rfl) ?_
  intro p e s m below meth c A C hA hK hP hD ls hl
  obtain ⟨hx, hb, hr, hml, hown, hts, hlk⟩ := id C
  have hown : s.vm.findClass RX3 = some m.cls := hown
  have hS : va_S A s.heap s.heap [] := va_S.rf
  have hl : lv_has ls 4 [(0, .ref h0), (1, .int p1)] := hl
  have hk_24 := hts _ (List.mem_cons_of_mem _ fl_RX3_24)
  have hk_156 := hts _ (List.mem_cons_of_mem _ fl_RX3_156)
  have hk_57 := hts _ (List.mem_cons_of_mem _ fl_RX3_57)
  unfold f_X3_readFurtherString at hf
  refine lv_aload_n hx hb dX3_readFurtherString_0 rfl (lv_at hl 0 rfl) ?_
  refine va_get (ci := 3) (v := .ref h1) (C := RX3) (T := TX3) (N := 6) hx hb hts (fun w h => List.mem_cons_of_mem _ (inX3 w h)) hown hK hP 0 rfl rfl 2 (by decide) hk_24 (fun _ h9 => h9) rfl dX3_readFurtherString_1 ?_
  obtain ⟨q_4, hc_4, hf⟩ := op_bind hf
  refine g_callVi (As := []) (rest := []) (w2 := (w3 cy h0 h1 h3 s0) ++ (w4 cy h1 h2 s1) ++ (wB cy h2 b2) ++ (w5 cy h3 a3 s3)) ⟨hx, hb, hml, hown, hts⟩ (c_X4_stringFrom l D cy h1 h2 s1 _ fu _ hc_4) (cwV 0 hts (gi_V ml_RX3_150 im_X4_stringFrom se_X4_stringFrom in_RX4 cd_X4_stringFrom) rfl rfl rfl hdX4_stringFrom ⟨Nat.le_of_ble_eq_true rfl, Nat.le_of_ble_eq_true rfl⟩) (va_recv hK hP (ci := 4) (q0 := 1) rfl rfl) rfl hl.1 rfl (Nat.le_of_ble_eq_true rfl) dX3_readFurtherString_4 hK hP hD hS hA [1] [0, 2, 3, 4, 5, 6, 7, 8, 9, 10, 11] [0, 11, 1, 2, 3, 4, 5, 6, 7, 8, 9, 10] rfl rfl rfl rfl (by decide) rfl rfl (fun H locs hP hD hS => ?_)
  refine lv_istore_n (lv' := [(2, .int q_4), (0, .ref h0), (1, .int p1)]) hx hb dX3_readFurtherString_7 rfl hl (by decide) rfl (fun ls hl => ?_)
  refine lv_aload_n hx hb dX3_readFurtherString_8 rfl (lv_at hl 1 rfl) ?_
  refine va_get (ci := 3) (v := .ref h1) (C := RX3) (T := TX3) (N := 6) hx hb hts (fun w h => List.mem_cons_of_mem _ (inX3 w h)) hown hK hP 0 rfl rfl 2 (by decide) hk_24 (fun _ h9 => h9) rfl dX3_readFurtherString_9 ?_
  obtain ⟨q_12, hc_12, hf⟩ := op_bind hf
  refine g_callVi (As := []) (rest := []) (w2 := (w3 cy h0 h1 h3 s0) ++ (w4 cy h1 h2 s1) ++ (wB cy h2 b2) ++ (w5 cy h3 a3 s3)) ⟨hx, hb, hml, hown, hts⟩ (c_X4_stringLength l D cy h1 h2 s1 _ fu _ hc_12) (cwV 0 hts (gi_V ml_RX3_153 im_X4_stringLength se_X4_stringLength in_RX4 cd_X4_stringLength) rfl rfl rfl hdX4_stringLength ⟨Nat.le_of_ble_eq_true rfl, Nat.le_of_ble_eq_true rfl⟩) (va_recv hK hP (ci := 4) (q0 := 1) rfl rfl) rfl hl.1 rfl (Nat.le_of_ble_eq_true rfl) dX3_readFurtherString_12 hK hP hD hS hA [1] [0, 2, 3, 4, 5, 6, 7, 8, 9, 10, 11] [0, 11, 1, 2, 3, 4, 5, 6, 7, 8, 9, 10] rfl rfl rfl rfl (by decide) rfl rfl (fun H locs hP hD hS => ?_)
  refine lv_istore_n (lv' := [(3, .int q_12), (2, .int q_4), (0, .ref h0), (1, .int p1)]) hx hb dX3_readFurtherString_15 rfl hl (by decide) rfl (fun ls hl => ?_)
  refine lv_iload_n hx hb dX3_readFurtherString_16 rfl (lv_at hl 0 rfl) ?_
  refine lv_if_le (tgt := 48) hx hb dX3_readFurtherString_17 (by decide) (fun c_17 => ?_) (fun c_17 => ?_)
  · have hf := op_pos c_17 hf
    exact b_X3_readFurtherString_L48 l D cy h0 h1 h2 b2 h3 a3 fu out C hA hK s0 s1 s3 p1 q_4 q_12 hf _ _ ls hP hD hS (lv_sub hl [2, 3, 1, 0] rfl)
  · have hf := op_neg c_17 hf
    refine lv_aload_n hx hb dX3_readFurtherString_20 rfl (lv_at hl 2 rfl) ?_
    refine va_get (ci := 3) (v := .ref h1) (C := RX3) (T := TX3) (N := 6) hx hb hts (fun w h => List.mem_cons_of_mem _ (inX3 w h)) hown hK hP 0 rfl rfl 2 (by decide) hk_24 (fun _ h9 => h9) rfl dX3_readFurtherString_21 ?_
    refine va_get (ci := 4) (v := .ref h2) (C := RX4) (T := TX4) (N := 6) hx hb hts (fun w h => List.mem_cons_of_mem _ (inX4 w h)) hown hK hP 1 rfl rfl 0 (by decide) hk_156 (fun _ h9 => h9) rfl dX3_readFurtherString_24 ?_
    refine lv_iload_n hx hb dX3_readFurtherString_27 rfl (lv_at hl 1 rfl) ?_
    refine lv_iload_n hx hb dX3_readFurtherString_28 rfl (lv_at hl 0 rfl) ?_
    obtain ⟨q_29, hc_29, hf⟩ := op_bind hf
    refine g_callSi (As := [.ref h2, .int q_4, .int q_12]) (rest := []) (w2 := (w3 cy h0 h1 h3 s0) ++ (w4 cy h1 h2 s1) ++ (wB cy h2 b2) ++ (w5 cy h3 a3 s3)) ⟨hx, hb, hml, hown, hts⟩ (c_X8_areProper l D cy h2 b2 _ fu q_4 q_12 _ hc_29) (va_cwS 3 hts (gi_S ml_RX3_160 sm_X8_areProper in_RX8 cd_X8_areProper) rfl rfl rfl hdX8_areProper ⟨Nat.le_of_ble_eq_true rfl, Nat.le_of_ble_eq_true rfl⟩) rfl hl.1 rfl (Nat.le_of_ble_eq_true rfl) dX3_readFurtherString_29 hK hP hD hS hA [2] [0, 1, 3, 4, 5, 6, 7, 8, 9, 10, 11] [0, 1, 11, 2, 3, 4, 5, 6, 7, 8, 9, 10] rfl rfl rfl rfl (by decide) rfl rfl (fun H locs hP hD hS => ?_)
    refine lv_if_ne (tgt := 48) hx hb dX3_readFurtherString_32 (by decide) (fun c_32 => ?_) (fun c_32 => ?_)
    · have hf := op_neg c_32 hf
      exact b_X3_readFurtherString_L48 l D cy h0 h1 h2 b2 h3 a3 fu out C hA hK s0 s1 s3 p1 q_4 q_12 hf _ _ ls hP hD hS (lv_sub hl [2, 3, 1, 0] rfl)
    · have hf := op_pos c_32 hf
      refine lv_aload_n hx hb dX3_readFurtherString_35 rfl (lv_at hl 2 rfl) ?_
      refine lv_iconst (v := 1) hx hb dX3_readFurtherString_36 (by decide) ?_
      refine lv_aload_n hx hb dX3_readFurtherString_37 rfl (lv_at hl 2 rfl) ?_
      refine va_get (ci := 3) (v := .ref h1) (C := RX3) (T := TX3) (N := 6) hx hb hts (fun w h => List.mem_cons_of_mem _ (inX3 w h)) hown hK hP 0 rfl rfl 2 (by decide) hk_24 (fun _ h9 => h9) rfl dX3_readFurtherString_38 ?_
      refine va_get (ci := 4) (v := .int (s1.1 2)) (C := RX4) (T := TX4) (N := 6) hx hb hts (fun w h => List.mem_cons_of_mem _ (inX4 w h)) hown hK hP 1 rfl rfl 2 (by decide) hk_57 (fun _ h9 => h9) rfl dX3_readFurtherString_41 ?_
      obtain ⟨q_44, hc_44, hf⟩ := op_bind hf
      refine g_callVi (As := [.int 1, .int (s1.1 2)]) (rest := []) (w2 := (w3 cy h0 h1 h3 q_44.2) ++ (w4 cy h1 h2 s1) ++ (wB cy h2 b2) ++ (w5 cy h3 a3 s3)) ⟨hx, hb, hml, hown, hts⟩ (c_X3_fail l D cy h0 h1 h3 s0 _ fu 1 (s1.1 2) _ hc_44) (cwV 2 hts (gi_V ml_RX3_60 im_X3_fail se_X3_fail in_RX3 cd_X3_fail) rfl rfl rfl hdX3_fail ⟨Nat.le_of_ble_eq_true rfl, Nat.le_of_ble_eq_true rfl⟩) (va_recv hK hP (ci := 3) (q0 := 0) rfl rfl) rfl hl.1 rfl (Nat.le_of_ble_eq_true rfl) dX3_readFurtherString_44 hK hP hD hS hA [0] [1, 2, 3, 4, 5, 6, 7, 8, 9, 10, 11] [11, 0, 1, 2, 3, 4, 5, 6, 7, 8, 9, 10] rfl rfl rfl rfl (by decide) rfl rfl (fun H locs hP hD hS => ?_)
      obtain ⟨hg_47, hf⟩ := op_if hf
      rw [← Option.some.inj hf]
      exact g_zret hx hb hr hlk hg_47 hK hP hD hS dX3_readFurtherString_47
def f_X3_readStrings_L42  (fu : Nat) (b2 : Nat → Int32) (u0 : St) (u1 : St) (u3 : St) : Option (Int32 × St × St × St) := (f_X3_fail fu u0 1 (u1.1 2)).bind (fun q_51 => if isB q_51.1 = true then (some (q_51.1, q_51.2, u1, u3)) else none)
set_option maxHeartbeats 4000000 in
set_option maxRecDepth 100000 in
theorem b_X3_readStrings_L42 {p : Program} {e : Env} {s : State} {m : MethodId} {args : Array Value} {below : List Frame} {meth : Method} {c : Code} {A : Nat → Prop} (l : Launch) (D : va_G) (cy : Nat → ClassId) (h0 : Nat) (h1 : Nat) (h2 : Nat) (b2 : Nat → Int32) (h3 : Nat) (a3 : Nat → Nat) (fu : Nat) (out : Int32 × St × St × St) (C : gC p s m args meth c (WS yX3_readStrings cX3_readStrings 4 (some .boolean)) cX3_readStrings 4 (some .boolean) RX3) (hA : ∀ q : Nat, s.heap.size ≤ q → A q) (hK : va_K D vwCl (TY cy) s)  :
    ∀ (u0 : St) (u1 : St) (u3 : St), f_X3_readStrings_L42 fu b2 u0 u1 u3 = some out → ∀ (H : Heap) (locs : List Loc) (ls : Array Slot), va_P D vwCl ((w3 cy h0 h1 h3 u0) ++ (w4 cy h1 h2 u1) ++ (wB cy h2 b2) ++ (w5 cy h3 a3 u3)) H → va_D A ((w3 cy h0 h1 h3 u0) ++ (w4 cy h1 h2 u1) ++ (wB cy h2 b2) ++ (w5 cy h3 a3 u3)) → va_S A s.heap H locs → lv_has ls 4 [(0, .ref h0)] → W p l e ({ frames := 4, cells := 0, slots := 0, locals := 85 } : Room) s m args below meth c H locs 0 0 (MQ below (gQi D cy A out.1 ((w3 cy h0 h1 h3 out.2.1) ++ (w4 cy h1 h2 out.2.2.1) ++ (wB cy h2 b2) ++ (w5 cy h3 a3 out.2.2.2))) args s 0 0 A) (F0 m 42 ls []) := by
  obtain ⟨hx, hb, hr, hml, hown, hts, hlk⟩ := id C
  have hown : s.vm.findClass RX3 = some m.cls := hown
  have hk_24 := hts _ (List.mem_cons_of_mem _ fl_RX3_24)
  have hk_57 := hts _ (List.mem_cons_of_mem _ fl_RX3_57)
  intro u0 u1 u3 hf H locs ls hP hD hS hl
  unfold f_X3_readStrings_L42 at hf
  refine lv_aload_n hx hb dX3_readStrings_42 rfl (lv_at hl 0 rfl) ?_
  refine lv_iconst (v := 1) hx hb dX3_readStrings_43 (by decide) ?_
  refine lv_aload_n hx hb dX3_readStrings_44 rfl (lv_at hl 0 rfl) ?_
  refine va_get (ci := 3) (v := .ref h1) (C := RX3) (T := TX3) (N := 6) hx hb hts (fun w h => List.mem_cons_of_mem _ (inX3 w h)) hown hK hP 0 rfl rfl 2 (by decide) hk_24 (fun _ h9 => h9) rfl dX3_readStrings_45 ?_
  refine va_get (ci := 4) (v := .int (u1.1 2)) (C := RX4) (T := TX4) (N := 6) hx hb hts (fun w h => List.mem_cons_of_mem _ (inX4 w h)) hown hK hP 1 rfl rfl 2 (by decide) hk_57 (fun _ h9 => h9) rfl dX3_readStrings_48 ?_
  obtain ⟨q_51, hc_51, hf⟩ := op_bind hf
  refine g_callVi (As := [.int 1, .int (u1.1 2)]) (rest := []) (w2 := (w3 cy h0 h1 h3 q_51.2) ++ (w4 cy h1 h2 u1) ++ (wB cy h2 b2) ++ (w5 cy h3 a3 u3)) ⟨hx, hb, hml, hown, hts⟩ (c_X3_fail l D cy h0 h1 h3 u0 _ fu 1 (u1.1 2) _ hc_51) (cwV 2 hts (gi_V ml_RX3_60 im_X3_fail se_X3_fail in_RX3 cd_X3_fail) rfl rfl rfl hdX3_fail ⟨Nat.le_of_ble_eq_true rfl, Nat.le_of_ble_eq_true rfl⟩) (va_recv hK hP (ci := 3) (q0 := 0) rfl rfl) rfl hl.1 rfl (Nat.le_of_ble_eq_true rfl) dX3_readStrings_51 hK hP hD hS hA [0] [1, 2, 3, 4, 5, 6, 7, 8, 9, 10, 11] [11, 0, 1, 2, 3, 4, 5, 6, 7, 8, 9, 10] rfl rfl rfl rfl (by decide) rfl rfl (fun H locs hP hD hS => ?_)
  obtain ⟨hg_54, hf⟩ := op_if hf
  rw [← Option.some.inj hf]
  exact g_zret hx hb hr hlk hg_54 hK hP hD hS dX3_readStrings_54
def f_X3_readStrings_L73  (fu : Nat) (b2 : Nat → Int32) : Nat → St → St → St → Int32 → Option (Int32 × St × St × St)
  | 0, _, _, _, _ => none
  | n_73 + 1, u0, u1, u3, x3 => if 4 < x3 then (some (1, u0, u1, u3)) else (if (u1.1 1) = 4 then ((f_X3_readFurtherString fu b2 u0 u1 u3 x3).bind (fun q_91 => if q_91.1 = 0 then (some (0, q_91.2.1, q_91.2.2.1, q_91.2.2.2)) else (f_X3_readStrings_L73 fu b2 n_73 q_91.2.1 q_91.2.2.1 q_91.2.2.2 (x3 + 1)))) else (some (1, u0, u1, u3)))
set_option maxHeartbeats 4000000 in
set_option maxRecDepth 100000 in
theorem b_X3_readStrings_L73 {p : Program} {e : Env} {s : State} {m : MethodId} {args : Array Value} {below : List Frame} {meth : Method} {c : Code} {A : Nat → Prop} (l : Launch) (D : va_G) (cy : Nat → ClassId) (h0 : Nat) (h1 : Nat) (h2 : Nat) (b2 : Nat → Int32) (h3 : Nat) (a3 : Nat → Nat) (fu : Nat) (out : Int32 × St × St × St) (C : gC p s m args meth c (WS yX3_readStrings cX3_readStrings 4 (some .boolean)) cX3_readStrings 4 (some .boolean) RX3) (hA : ∀ q : Nat, s.heap.size ≤ q → A q) (hK : va_K D vwCl (TY cy) s)  :
    ∀ (n_73 : Nat), ∀ (u0 : St) (u1 : St) (u3 : St) (x3 : Int32), f_X3_readStrings_L73 fu b2 n_73 u0 u1 u3 x3 = some out → ∀ (H : Heap) (locs : List Loc) (ls : Array Slot), va_P D vwCl ((w3 cy h0 h1 h3 u0) ++ (w4 cy h1 h2 u1) ++ (wB cy h2 b2) ++ (w5 cy h3 a3 u3)) H → va_D A ((w3 cy h0 h1 h3 u0) ++ (w4 cy h1 h2 u1) ++ (wB cy h2 b2) ++ (w5 cy h3 a3 u3)) → va_S A s.heap H locs → lv_has ls 4 [(0, .ref h0), (3, .int x3)] → W p l e ({ frames := 4, cells := 0, slots := 0, locals := 85 } : Room) s m args below meth c H locs 0 0 (MQ below (gQi D cy A out.1 ((w3 cy h0 h1 h3 out.2.1) ++ (w4 cy h1 h2 out.2.2.1) ++ (wB cy h2 b2) ++ (w5 cy h3 a3 out.2.2.2))) args s 0 0 A) (F0 m 73 ls []) := by
  obtain ⟨hx, hb, hr, hml, hown, hts, hlk⟩ := id C
  have hown : s.vm.findClass RX3 = some m.cls := hown
  have hk_24 := hts _ (List.mem_cons_of_mem _ fl_RX3_24)
  have hk_78 := hts _ (List.mem_cons_of_mem _ fl_RX3_78)
  intro n_73
  induction n_73 with
  | zero => intro u0 u1 u3 x3 hf; exact op_no hf
  | succ n_73 ih_73 =>
    intro u0 u1 u3 x3 hf H locs ls hP hD hS hl
    rw [f_X3_readStrings_L73] at hf
    refine lv_iload_n hx hb dX3_readStrings_73 rfl (lv_at hl 1 rfl) ?_
    refine lv_iconst (v := 4) hx hb dX3_readStrings_74 (by decide) ?_
    refine lv_icmp_gt (tgt := 105) hx hb dX3_readStrings_75 (by decide) (fun c_75 => ?_) (fun c_75 => ?_)
    · have hf := op_pos c_75 hf
      refine lv_iconst (v := 1) hx hb dX3_readStrings_105 (by decide) ?_
      rw [← Option.some.inj hf]
      exact g_zret hx hb hr hlk (show isB 1 = true by decide) hK hP hD hS dX3_readStrings_106
    · have hf := op_neg c_75 hf
      refine lv_aload_n hx hb dX3_readStrings_78 rfl (lv_at hl 0 rfl) ?_
      refine va_get (ci := 3) (v := .ref h1) (C := RX3) (T := TX3) (N := 6) hx hb hts (fun w h => List.mem_cons_of_mem _ (inX3 w h)) hown hK hP 0 rfl rfl 2 (by decide) hk_24 (fun _ h9 => h9) rfl dX3_readStrings_79 ?_
      refine va_get (ci := 4) (v := .int (u1.1 1)) (C := RX4) (T := TX4) (N := 6) hx hb hts (fun w h => List.mem_cons_of_mem _ (inX4 w h)) hown hK hP 1 rfl rfl 1 (by decide) hk_78 (fun _ h9 => h9) rfl dX3_readStrings_82 ?_
      refine lv_iconst (v := 4) hx hb dX3_readStrings_85 (by decide) ?_
      refine lv_icmp_ne (tgt := 105) hx hb dX3_readStrings_86 (by decide) (fun c_86 => ?_) (fun c_86 => ?_)
      · have hf := op_neg c_86 hf
        refine lv_iconst (v := 1) hx hb dX3_readStrings_105 (by decide) ?_
        rw [← Option.some.inj hf]
        exact g_zret hx hb hr hlk (show isB 1 = true by decide) hK hP hD hS dX3_readStrings_106
      · have hf := op_pos c_86 hf
        refine lv_aload_n hx hb dX3_readStrings_89 rfl (lv_at hl 0 rfl) ?_
        refine lv_iload_n hx hb dX3_readStrings_90 rfl (lv_at hl 1 rfl) ?_
        obtain ⟨q_91, hc_91, hf⟩ := op_bind hf
        refine g_callVi (As := [.int x3]) (rest := []) (w2 := (w3 cy h0 h1 h3 q_91.2.1) ++ (w4 cy h1 h2 q_91.2.2.1) ++ (wB cy h2 b2) ++ (w5 cy h3 a3 q_91.2.2.2)) ⟨hx, hb, hml, hown, hts⟩ (c_X3_readFurtherString l D cy h0 u0 h1 u1 h2 b2 h3 a3 u3 _ fu x3 _ hc_91) (cwV 1 hts (gi_V ml_RX3_170 im_X3_readFurtherString se_X3_readFurtherString in_RX3 cd_X3_readFurtherString) rfl rfl rfl hdX3_readFurtherString ⟨Nat.le_of_ble_eq_true rfl, Nat.le_of_ble_eq_true rfl⟩) (va_recv hK hP (ci := 3) (q0 := 0) rfl rfl) rfl hl.1 rfl (Nat.le_of_ble_eq_true rfl) dX3_readStrings_91 hK hP hD hS hA [0, 1, 2, 3, 4, 5, 6, 7, 8, 9, 10, 11] [] [0, 1, 2, 3, 4, 5, 6, 7, 8, 9, 10, 11] rfl rfl rfl rfl (by decide) rfl rfl (fun H locs hP hD hS => ?_)
        refine lv_if_ne (tgt := 99) hx hb dX3_readStrings_94 (by decide) (fun c_94 => ?_) (fun c_94 => ?_)
        · have hf := op_neg c_94 hf
          refine lv_iinc (v := x3 + 1) (lv' := [(3, .int (x3 + 1)), (0, .ref h0)]) hx hb dX3_readStrings_99 hl (k := 1) rfl rfl (by decide) rfl (fun ls hl => ?_)
          refine lv_goto (tgt := 73) hx hb dX3_readStrings_102 (by decide) ?_
          exact ih_73 q_91.2.1 q_91.2.2.1 q_91.2.2.2 (x3 + 1) hf _ _ ls hP hD hS (lv_sub hl [1, 0] rfl)
        · have hf := op_pos c_94 hf
          refine lv_iconst (v := 0) hx hb dX3_readStrings_97 (by decide) ?_
          rw [← Option.some.inj hf]
          exact g_zret hx hb hr hlk (show isB 0 = true by decide) hK hP hD hS dX3_readStrings_98
def f_X3_readStrings (fu : Nat) (b2 : Nat → Int32) (s0 : St) (s1 : St) (s3 : St)  : Option (Int32 × St × St × St) := (f_X4_stringFrom fu s1).bind (fun q_4 => (f_X4_stringLength fu s1).bind (fun q_12 => if (s1.1 1) = 4 then ((f_X8_areProper fu b2 q_4 q_12).bind (fun q_36 => if q_36 = 0 then (f_X3_readStrings_L42 fu b2 s0 s1 s3) else ((f_X5_addTitle fu s3 q_4 q_12).bind (fun q_61 => (f_X4_step fu b2 s1).bind (fun q_68 => f_X3_readStrings_L73 fu b2 fu s0 q_68 q_61 1))))) else (f_X3_readStrings_L42 fu b2 s0 s1 s3)))
theorem hdX3_readStrings : yX3_readStrings.cls = RX3 ∧ yX3_readStrings.cls ≠ "java/lang/invoke/MethodHandle" ∧ yX3_readStrings.cls ≠ "java/lang/invoke/VarHandle" ∧ (parseMethodDescriptor yX3_readStrings.desc).map (fun d => d.parameters.length) = some 0 := by decide +kernel
set_option maxHeartbeats 4000000 in
set_option maxRecDepth 100000 in
theorem c_X3_readStrings (l : Launch) (D : va_G) (cy : Nat → ClassId) (h0 : Nat) (s0 : St) (h1 : Nat) (s1 : St) (h2 : Nat) (b2 : Nat → Int32) (h3 : Nat) (a3 : Nat → Nat) (s3 : St) (sz fu : Nat)  (out : Int32 × St × St × St) (hf : f_X3_readStrings fu b2 s0 s1 s3 = some out) :
    Met l yX3_readStrings (WS yX3_readStrings cX3_readStrings 4 (some .boolean)) ({ frames := 4, cells := 0, slots := 0, locals := 85 } : Room) (va_Pc [.ref h0] (gP D cy sz ((w3 cy h0 h1 h3 s0) ++ (w4 cy h1 h2 s1) ++ (wB cy h2 b2) ++ (w5 cy h3 a3 s3)))) ((fun A : Nat → Prop => gQi D cy A out.1 ((w3 cy h0 h1 h3 out.2.1) ++ (w4 cy h1 h2 out.2.2.1) ++ (wB cy h2 b2) ++ (w5 cy h3 a3 out.2.2.2))) (va_A ((w3 cy h0 h1 h3 s0) ++ (w4 cy h1 h2 s1) ++ (wB cy h2 b2) ++ (w5 cy h3 a3 s3)) sz)) 0 0 (va_A ((w3 cy h0 h1 h3 s0) ++ (w4 cy h1 h2 s1) ++ (wB cy h2 b2) ++ (w5 cy h3 a3 s3)) sz) := by
  refine g_met (cc := cX3_readStrings) (maxL := 4) (ret := (some .boolean)) (fun A : Nat → Prop => gQi D cy A out.1 ((w3 cy h0 h1 h3 out.2.1) ++ (w4 cy h1 h2 out.2.2.1) ++ (wB cy h2 b2) ++ (w5 cy h3 a3 out.2.2.2))) (by decide +kernel) rfl (Nat.le_of_ble_eq_true rfl) ?_
  intro p e s m below meth c A C hA hK hP hD ls hl
  obtain ⟨hx, hb, hr, hml, hown, hts, hlk⟩ := id C
  have hown : s.vm.findClass RX3 = some m.cls := hown
  have hS : va_S A s.heap s.heap [] := va_S.rf
  have hl : lv_has ls 4 [(0, .ref h0)] := hl
  have hk_24 := hts _ (List.mem_cons_of_mem _ fl_RX3_24)
  have hk_78 := hts _ (List.mem_cons_of_mem _ fl_RX3_78)
  have hk_156 := hts _ (List.mem_cons_of_mem _ fl_RX3_156)
  have hk_15 := hts _ (List.mem_cons_of_mem _ fl_RX3_15)
  unfold f_X3_readStrings at hf
  refine lv_aload_n hx hb dX3_readStrings_0 rfl (lv_at hl 0 rfl) ?_
  refine va_get (ci := 3) (v := .ref h1) (C := RX3) (T := TX3) (N := 6) hx hb hts (fun w h => List.mem_cons_of_mem _ (inX3 w h)) hown hK hP 0 rfl rfl 2 (by decide) hk_24 (fun _ h9 => h9) rfl dX3_readStrings_1 ?_
  obtain ⟨q_4, hc_4, hf⟩ := op_bind hf
  refine g_callVi (As := []) (rest := []) (w2 := (w3 cy h0 h1 h3 s0) ++ (w4 cy h1 h2 s1) ++ (wB cy h2 b2) ++ (w5 cy h3 a3 s3)) ⟨hx, hb, hml, hown, hts⟩ (c_X4_stringFrom l D cy h1 h2 s1 _ fu _ hc_4) (cwV 0 hts (gi_V ml_RX3_150 im_X4_stringFrom se_X4_stringFrom in_RX4 cd_X4_stringFrom) rfl rfl rfl hdX4_stringFrom ⟨Nat.le_of_ble_eq_true rfl, Nat.le_of_ble_eq_true rfl⟩) (va_recv hK hP (ci := 4) (q0 := 1) rfl rfl) rfl hl.1 rfl (Nat.le_of_ble_eq_true rfl) dX3_readStrings_4 hK hP hD hS hA [1] [0, 2, 3, 4, 5, 6, 7, 8, 9, 10, 11] [0, 11, 1, 2, 3, 4, 5, 6, 7, 8, 9, 10] rfl rfl rfl rfl (by decide) rfl rfl (fun H locs hP hD hS => ?_)
  refine lv_istore_n (lv' := [(1, .int q_4), (0, .ref h0)]) hx hb dX3_readStrings_7 rfl hl (by decide) rfl (fun ls hl => ?_)
  refine lv_aload_n hx hb dX3_readStrings_8 rfl (lv_at hl 1 rfl) ?_
  refine va_get (ci := 3) (v := .ref h1) (C := RX3) (T := TX3) (N := 6) hx hb hts (fun w h => List.mem_cons_of_mem _ (inX3 w h)) hown hK hP 0 rfl rfl 2 (by decide) hk_24 (fun _ h9 => h9) rfl dX3_readStrings_9 ?_
  obtain ⟨q_12, hc_12, hf⟩ := op_bind hf
  refine g_callVi (As := []) (rest := []) (w2 := (w3 cy h0 h1 h3 s0) ++ (w4 cy h1 h2 s1) ++ (wB cy h2 b2) ++ (w5 cy h3 a3 s3)) ⟨hx, hb, hml, hown, hts⟩ (c_X4_stringLength l D cy h1 h2 s1 _ fu _ hc_12) (cwV 0 hts (gi_V ml_RX3_153 im_X4_stringLength se_X4_stringLength in_RX4 cd_X4_stringLength) rfl rfl rfl hdX4_stringLength ⟨Nat.le_of_ble_eq_true rfl, Nat.le_of_ble_eq_true rfl⟩) (va_recv hK hP (ci := 4) (q0 := 1) rfl rfl) rfl hl.1 rfl (Nat.le_of_ble_eq_true rfl) dX3_readStrings_12 hK hP hD hS hA [1] [0, 2, 3, 4, 5, 6, 7, 8, 9, 10, 11] [0, 11, 1, 2, 3, 4, 5, 6, 7, 8, 9, 10] rfl rfl rfl rfl (by decide) rfl rfl (fun H locs hP hD hS => ?_)
  refine lv_istore_n (lv' := [(2, .int q_12), (1, .int q_4), (0, .ref h0)]) hx hb dX3_readStrings_15 rfl hl (by decide) rfl (fun ls hl => ?_)
  refine lv_aload_n hx hb dX3_readStrings_16 rfl (lv_at hl 2 rfl) ?_
  refine va_get (ci := 3) (v := .ref h1) (C := RX3) (T := TX3) (N := 6) hx hb hts (fun w h => List.mem_cons_of_mem _ (inX3 w h)) hown hK hP 0 rfl rfl 2 (by decide) hk_24 (fun _ h9 => h9) rfl dX3_readStrings_17 ?_
  refine va_get (ci := 4) (v := .int (s1.1 1)) (C := RX4) (T := TX4) (N := 6) hx hb hts (fun w h => List.mem_cons_of_mem _ (inX4 w h)) hown hK hP 1 rfl rfl 1 (by decide) hk_78 (fun _ h9 => h9) rfl dX3_readStrings_20 ?_
  refine lv_iconst (v := 4) hx hb dX3_readStrings_23 (by decide) ?_
  refine lv_icmp_ne (tgt := 42) hx hb dX3_readStrings_24 (by decide) (fun c_24 => ?_) (fun c_24 => ?_)
  · have hf := op_neg c_24 hf
    exact b_X3_readStrings_L42 l D cy h0 h1 h2 b2 h3 a3 fu out C hA hK s0 s1 s3 hf _ _ ls hP hD hS (lv_sub hl [2] rfl)
  · have hf := op_pos c_24 hf
    refine lv_aload_n hx hb dX3_readStrings_27 rfl (lv_at hl 2 rfl) ?_
    refine va_get (ci := 3) (v := .ref h1) (C := RX3) (T := TX3) (N := 6) hx hb hts (fun w h => List.mem_cons_of_mem _ (inX3 w h)) hown hK hP 0 rfl rfl 2 (by decide) hk_24 (fun _ h9 => h9) rfl dX3_readStrings_28 ?_
    refine va_get (ci := 4) (v := .ref h2) (C := RX4) (T := TX4) (N := 6) hx hb hts (fun w h => List.mem_cons_of_mem _ (inX4 w h)) hown hK hP 1 rfl rfl 0 (by decide) hk_156 (fun _ h9 => h9) rfl dX3_readStrings_31 ?_
    refine lv_iload_n hx hb dX3_readStrings_34 rfl (lv_at hl 1 rfl) ?_
    refine lv_iload_n hx hb dX3_readStrings_35 rfl (lv_at hl 0 rfl) ?_
    obtain ⟨q_36, hc_36, hf⟩ := op_bind hf
    refine g_callSi (As := [.ref h2, .int q_4, .int q_12]) (rest := []) (w2 := (w3 cy h0 h1 h3 s0) ++ (w4 cy h1 h2 s1) ++ (wB cy h2 b2) ++ (w5 cy h3 a3 s3)) ⟨hx, hb, hml, hown, hts⟩ (c_X8_areProper l D cy h2 b2 _ fu q_4 q_12 _ hc_36) (va_cwS 3 hts (gi_S ml_RX3_160 sm_X8_areProper in_RX8 cd_X8_areProper) rfl rfl rfl hdX8_areProper ⟨Nat.le_of_ble_eq_true rfl, Nat.le_of_ble_eq_true rfl⟩) rfl hl.1 rfl (Nat.le_of_ble_eq_true rfl) dX3_readStrings_36 hK hP hD hS hA [2] [0, 1, 3, 4, 5, 6, 7, 8, 9, 10, 11] [0, 1, 11, 2, 3, 4, 5, 6, 7, 8, 9, 10] rfl rfl rfl rfl (by decide) rfl rfl (fun H locs hP hD hS => ?_)
    refine lv_if_ne (tgt := 55) hx hb dX3_readStrings_39 (by decide) (fun c_39 => ?_) (fun c_39 => ?_)
    · have hf := op_neg c_39 hf
      refine lv_aload_n hx hb dX3_readStrings_55 rfl (lv_at hl 2 rfl) ?_
      refine va_get (ci := 3) (v := .ref h3) (C := RX3) (T := TX3) (N := 6) hx hb hts (fun w h => List.mem_cons_of_mem _ (inX3 w h)) hown hK hP 0 rfl rfl 3 (by decide) hk_15 (fun _ h9 => h9) rfl dX3_readStrings_56 ?_
      refine lv_iload_n hx hb dX3_readStrings_59 rfl (lv_at hl 1 rfl) ?_
      refine lv_iload_n hx hb dX3_readStrings_60 rfl (lv_at hl 0 rfl) ?_
      obtain ⟨q_61, hc_61, hf⟩ := op_bind hf
      refine g_callVv (As := [.int q_4, .int q_12]) (rest := []) (w2 := (w3 cy h0 h1 h3 s0) ++ (w4 cy h1 h2 s1) ++ (wB cy h2 b2) ++ (w5 cy h3 a3 q_61)) ⟨hx, hb, hml, hown, hts⟩ (c_X5_addTitle l D cy h3 a3 s3 _ fu q_4 q_12 _ hc_61) (cwV 2 hts (gi_V ml_RX3_166 im_X5_addTitle se_X5_addTitle in_RX5 cd_X5_addTitle) rfl rfl rfl hdX5_addTitle ⟨Nat.le_of_ble_eq_true rfl, Nat.le_of_ble_eq_true rfl⟩) (va_recv hK hP (ci := 5) (q0 := 3) rfl rfl) rfl hl.1 rfl (Nat.le_of_ble_eq_true rfl) dX3_readStrings_61 hK hP hD hS hA [3, 4, 5, 6, 7, 8, 9, 10, 11] [0, 1, 2] [0, 1, 2, 3, 4, 5, 6, 7, 8, 9, 10, 11] rfl rfl rfl rfl (by decide) rfl rfl (fun H locs hP hD hS => ?_)
      refine lv_aload_n hx hb dX3_readStrings_64 rfl (lv_at hl 2 rfl) ?_
      refine va_get (ci := 3) (v := .ref h1) (C := RX3) (T := TX3) (N := 6) hx hb hts (fun w h => List.mem_cons_of_mem _ (inX3 w h)) hown hK hP 0 rfl rfl 2 (by decide) hk_24 (fun _ h9 => h9) rfl dX3_readStrings_65 ?_
      obtain ⟨q_68, hc_68, hf⟩ := op_bind hf
      refine g_callVv (As := []) (rest := []) (w2 := (w3 cy h0 h1 h3 s0) ++ (w4 cy h1 h2 q_68) ++ (wB cy h2 b2) ++ (w5 cy h3 a3 q_61)) ⟨hx, hb, hml, hown, hts⟩ (c_X4_step l D cy h1 s1 h2 b2 _ fu _ hc_68) (cwV 0 hts (gi_V ml_RX3_64 im_X4_step se_X4_step in_RX4 cd_X4_step) rfl rfl rfl hdX4_step ⟨Nat.le_of_ble_eq_true rfl, Nat.le_of_ble_eq_true rfl⟩) (va_recv hK hP (ci := 4) (q0 := 1) rfl rfl) rfl hl.1 rfl (Nat.le_of_ble_eq_true rfl) dX3_readStrings_68 hK hP hD hS hA [1, 2] [0, 3, 4, 5, 6, 7, 8, 9, 10, 11] [0, 10, 11, 1, 2, 3, 4, 5, 6, 7, 8, 9] rfl rfl rfl rfl (by decide) rfl rfl (fun H locs hP hD hS => ?_)
      refine lv_iconst (v := 1) hx hb dX3_readStrings_71 (by decide) ?_
      refine lv_istore_n (lv' := [(3, .int 1), (2, .int q_12), (1, .int q_4), (0, .ref h0)]) hx hb dX3_readStrings_72 rfl hl (by decide) rfl (fun ls hl => ?_)
      exact b_X3_readStrings_L73 l D cy h0 h1 h2 b2 h3 a3 fu out C hA hK fu s0 q_68 q_61 1 hf _ _ ls hP hD hS (lv_sub hl [3, 0] rfl)
    · have hf := op_pos c_39 hf
      exact b_X3_readStrings_L42 l D cy h0 h1 h2 b2 h3 a3 fu out C hA hK s0 s1 s3 hf _ _ ls hP hD hS (lv_sub hl [2] rfl)
def f_X3_stringsFit_L89 (k_14 : St → Int32 → Int32 → Int32 → Option (Int32 × St)) (fu : Nat) (s1 : St) (b2 : Nat → Int32) (s3 : St) (u0 : St) (x1 : Int32) (x3 : Int32) (x6 : Int32) : Option (Int32 × St) := k_14 u0 x1 x6 (x3 + 1)
set_option maxHeartbeats 4000000 in
set_option maxRecDepth 100000 in
theorem b_X3_stringsFit_L89 {p : Program} {e : Env} {s : State} {m : MethodId} {args : Array Value} {below : List Frame} {meth : Method} {c : Code} {A : Nat → Prop} (l : Launch) (D : va_G) (cy : Nat → ClassId) (h0 : Nat) (h1 : Nat) (s1 : St) (h2 : Nat) (b2 : Nat → Int32) (h3 : Nat) (a3 : Nat → Nat) (s3 : St) (fu : Nat) (out : Int32 × St) (C : gC p s m args meth c (WS yX3_stringsFit cX3_stringsFit 7 (some .boolean)) cX3_stringsFit 7 (some .boolean) RX3) (hA : ∀ q : Nat, s.heap.size ≤ q → A q) (hK : va_K D vwCl (TY cy) s) (k_14 : St → Int32 → Int32 → Int32 → Option (Int32 × St)) (hk_14 : ∀ (u0 : St) (x1 : Int32) (x2 : Int32) (x3 : Int32), k_14 u0 x1 x2 x3 = some out → ∀ (H : Heap) (locs : List Loc) (ls : Array Slot), va_P D vwCl ((w3 cy h0 h1 h3 u0) ++ (w4 cy h1 h2 s1) ++ (wB cy h2 b2) ++ (w5 cy h3 a3 s3)) H → va_D A ((w3 cy h0 h1 h3 u0) ++ (w4 cy h1 h2 s1) ++ (wB cy h2 b2) ++ (w5 cy h3 a3 s3)) → va_S A s.heap H locs → lv_has ls 7 [(0, .ref h0), (1, .int x1), (2, .int x2), (3, .int x3)] → W p l e ({ frames := 3, cells := 0, slots := 0, locals := 73 } : Room) s m args below meth c H locs 0 0 (MQ below (gQi D cy A out.1 ((w3 cy h0 h1 h3 out.2) ++ (w4 cy h1 h2 s1) ++ (wB cy h2 b2) ++ (w5 cy h3 a3 s3))) args s 0 0 A) (F0 m 14 ls [])) :
    ∀ (u0 : St) (x1 : Int32) (x3 : Int32) (x6 : Int32), f_X3_stringsFit_L89 k_14 fu s1 b2 s3 u0 x1 x3 x6 = some out → ∀ (H : Heap) (locs : List Loc) (ls : Array Slot), va_P D vwCl ((w3 cy h0 h1 h3 u0) ++ (w4 cy h1 h2 s1) ++ (wB cy h2 b2) ++ (w5 cy h3 a3 s3)) H → va_D A ((w3 cy h0 h1 h3 u0) ++ (w4 cy h1 h2 s1) ++ (wB cy h2 b2) ++ (w5 cy h3 a3 s3)) → va_S A s.heap H locs → lv_has ls 7 [(0, .ref h0), (1, .int x1), (3, .int x3), (6, .int x6)] → W p l e ({ frames := 3, cells := 0, slots := 0, locals := 73 } : Room) s m args below meth c H locs 0 0 (MQ below (gQi D cy A out.1 ((w3 cy h0 h1 h3 out.2) ++ (w4 cy h1 h2 s1) ++ (wB cy h2 b2) ++ (w5 cy h3 a3 s3))) args s 0 0 A) (F0 m 89 ls []) := by
  obtain ⟨hx, hb, hr, hml, hown, hts, hlk⟩ := id C
  have hown : s.vm.findClass RX3 = some m.cls := hown
  intro u0 x1 x3 x6 hf H locs ls hP hD hS hl
  unfold f_X3_stringsFit_L89 at hf
  refine lv_iload hx hb dX3_stringsFit_89 (lv_at hl 3 rfl) ?_
  refine lv_istore_n (lv' := [(2, .int x6), (0, .ref h0), (1, .int x1), (3, .int x3), (6, .int x6)]) hx hb dX3_stringsFit_91 rfl hl (by decide) rfl (fun ls hl => ?_)
  refine lv_iinc (v := x3 + 1) (lv' := [(3, .int (x3 + 1)), (2, .int x6), (0, .ref h0), (1, .int x1), (6, .int x6)]) hx hb dX3_stringsFit_92 hl (k := 3) rfl rfl (by decide) rfl (fun ls hl => ?_)
  refine lv_goto (tgt := 14) hx hb dX3_stringsFit_95 (by decide) ?_
  exact hk_14 u0 x1 x6 (x3 + 1) hf _ _ ls hP hD hS (lv_sub hl [2, 3, 1, 0] rfl)
def f_X3_stringsFit_L14  (fu : Nat) (s1 : St) (b2 : Nat → Int32) (s3 : St) : Nat → St → Int32 → Int32 → Int32 → Option (Int32 × St)
  | 0, _, _, _, _ => none
  | n_14 + 1, u0, x1, x2, x3 => if (s3.1 0) ≤ x3 then (if x2 = (-1) then (some (1, u0)) else ((f_X3_fail fu u0 4 x2).bind (fun q_106 => if q_106.1 = 0 then (some (0, q_106.2)) else (some (1, q_106.2))))) else ((f_X5_stringFrom fu s3 x1 x3).bind (fun q_31 => (f_X5_stringLength fu s3 x1 x3).bind (fun q_42 => (f_X5_widthOf fu s3 x3).bind (fun q_69 => (f_X8_fit fu b2 q_31 q_42 q_69).bind (fun q_72 => if q_72 = 0 then (if x2 = (-1) then (f_X3_stringsFit_L89 (f_X3_stringsFit_L14 fu s1 b2 s3 n_14) fu s1 b2 s3 u0 x1 x3 (q_31 - 1)) else (if x2 ≤ (q_31 - 1) then (f_X3_stringsFit_L14 fu s1 b2 s3 n_14 u0 x1 x2 (x3 + 1)) else (f_X3_stringsFit_L89 (f_X3_stringsFit_L14 fu s1 b2 s3 n_14) fu s1 b2 s3 u0 x1 x3 (q_31 - 1)))) else (f_X3_stringsFit_L14 fu s1 b2 s3 n_14 u0 x1 x2 (x3 + 1)))))))
set_option maxHeartbeats 4000000 in
set_option maxRecDepth 100000 in
theorem b_X3_stringsFit_L14 {p : Program} {e : Env} {s : State} {m : MethodId} {args : Array Value} {below : List Frame} {meth : Method} {c : Code} {A : Nat → Prop} (l : Launch) (D : va_G) (cy : Nat → ClassId) (h0 : Nat) (h1 : Nat) (s1 : St) (h2 : Nat) (b2 : Nat → Int32) (h3 : Nat) (a3 : Nat → Nat) (s3 : St) (fu : Nat) (out : Int32 × St) (C : gC p s m args meth c (WS yX3_stringsFit cX3_stringsFit 7 (some .boolean)) cX3_stringsFit 7 (some .boolean) RX3) (hA : ∀ q : Nat, s.heap.size ≤ q → A q) (hK : va_K D vwCl (TY cy) s)  :
    ∀ (n_14 : Nat), ∀ (u0 : St) (x1 : Int32) (x2 : Int32) (x3 : Int32), f_X3_stringsFit_L14 fu s1 b2 s3 n_14 u0 x1 x2 x3 = some out → ∀ (H : Heap) (locs : List Loc) (ls : Array Slot), va_P D vwCl ((w3 cy h0 h1 h3 u0) ++ (w4 cy h1 h2 s1) ++ (wB cy h2 b2) ++ (w5 cy h3 a3 s3)) H → va_D A ((w3 cy h0 h1 h3 u0) ++ (w4 cy h1 h2 s1) ++ (wB cy h2 b2) ++ (w5 cy h3 a3 s3)) → va_S A s.heap H locs → lv_has ls 7 [(0, .ref h0), (1, .int x1), (2, .int x2), (3, .int x3)] → W p l e ({ frames := 3, cells := 0, slots := 0, locals := 73 } : Room) s m args below meth c H locs 0 0 (MQ below (gQi D cy A out.1 ((w3 cy h0 h1 h3 out.2) ++ (w4 cy h1 h2 s1) ++ (wB cy h2 b2) ++ (w5 cy h3 a3 s3))) args s 0 0 A) (F0 m 14 ls []) := by
  obtain ⟨hx, hb, hr, hml, hown, hts, hlk⟩ := id C
  have hown : s.vm.findClass RX3 = some m.cls := hown
  have hk_15 := hts _ (List.mem_cons_of_mem _ fl_RX3_15)
  have hk_73 := hts _ (List.mem_cons_of_mem _ fl_RX3_73)
  have hk_24 := hts _ (List.mem_cons_of_mem _ fl_RX3_24)
  have hk_156 := hts _ (List.mem_cons_of_mem _ fl_RX3_156)
  intro n_14
  induction n_14 with
  | zero => intro u0 x1 x2 x3 hf; exact op_no hf
  | succ n_14 ih_14 =>
    intro u0 x1 x2 x3 hf H locs ls hP hD hS hl
    rw [f_X3_stringsFit_L14] at hf
    refine lv_iload_n hx hb dX3_stringsFit_14 rfl (lv_at hl 3 rfl) ?_
    refine lv_aload_n hx hb dX3_stringsFit_15 rfl (lv_at hl 0 rfl) ?_
    refine va_get (ci := 3) (v := .ref h3) (C := RX3) (T := TX3) (N := 6) hx hb hts (fun w h => List.mem_cons_of_mem _ (inX3 w h)) hown hK hP 0 rfl rfl 3 (by decide) hk_15 (fun _ h9 => h9) rfl dX3_stringsFit_16 ?_
    refine va_get (ci := 5) (v := .int (s3.1 0)) (C := RX5) (T := TX5) (N := 13) hx hb hts (fun w h => List.mem_cons_of_mem _ (inX5 w h)) hown hK hP 3 rfl rfl 0 (by decide) hk_73 (fun _ h9 => h9) rfl dX3_stringsFit_19 ?_
    refine lv_icmp_ge (tgt := 98) hx hb dX3_stringsFit_22 (by decide) (fun c_22 => ?_) (fun c_22 => ?_)
    · have hf := op_pos c_22 hf
      refine lv_iload_n hx hb dX3_stringsFit_98 rfl (lv_at hl 2 rfl) ?_
      refine lv_iconst (v := (-1)) hx hb dX3_stringsFit_99 (by decide) ?_
      refine lv_icmp_eq (tgt := 112) hx hb dX3_stringsFit_100 (by decide) (fun c_100 => ?_) (fun c_100 => ?_)
      · have hf := op_pos c_100 hf
        refine lv_iconst (v := 1) hx hb dX3_stringsFit_112 (by decide) ?_
        refine lv_goto (tgt := 117) hx hb dX3_stringsFit_113 (by decide) ?_
        rw [← Option.some.inj hf]
        exact g_zret hx hb hr hlk (show isB 1 = true by decide) hK hP hD hS dX3_stringsFit_117
      · have hf := op_neg c_100 hf
        refine lv_aload_n hx hb dX3_stringsFit_103 rfl (lv_at hl 0 rfl) ?_
        refine lv_iconst (v := 4) hx hb dX3_stringsFit_104 (by decide) ?_
        refine lv_iload_n hx hb dX3_stringsFit_105 rfl (lv_at hl 2 rfl) ?_
        obtain ⟨q_106, hc_106, hf⟩ := op_bind hf
        refine g_callVi (As := [.int 4, .int x2]) (rest := []) (w2 := (w3 cy h0 h1 h3 q_106.2) ++ (w4 cy h1 h2 s1) ++ (wB cy h2 b2) ++ (w5 cy h3 a3 s3)) ⟨hx, hb, hml, hown, hts⟩ (c_X3_fail l D cy h0 h1 h3 u0 _ fu 4 x2 _ hc_106) (cwV 2 hts (gi_V ml_RX3_60 im_X3_fail se_X3_fail in_RX3 cd_X3_fail) rfl rfl rfl hdX3_fail ⟨Nat.le_of_ble_eq_true rfl, Nat.le_of_ble_eq_true rfl⟩) (va_recv hK hP (ci := 3) (q0 := 0) rfl rfl) rfl hl.1 rfl (Nat.le_of_ble_eq_true rfl) dX3_stringsFit_106 hK hP hD hS hA [0] [1, 2, 3, 4, 5, 6, 7, 8, 9, 10, 11] [11, 0, 1, 2, 3, 4, 5, 6, 7, 8, 9, 10] rfl rfl rfl rfl (by decide) rfl rfl (fun H locs hP hD hS => ?_)
        refine lv_if_eq (tgt := 116) hx hb dX3_stringsFit_109 (by decide) (fun c_109 => ?_) (fun c_109 => ?_)
        · have hf := op_pos c_109 hf
          refine lv_iconst (v := 0) hx hb dX3_stringsFit_116 (by decide) ?_
          rw [← Option.some.inj hf]
          exact g_zret hx hb hr hlk (show isB 0 = true by decide) hK hP hD hS dX3_stringsFit_117
        · have hf := op_neg c_109 hf
          refine lv_iconst (v := 1) hx hb dX3_stringsFit_112 (by decide) ?_
          refine lv_goto (tgt := 117) hx hb dX3_stringsFit_113 (by decide) ?_
          rw [← Option.some.inj hf]
          exact g_zret hx hb hr hlk (show isB 1 = true by decide) hK hP hD hS dX3_stringsFit_117
    · have hf := op_neg c_22 hf
      refine lv_aload_n hx hb dX3_stringsFit_25 rfl (lv_at hl 0 rfl) ?_
      refine va_get (ci := 3) (v := .ref h3) (C := RX3) (T := TX3) (N := 6) hx hb hts (fun w h => List.mem_cons_of_mem _ (inX3 w h)) hown hK hP 0 rfl rfl 3 (by decide) hk_15 (fun _ h9 => h9) rfl dX3_stringsFit_26 ?_
      refine lv_iload_n hx hb dX3_stringsFit_29 rfl (lv_at hl 1 rfl) ?_
      refine lv_iload_n hx hb dX3_stringsFit_30 rfl (lv_at hl 3 rfl) ?_
      obtain ⟨q_31, hc_31, hf⟩ := op_bind hf
      refine g_callVi (As := [.int x1, .int x3]) (rest := []) (w2 := (w3 cy h0 h1 h3 u0) ++ (w4 cy h1 h2 s1) ++ (wB cy h2 b2) ++ (w5 cy h3 a3 s3)) ⟨hx, hb, hml, hown, hts⟩ (c_X5_stringFrom l D cy h3 a3 s3 _ fu x1 x3 _ hc_31) (cwV 2 hts (gi_V ml_RX3_183 im_X5_stringFrom se_X5_stringFrom in_RX5 cd_X5_stringFrom) rfl rfl rfl hdX5_stringFrom ⟨Nat.le_of_ble_eq_true rfl, Nat.le_of_ble_eq_true rfl⟩) (va_recv hK hP (ci := 5) (q0 := 3) rfl rfl) rfl hl.1 rfl (Nat.le_of_ble_eq_true rfl) dX3_stringsFit_31 hK hP hD hS hA [3, 4, 5, 6, 7, 8, 9, 10, 11] [0, 1, 2] [0, 1, 2, 3, 4, 5, 6, 7, 8, 9, 10, 11] rfl rfl rfl rfl (by decide) rfl rfl (fun H locs hP hD hS => ?_)
      refine lv_istore (lv' := [(4, .int q_31), (0, .ref h0), (1, .int x1), (2, .int x2), (3, .int x3)]) hx hb dX3_stringsFit_34 hl (by decide) rfl (fun ls hl => ?_)
      refine lv_aload_n hx hb dX3_stringsFit_36 rfl (lv_at hl 1 rfl) ?_
      refine va_get (ci := 3) (v := .ref h3) (C := RX3) (T := TX3) (N := 6) hx hb hts (fun w h => List.mem_cons_of_mem _ (inX3 w h)) hown hK hP 0 rfl rfl 3 (by decide) hk_15 (fun _ h9 => h9) rfl dX3_stringsFit_37 ?_
      refine lv_iload_n hx hb dX3_stringsFit_40 rfl (lv_at hl 2 rfl) ?_
      refine lv_iload_n hx hb dX3_stringsFit_41 rfl (lv_at hl 4 rfl) ?_
      obtain ⟨q_42, hc_42, hf⟩ := op_bind hf
      refine g_callVi (As := [.int x1, .int x3]) (rest := []) (w2 := (w3 cy h0 h1 h3 u0) ++ (w4 cy h1 h2 s1) ++ (wB cy h2 b2) ++ (w5 cy h3 a3 s3)) ⟨hx, hb, hml, hown, hts⟩ (c_X5_stringLength l D cy h3 a3 s3 _ fu x1 x3 _ hc_42) (cwV 2 hts (gi_V ml_RX3_186 im_X5_stringLength se_X5_stringLength in_RX5 cd_X5_stringLength) rfl rfl rfl hdX5_stringLength ⟨Nat.le_of_ble_eq_true rfl, Nat.le_of_ble_eq_true rfl⟩) (va_recv hK hP (ci := 5) (q0 := 3) rfl rfl) rfl hl.1 rfl (Nat.le_of_ble_eq_true rfl) dX3_stringsFit_42 hK hP hD hS hA [3, 4, 5, 6, 7, 8, 9, 10, 11] [0, 1, 2] [0, 1, 2, 3, 4, 5, 6, 7, 8, 9, 10, 11] rfl rfl rfl rfl (by decide) rfl rfl (fun H locs hP hD hS => ?_)
      refine lv_istore (lv' := [(5, .int q_42), (4, .int q_31), (0, .ref h0), (1, .int x1), (2, .int x2), (3, .int x3)]) hx hb dX3_stringsFit_45 hl (by decide) rfl (fun ls hl => ?_)
      refine lv_iload hx hb dX3_stringsFit_47 (lv_at hl 1 rfl) ?_
      refine lv_iconst (v := 1) hx hb dX3_stringsFit_49 (by decide) ?_
      refine lv_isub hx hb dX3_stringsFit_50 ?_
      refine lv_istore (lv' := [(6, .int (q_31 - 1)), (5, .int q_42), (4, .int q_31), (0, .ref h0), (1, .int x1), (2, .int x2), (3, .int x3)]) hx hb dX3_stringsFit_51 hl (by decide) rfl (fun ls hl => ?_)
      refine lv_aload_n hx hb dX3_stringsFit_53 rfl (lv_at hl 3 rfl) ?_
      refine va_get (ci := 3) (v := .ref h1) (C := RX3) (T := TX3) (N := 6) hx hb hts (fun w h => List.mem_cons_of_mem _ (inX3 w h)) hown hK hP 0 rfl rfl 2 (by decide) hk_24 (fun _ h9 => h9) rfl dX3_stringsFit_54 ?_
      refine va_get (ci := 4) (v := .ref h2) (C := RX4) (T := TX4) (N := 6) hx hb hts (fun w h => List.mem_cons_of_mem _ (inX4 w h)) hown hK hP 1 rfl rfl 0 (by decide) hk_156 (fun _ h9 => h9) rfl dX3_stringsFit_57 ?_
      refine lv_iload hx hb dX3_stringsFit_60 (lv_at hl 2 rfl) ?_
      refine lv_iload hx hb dX3_stringsFit_62 (lv_at hl 1 rfl) ?_
      refine lv_aload_n hx hb dX3_stringsFit_64 rfl (lv_at hl 3 rfl) ?_
      refine va_get (ci := 3) (v := .ref h3) (C := RX3) (T := TX3) (N := 6) hx hb hts (fun w h => List.mem_cons_of_mem _ (inX3 w h)) hown hK hP 0 rfl rfl 3 (by decide) hk_15 (fun _ h9 => h9) rfl dX3_stringsFit_65 ?_
      refine lv_iload_n hx hb dX3_stringsFit_68 rfl (lv_at hl 6 rfl) ?_
      obtain ⟨q_69, hc_69, hf⟩ := op_bind hf
      refine g_callVi (As := [.int x3]) (rest := [.int q_42, .int q_31, .ref h2]) (w2 := (w3 cy h0 h1 h3 u0) ++ (w4 cy h1 h2 s1) ++ (wB cy h2 b2) ++ (w5 cy h3 a3 s3)) ⟨hx, hb, hml, hown, hts⟩ (c_X5_widthOf l D cy h3 a3 s3 _ fu x3 _ hc_69) (cwV 1 hts (gi_V ml_RX3_188 im_X5_widthOf se_X5_widthOf in_RX5 cd_X5_widthOf) rfl rfl rfl hdX5_widthOf ⟨Nat.le_of_ble_eq_true rfl, Nat.le_of_ble_eq_true rfl⟩) (va_recv hK hP (ci := 5) (q0 := 3) rfl rfl) rfl hl.1 rfl (Nat.le_of_ble_eq_true rfl) dX3_stringsFit_69 hK hP hD hS hA [3, 4, 5, 6, 7, 8, 9, 10, 11] [0, 1, 2] [0, 1, 2, 3, 4, 5, 6, 7, 8, 9, 10, 11] rfl rfl rfl rfl (by decide) rfl rfl (fun H locs hP hD hS => ?_)
      obtain ⟨q_72, hc_72, hf⟩ := op_bind hf
      refine g_callSi (As := [.ref h2, .int q_31, .int q_42, .int q_69]) (rest := []) (w2 := (w3 cy h0 h1 h3 u0) ++ (w4 cy h1 h2 s1) ++ (wB cy h2 b2) ++ (w5 cy h3 a3 s3)) ⟨hx, hb, hml, hown, hts⟩ (c_X8_fit l D cy h2 b2 _ fu q_31 q_42 q_69 _ hc_72) (va_cwS 4 hts (gi_S ml_RX3_192 sm_X8_fit in_RX8 cd_X8_fit) rfl rfl rfl hdX8_fit ⟨Nat.le_of_ble_eq_true rfl, Nat.le_of_ble_eq_true rfl⟩) rfl hl.1 rfl (Nat.le_of_ble_eq_true rfl) dX3_stringsFit_72 hK hP hD hS hA [2] [0, 1, 3, 4, 5, 6, 7, 8, 9, 10, 11] [0, 1, 11, 2, 3, 4, 5, 6, 7, 8, 9, 10] rfl rfl rfl rfl (by decide) rfl rfl (fun H locs hP hD hS => ?_)
      refine lv_if_ne (tgt := 92) hx hb dX3_stringsFit_75 (by decide) (fun c_75 => ?_) (fun c_75 => ?_)
      · have hf := op_neg c_75 hf
        refine lv_iinc (v := x3 + 1) (lv' := [(3, .int (x3 + 1)), (6, .int (q_31 - 1)), (5, .int q_42), (4, .int q_31), (0, .ref h0), (1, .int x1), (2, .int x2)]) hx hb dX3_stringsFit_92 hl (k := 6) rfl rfl (by decide) rfl (fun ls hl => ?_)
        refine lv_goto (tgt := 14) hx hb dX3_stringsFit_95 (by decide) ?_
        exact ih_14 u0 x1 x2 (x3 + 1) hf _ _ ls hP hD hS (lv_sub hl [4, 5, 6, 0] rfl)
      · have hf := op_pos c_75 hf
        refine lv_iload_n hx hb dX3_stringsFit_78 rfl (lv_at hl 5 rfl) ?_
        refine lv_iconst (v := (-1)) hx hb dX3_stringsFit_79 (by decide) ?_
        refine lv_icmp_eq (tgt := 89) hx hb dX3_stringsFit_80 (by decide) (fun c_80 => ?_) (fun c_80 => ?_)
        · have hf := op_pos c_80 hf
          exact b_X3_stringsFit_L89 l D cy h0 h1 s1 h2 b2 h3 a3 s3 fu out C hA hK (f_X3_stringsFit_L14 fu s1 b2 s3 n_14) ih_14 u0 x1 x3 (q_31 - 1) hf _ _ ls hP hD hS (lv_sub hl [3, 4, 6, 0] rfl)
        · have hf := op_neg c_80 hf
          refine lv_iload hx hb dX3_stringsFit_83 (lv_at hl 0 rfl) ?_
          refine lv_iload_n hx hb dX3_stringsFit_85 rfl (lv_at hl 5 rfl) ?_
          refine lv_icmp_ge (tgt := 92) hx hb dX3_stringsFit_86 (by decide) (fun c_86 => ?_) (fun c_86 => ?_)
          · have hf := op_pos c_86 hf
            refine lv_iinc (v := x3 + 1) (lv' := [(3, .int (x3 + 1)), (6, .int (q_31 - 1)), (5, .int q_42), (4, .int q_31), (0, .ref h0), (1, .int x1), (2, .int x2)]) hx hb dX3_stringsFit_92 hl (k := 6) rfl rfl (by decide) rfl (fun ls hl => ?_)
            refine lv_goto (tgt := 14) hx hb dX3_stringsFit_95 (by decide) ?_
            exact ih_14 u0 x1 x2 (x3 + 1) hf _ _ ls hP hD hS (lv_sub hl [4, 5, 6, 0] rfl)
          · have hf := op_neg c_86 hf
            exact b_X3_stringsFit_L89 l D cy h0 h1 s1 h2 b2 h3 a3 s3 fu out C hA hK (f_X3_stringsFit_L14 fu s1 b2 s3 n_14) ih_14 u0 x1 x3 (q_31 - 1) hf _ _ ls hP hD hS (lv_sub hl [3, 4, 6, 0] rfl)
def f_X3_stringsFit (fu : Nat) (s1 : St) (b2 : Nat → Int32) (s3 : St) (s0 : St)  : Option (Int32 × St) := f_X3_stringsFit_L14 fu s1 b2 s3 fu s0 ((s3.1 1) - 1) (-1) 0
theorem hdX3_stringsFit : yX3_stringsFit.cls = RX3 ∧ yX3_stringsFit.cls ≠ "java/lang/invoke/MethodHandle" ∧ yX3_stringsFit.cls ≠ "java/lang/invoke/VarHandle" ∧ (parseMethodDescriptor yX3_stringsFit.desc).map (fun d => d.parameters.length) = some 0 := by decide +kernel
set_option maxHeartbeats 4000000 in
set_option maxRecDepth 100000 in
theorem c_X3_stringsFit (l : Launch) (D : va_G) (cy : Nat → ClassId) (h0 : Nat) (s0 : St) (h1 : Nat) (s1 : St) (h2 : Nat) (b2 : Nat → Int32) (h3 : Nat) (a3 : Nat → Nat) (s3 : St) (sz fu : Nat)  (out : Int32 × St) (hf : f_X3_stringsFit fu s1 b2 s3 s0 = some out) :
    Met l yX3_stringsFit (WS yX3_stringsFit cX3_stringsFit 7 (some .boolean)) ({ frames := 3, cells := 0, slots := 0, locals := 73 } : Room) (va_Pc [.ref h0] (gP D cy sz ((w3 cy h0 h1 h3 s0) ++ (w4 cy h1 h2 s1) ++ (wB cy h2 b2) ++ (w5 cy h3 a3 s3)))) ((fun A : Nat → Prop => gQi D cy A out.1 ((w3 cy h0 h1 h3 out.2) ++ (w4 cy h1 h2 s1) ++ (wB cy h2 b2) ++ (w5 cy h3 a3 s3))) (va_A ((w3 cy h0 h1 h3 s0) ++ (w4 cy h1 h2 s1) ++ (wB cy h2 b2) ++ (w5 cy h3 a3 s3)) sz)) 0 0 (va_A ((w3 cy h0 h1 h3 s0) ++ (w4 cy h1 h2 s1) ++ (wB cy h2 b2) ++ (w5 cy h3 a3 s3)) sz) := by
  refine g_met (cc := cX3_stringsFit) (maxL := 7) (ret := (some .boolean)) (fun A : Nat → Prop => gQi D cy A out.1 ((w3 cy h0 h1 h3 out.2) ++ (w4 cy h1 h2 s1) ++ (wB cy h2 b2) ++ (w5 cy h3 a3 s3))) (by decide +kernel) rfl (Nat.le_of_ble_eq_true rfl) ?_
  intro p e s m below meth c A C hA hK hP hD ls hl
  obtain ⟨hx, hb, hr, hml, hown, hts, hlk⟩ := id C
  have hown : s.vm.findClass RX3 = some m.cls := hown
  have hS : va_S A s.heap s.heap [] := va_S.rf
  have hl : lv_has ls 7 [(0, .ref h0)] := hl
  have hk_15 := hts _ (List.mem_cons_of_mem _ fl_RX3_15)
  have hk_180 := hts _ (List.mem_cons_of_mem _ fl_RX3_180)
  unfold f_X3_stringsFit at hf
  refine lv_aload_n hx hb dX3_stringsFit_0 rfl (lv_at hl 0 rfl) ?_
  refine va_get (ci := 3) (v := .ref h3) (C := RX3) (T := TX3) (N := 6) hx hb hts (fun w h => List.mem_cons_of_mem _ (inX3 w h)) hown hK hP 0 rfl rfl 3 (by decide) hk_15 (fun _ h9 => h9) rfl dX3_stringsFit_1 ?_
  refine va_get (ci := 5) (v := .int (s3.1 1)) (C := RX5) (T := TX5) (N := 13) hx hb hts (fun w h => List.mem_cons_of_mem _ (inX5 w h)) hown hK hP 3 rfl rfl 1 (by decide) hk_180 (fun _ h9 => h9) rfl dX3_stringsFit_4 ?_
  refine lv_iconst (v := 1) hx hb dX3_stringsFit_7 (by decide) ?_
  refine lv_isub hx hb dX3_stringsFit_8 ?_
  refine lv_istore_n (lv' := [(1, .int ((s3.1 1) - 1)), (0, .ref h0)]) hx hb dX3_stringsFit_9 rfl hl (by decide) rfl (fun ls hl => ?_)
  refine lv_iconst (v := (-1)) hx hb dX3_stringsFit_10 (by decide) ?_
  refine lv_istore_n (lv' := [(2, .int (-1)), (1, .int ((s3.1 1) - 1)), (0, .ref h0)]) hx hb dX3_stringsFit_11 rfl hl (by decide) rfl (fun ls hl => ?_)
  refine lv_iconst (v := 0) hx hb dX3_stringsFit_12 (by decide) ?_
  refine lv_istore_n (lv' := [(3, .int 0), (2, .int (-1)), (1, .int ((s3.1 1) - 1)), (0, .ref h0)]) hx hb dX3_stringsFit_13 rfl hl (by decide) rfl (fun ls hl => ?_)
  exact b_X3_stringsFit_L14 l D cy h0 h1 s1 h2 b2 h3 a3 s3 fu out C hA hK fu s0 ((s3.1 1) - 1) (-1) 0 hf _ _ ls hP hD hS (lv_sub hl [3, 2, 1, 0] rfl)
def f_X3_readCut (fu : Nat) (b2 : Nat → Int32) (s0 : St) (s1 : St) (s3 : St)  : Option (Int32 × St × St × St) := (f_X5_isFullOfCuts fu s3).bind (fun q_4 => if q_4 = 0 then ((f_X4_step fu b2 s1).bind (fun q_27 => if (q_27.1 1) = 2 then ((f_X5_hasCut fu s3 (q_27.1 3)).bind (fun q_67 => if q_67 = 0 then ((f_X4_step fu b2 q_27).bind (fun q_90 => (f_X3_readNumber fu b2 s0 q_90 1 999).bind (fun q_98 => if q_98.1 = 0 then (some (0, q_98.2.1, q_98.2.2, s3)) else ((f_X3_readNumber fu b2 q_98.2.1 q_98.2.2 1 999).bind (fun q_116 => if q_116.1 = 0 then (some (0, q_116.2.1, q_116.2.2, s3)) else (if (q_98.2.1.1 4) < (q_116.2.1.1 4) then ((f_X5_addCut fu s3 (q_27.1 3) (q_98.2.1.1 4) (q_116.2.1.1 4)).bind (fun q_152 => (f_X3_readSemicolon fu b2 q_116.2.1 q_116.2.2).bind (fun q_156 => if isB q_156.1 = true then (some (q_156.1, q_156.2.1, q_156.2.2, q_152)) else none))) else ((f_X3_fail fu q_116.2.1 3 (q_116.2.1.1 5)).bind (fun q_138 => if isB q_138.1 = true then (some (q_138.1, q_138.2, q_116.2.2, s3)) else none)))))))) else ((f_X3_fail fu s0 3 (q_27.1 2)).bind (fun q_82 => if isB q_82.1 = true then (some (q_82.1, q_82.2, q_27, s3)) else none)))) else ((f_X3_fail fu s0 1 (q_27.1 2)).bind (fun q_50 => if isB q_50.1 = true then (some (q_50.1, q_50.2, q_27, s3)) else none)))) else ((f_X3_fail fu s0 2 (s1.1 2)).bind (fun q_19 => if isB q_19.1 = true then (some (q_19.1, q_19.2, s1, s3)) else none)))
theorem hdX3_readCut : yX3_readCut.cls = RX3 ∧ yX3_readCut.cls ≠ "java/lang/invoke/MethodHandle" ∧ yX3_readCut.cls ≠ "java/lang/invoke/VarHandle" ∧ (parseMethodDescriptor yX3_readCut.desc).map (fun d => d.parameters.length) = some 0 := by decide +kernel
set_option maxHeartbeats 4000000 in
set_option maxRecDepth 100000 in
theorem c_X3_readCut (l : Launch) (D : va_G) (cy : Nat → ClassId) (h0 : Nat) (s0 : St) (h1 : Nat) (s1 : St) (h2 : Nat) (b2 : Nat → Int32) (h3 : Nat) (a3 : Nat → Nat) (s3 : St) (sz fu : Nat)  (out : Int32 × St × St × St) (hf : f_X3_readCut fu b2 s0 s1 s3 = some out) :
    Met l yX3_readCut (WS yX3_readCut cX3_readCut 3 (some .boolean)) ({ frames := 4, cells := 0, slots := 0, locals := 84 } : Room) (va_Pc [.ref h0] (gP D cy sz ((w3 cy h0 h1 h3 s0) ++ (w4 cy h1 h2 s1) ++ (wB cy h2 b2) ++ (w5 cy h3 a3 s3)))) ((fun A : Nat → Prop => gQi D cy A out.1 ((w3 cy h0 h1 h3 out.2.1) ++ (w4 cy h1 h2 out.2.2.1) ++ (wB cy h2 b2) ++ (w5 cy h3 a3 out.2.2.2))) (va_A ((w3 cy h0 h1 h3 s0) ++ (w4 cy h1 h2 s1) ++ (wB cy h2 b2) ++ (w5 cy h3 a3 s3)) sz)) 0 0 (va_A ((w3 cy h0 h1 h3 s0) ++ (w4 cy h1 h2 s1) ++ (wB cy h2 b2) ++ (w5 cy h3 a3 s3)) sz) := by
  refine g_met (cc := cX3_readCut) (maxL := 3) (ret := (some .boolean)) (fun A : Nat → Prop => gQi D cy A out.1 ((w3 cy h0 h1 h3 out.2.1) ++ (w4 cy h1 h2 out.2.2.1) ++ (wB cy h2 b2) ++ (w5 cy h3 a3 out.2.2.2))) (by decide +kernel) rfl (Nat.le_of_ble_eq_true rfl) ?_
  intro p e s m below meth c A C hA hK hP hD ls hl
  obtain ⟨hx, hb, hr, hml, hown, hts, hlk⟩ := id C
  have hown : s.vm.findClass RX3 = some m.cls := hown
  have hS : va_S A s.heap s.heap [] := va_S.rf
  have hl : lv_has ls 3 [(0, .ref h0)] := hl
  have hk_15 := hts _ (List.mem_cons_of_mem _ fl_RX3_15)
  have hk_24 := hts _ (List.mem_cons_of_mem _ fl_RX3_24)
  have hk_78 := hts _ (List.mem_cons_of_mem _ fl_RX3_78)
  have hk_81 := hts _ (List.mem_cons_of_mem _ fl_RX3_81)
  have hk_70 := hts _ (List.mem_cons_of_mem _ fl_RX3_70)
  have hk_84 := hts _ (List.mem_cons_of_mem _ fl_RX3_84)
  have hk_57 := hts _ (List.mem_cons_of_mem _ fl_RX3_57)
  unfold f_X3_readCut at hf
  refine lv_aload_n hx hb dX3_readCut_0 rfl (lv_at hl 0 rfl) ?_
  refine va_get (ci := 3) (v := .ref h3) (C := RX3) (T := TX3) (N := 6) hx hb hts (fun w h => List.mem_cons_of_mem _ (inX3 w h)) hown hK hP 0 rfl rfl 3 (by decide) hk_15 (fun _ h9 => h9) rfl dX3_readCut_1 ?_
  obtain ⟨q_4, hc_4, hf⟩ := op_bind hf
  refine g_callVi (As := []) (rest := []) (w2 := (w3 cy h0 h1 h3 s0) ++ (w4 cy h1 h2 s1) ++ (wB cy h2 b2) ++ (w5 cy h3 a3 s3)) ⟨hx, hb, hml, hown, hts⟩ (c_X5_isFullOfCuts l D cy h3 a3 s3 _ fu _ hc_4) (cwV 0 hts (gi_V ml_RX3_196 im_X5_isFullOfCuts se_X5_isFullOfCuts in_RX5 cd_X5_isFullOfCuts) rfl rfl rfl hdX5_isFullOfCuts ⟨Nat.le_of_ble_eq_true rfl, Nat.le_of_ble_eq_true rfl⟩) (va_recv hK hP (ci := 5) (q0 := 3) rfl rfl) rfl hl.1 rfl (Nat.le_of_ble_eq_true rfl) dX3_readCut_4 hK hP hD hS hA [3, 4, 5, 6, 7, 8, 9, 10, 11] [0, 1, 2] [0, 1, 2, 3, 4, 5, 6, 7, 8, 9, 10, 11] rfl rfl rfl rfl (by decide) rfl rfl (fun H locs hP hD hS => ?_)
  refine lv_if_eq (tgt := 23) hx hb dX3_readCut_7 (by decide) (fun c_7 => ?_) (fun c_7 => ?_)
  · have hf := op_pos c_7 hf
    refine lv_aload_n hx hb dX3_readCut_23 rfl (lv_at hl 0 rfl) ?_
    refine va_get (ci := 3) (v := .ref h1) (C := RX3) (T := TX3) (N := 6) hx hb hts (fun w h => List.mem_cons_of_mem _ (inX3 w h)) hown hK hP 0 rfl rfl 2 (by decide) hk_24 (fun _ h9 => h9) rfl dX3_readCut_24 ?_
    obtain ⟨q_27, hc_27, hf⟩ := op_bind hf
    refine g_callVv (As := []) (rest := []) (w2 := (w3 cy h0 h1 h3 s0) ++ (w4 cy h1 h2 q_27) ++ (wB cy h2 b2) ++ (w5 cy h3 a3 s3)) ⟨hx, hb, hml, hown, hts⟩ (c_X4_step l D cy h1 s1 h2 b2 _ fu _ hc_27) (cwV 0 hts (gi_V ml_RX3_64 im_X4_step se_X4_step in_RX4 cd_X4_step) rfl rfl rfl hdX4_step ⟨Nat.le_of_ble_eq_true rfl, Nat.le_of_ble_eq_true rfl⟩) (va_recv hK hP (ci := 4) (q0 := 1) rfl rfl) rfl hl.1 rfl (Nat.le_of_ble_eq_true rfl) dX3_readCut_27 hK hP hD hS hA [1, 2] [0, 3, 4, 5, 6, 7, 8, 9, 10, 11] [0, 10, 11, 1, 2, 3, 4, 5, 6, 7, 8, 9] rfl rfl rfl rfl (by decide) rfl rfl (fun H locs hP hD hS => ?_)
    refine lv_aload_n hx hb dX3_readCut_30 rfl (lv_at hl 0 rfl) ?_
    refine va_get (ci := 3) (v := .ref h1) (C := RX3) (T := TX3) (N := 6) hx hb hts (fun w h => List.mem_cons_of_mem _ (inX3 w h)) hown hK hP 0 rfl rfl 2 (by decide) hk_24 (fun _ h9 => h9) rfl dX3_readCut_31 ?_
    refine va_get (ci := 4) (v := .int (q_27.1 1)) (C := RX4) (T := TX4) (N := 6) hx hb hts (fun w h => List.mem_cons_of_mem _ (inX4 w h)) hown hK hP 1 rfl rfl 1 (by decide) hk_78 (fun _ h9 => h9) rfl dX3_readCut_34 ?_
    refine lv_iconst (v := 2) hx hb dX3_readCut_37 (by decide) ?_
    refine lv_icmp_eq (tgt := 54) hx hb dX3_readCut_38 (by decide) (fun c_38 => ?_) (fun c_38 => ?_)
    · have hf := op_pos c_38 hf
      refine lv_aload_n hx hb dX3_readCut_54 rfl (lv_at hl 0 rfl) ?_
      refine va_get (ci := 3) (v := .ref h1) (C := RX3) (T := TX3) (N := 6) hx hb hts (fun w h => List.mem_cons_of_mem _ (inX3 w h)) hown hK hP 0 rfl rfl 2 (by decide) hk_24 (fun _ h9 => h9) rfl dX3_readCut_55 ?_
      refine va_get (ci := 4) (v := .int (q_27.1 3)) (C := RX4) (T := TX4) (N := 6) hx hb hts (fun w h => List.mem_cons_of_mem _ (inX4 w h)) hown hK hP 1 rfl rfl 3 (by decide) hk_81 (fun _ h9 => h9) rfl dX3_readCut_58 ?_
      refine lv_istore_n (lv' := [(1, .int (q_27.1 3)), (0, .ref h0)]) hx hb dX3_readCut_61 rfl hl (by decide) rfl (fun ls hl => ?_)
      refine lv_aload_n hx hb dX3_readCut_62 rfl (lv_at hl 1 rfl) ?_
      refine va_get (ci := 3) (v := .ref h3) (C := RX3) (T := TX3) (N := 6) hx hb hts (fun w h => List.mem_cons_of_mem _ (inX3 w h)) hown hK hP 0 rfl rfl 3 (by decide) hk_15 (fun _ h9 => h9) rfl dX3_readCut_63 ?_
      refine lv_iload_n hx hb dX3_readCut_66 rfl (lv_at hl 0 rfl) ?_
      obtain ⟨q_67, hc_67, hf⟩ := op_bind hf
      refine g_callVi (As := [.int (q_27.1 3)]) (rest := []) (w2 := (w3 cy h0 h1 h3 s0) ++ (w4 cy h1 h2 q_27) ++ (wB cy h2 b2) ++ (w5 cy h3 a3 s3)) ⟨hx, hb, hml, hown, hts⟩ (c_X5_hasCut l D cy h3 a3 s3 _ fu (q_27.1 3) _ hc_67) (cwV 1 hts (gi_V ml_RX3_199 im_X5_hasCut se_X5_hasCut in_RX5 cd_X5_hasCut) rfl rfl rfl hdX5_hasCut ⟨Nat.le_of_ble_eq_true rfl, Nat.le_of_ble_eq_true rfl⟩) (va_recv hK hP (ci := 5) (q0 := 3) rfl rfl) rfl hl.1 rfl (Nat.le_of_ble_eq_true rfl) dX3_readCut_67 hK hP hD hS hA [3, 4, 5, 6, 7, 8, 9, 10, 11] [0, 1, 2] [0, 1, 2, 3, 4, 5, 6, 7, 8, 9, 10, 11] rfl rfl rfl rfl (by decide) rfl rfl (fun H locs hP hD hS => ?_)
      refine lv_if_eq (tgt := 86) hx hb dX3_readCut_70 (by decide) (fun c_70 => ?_) (fun c_70 => ?_)
      · have hf := op_pos c_70 hf
        refine lv_aload_n hx hb dX3_readCut_86 rfl (lv_at hl 1 rfl) ?_
        refine va_get (ci := 3) (v := .ref h1) (C := RX3) (T := TX3) (N := 6) hx hb hts (fun w h => List.mem_cons_of_mem _ (inX3 w h)) hown hK hP 0 rfl rfl 2 (by decide) hk_24 (fun _ h9 => h9) rfl dX3_readCut_87 ?_
        obtain ⟨q_90, hc_90, hf⟩ := op_bind hf
        refine g_callVv (As := []) (rest := []) (w2 := (w3 cy h0 h1 h3 s0) ++ (w4 cy h1 h2 q_90) ++ (wB cy h2 b2) ++ (w5 cy h3 a3 s3)) ⟨hx, hb, hml, hown, hts⟩ (c_X4_step l D cy h1 q_27 h2 b2 _ fu _ hc_90) (cwV 0 hts (gi_V ml_RX3_64 im_X4_step se_X4_step in_RX4 cd_X4_step) rfl rfl rfl hdX4_step ⟨Nat.le_of_ble_eq_true rfl, Nat.le_of_ble_eq_true rfl⟩) (va_recv hK hP (ci := 4) (q0 := 1) rfl rfl) rfl hl.1 rfl (Nat.le_of_ble_eq_true rfl) dX3_readCut_90 hK hP hD hS hA [1, 2] [0, 3, 4, 5, 6, 7, 8, 9, 10, 11] [0, 10, 11, 1, 2, 3, 4, 5, 6, 7, 8, 9] rfl rfl rfl rfl (by decide) rfl rfl (fun H locs hP hD hS => ?_)
        refine lv_aload_n hx hb dX3_readCut_93 rfl (lv_at hl 1 rfl) ?_
        refine lv_iconst (v := 1) hx hb dX3_readCut_94 (by decide) ?_
        refine lv_sipush (v := 999) hx hb dX3_readCut_95 (by decide) ?_
        obtain ⟨q_98, hc_98, hf⟩ := op_bind hf
        refine g_callVi (As := [.int 1, .int 999]) (rest := []) (w2 := (w3 cy h0 h1 h3 q_98.2.1) ++ (w4 cy h1 h2 q_98.2.2) ++ (wB cy h2 b2) ++ (w5 cy h3 a3 s3)) ⟨hx, hb, hml, hown, hts⟩ (c_X3_readNumber l D cy h0 h3 s0 h1 q_90 h2 b2 _ fu 1 999 _ hc_98) (cwV 2 hts (gi_V ml_RX3_67 im_X3_readNumber se_X3_readNumber in_RX3 cd_X3_readNumber) rfl rfl rfl hdX3_readNumber ⟨Nat.le_of_ble_eq_true rfl, Nat.le_of_ble_eq_true rfl⟩) (va_recv hK hP (ci := 3) (q0 := 0) rfl rfl) rfl hl.1 rfl (Nat.le_of_ble_eq_true rfl) dX3_readCut_98 hK hP hD hS hA [0, 1, 2] [3, 4, 5, 6, 7, 8, 9, 10, 11] [9, 10, 11, 0, 1, 2, 3, 4, 5, 6, 7, 8] rfl rfl rfl rfl (by decide) rfl rfl (fun H locs hP hD hS => ?_)
        refine lv_if_ne (tgt := 106) hx hb dX3_readCut_101 (by decide) (fun c_101 => ?_) (fun c_101 => ?_)
        · have hf := op_neg c_101 hf
          refine lv_aload_n hx hb dX3_readCut_106 rfl (lv_at hl 1 rfl) ?_
          refine va_get (ci := 3) (v := .int (q_98.2.1.1 4)) (C := RX3) (T := TX3) (N := 6) hx hb hts (fun w h => List.mem_cons_of_mem _ (inX3 w h)) hown hK hP 0 rfl rfl 4 (by decide) hk_70 (fun _ h9 => h9) rfl dX3_readCut_107 ?_
          refine lv_istore_n (lv' := [(2, .int (q_98.2.1.1 4)), (1, .int (q_27.1 3)), (0, .ref h0)]) hx hb dX3_readCut_110 rfl hl (by decide) rfl (fun ls hl => ?_)
          refine lv_aload_n hx hb dX3_readCut_111 rfl (lv_at hl 2 rfl) ?_
          refine lv_iconst (v := 1) hx hb dX3_readCut_112 (by decide) ?_
          refine lv_sipush (v := 999) hx hb dX3_readCut_113 (by decide) ?_
          obtain ⟨q_116, hc_116, hf⟩ := op_bind hf
          refine g_callVi (As := [.int 1, .int 999]) (rest := []) (w2 := (w3 cy h0 h1 h3 q_116.2.1) ++ (w4 cy h1 h2 q_116.2.2) ++ (wB cy h2 b2) ++ (w5 cy h3 a3 s3)) ⟨hx, hb, hml, hown, hts⟩ (c_X3_readNumber l D cy h0 h3 q_98.2.1 h1 q_98.2.2 h2 b2 _ fu 1 999 _ hc_116) (cwV 2 hts (gi_V ml_RX3_67 im_X3_readNumber se_X3_readNumber in_RX3 cd_X3_readNumber) rfl rfl rfl hdX3_readNumber ⟨Nat.le_of_ble_eq_true rfl, Nat.le_of_ble_eq_true rfl⟩) (va_recv hK hP (ci := 3) (q0 := 0) rfl rfl) rfl hl.1 rfl (Nat.le_of_ble_eq_true rfl) dX3_readCut_116 hK hP hD hS hA [0, 1, 2] [3, 4, 5, 6, 7, 8, 9, 10, 11] [9, 10, 11, 0, 1, 2, 3, 4, 5, 6, 7, 8] rfl rfl rfl rfl (by decide) rfl rfl (fun H locs hP hD hS => ?_)
          refine lv_if_ne (tgt := 124) hx hb dX3_readCut_119 (by decide) (fun c_119 => ?_) (fun c_119 => ?_)
          · have hf := op_neg c_119 hf
            refine lv_aload_n hx hb dX3_readCut_124 rfl (lv_at hl 2 rfl) ?_
            refine va_get (ci := 3) (v := .int (q_116.2.1.1 4)) (C := RX3) (T := TX3) (N := 6) hx hb hts (fun w h => List.mem_cons_of_mem _ (inX3 w h)) hown hK hP 0 rfl rfl 4 (by decide) hk_70 (fun _ h9 => h9) rfl dX3_readCut_125 ?_
            refine lv_iload_n hx hb dX3_readCut_128 rfl (lv_at hl 0 rfl) ?_
            refine lv_icmp_gt (tgt := 142) hx hb dX3_readCut_129 (by decide) (fun c_129 => ?_) (fun c_129 => ?_)
            · have hf := op_pos c_129 hf
              refine lv_aload_n hx hb dX3_readCut_142 rfl (lv_at hl 2 rfl) ?_
              refine va_get (ci := 3) (v := .ref h3) (C := RX3) (T := TX3) (N := 6) hx hb hts (fun w h => List.mem_cons_of_mem _ (inX3 w h)) hown hK hP 0 rfl rfl 3 (by decide) hk_15 (fun _ h9 => h9) rfl dX3_readCut_143 ?_
              refine lv_iload_n hx hb dX3_readCut_146 rfl (lv_at hl 1 rfl) ?_
              refine lv_iload_n hx hb dX3_readCut_147 rfl (lv_at hl 0 rfl) ?_
              refine lv_aload_n hx hb dX3_readCut_148 rfl (lv_at hl 2 rfl) ?_
              refine va_get (ci := 3) (v := .int (q_116.2.1.1 4)) (C := RX3) (T := TX3) (N := 6) hx hb hts (fun w h => List.mem_cons_of_mem _ (inX3 w h)) hown hK hP 0 rfl rfl 4 (by decide) hk_70 (fun _ h9 => h9) rfl dX3_readCut_149 ?_
              obtain ⟨q_152, hc_152, hf⟩ := op_bind hf
              refine g_callVv (As := [.int (q_27.1 3), .int (q_98.2.1.1 4), .int (q_116.2.1.1 4)]) (rest := []) (w2 := (w3 cy h0 h1 h3 q_116.2.1) ++ (w4 cy h1 h2 q_116.2.2) ++ (wB cy h2 b2) ++ (w5 cy h3 a3 q_152)) ⟨hx, hb, hml, hown, hts⟩ (c_X5_addCut l D cy h3 a3 s3 _ fu (q_27.1 3) (q_98.2.1.1 4) (q_116.2.1.1 4) _ hc_152) (cwV 3 hts (gi_V ml_RX3_202 im_X5_addCut se_X5_addCut in_RX5 cd_X5_addCut) rfl rfl rfl hdX5_addCut ⟨Nat.le_of_ble_eq_true rfl, Nat.le_of_ble_eq_true rfl⟩) (va_recv hK hP (ci := 5) (q0 := 3) rfl rfl) rfl hl.1 rfl (Nat.le_of_ble_eq_true rfl) dX3_readCut_152 hK hP hD hS hA [3, 4, 5, 6, 7, 8, 9, 10, 11] [0, 1, 2] [0, 1, 2, 3, 4, 5, 6, 7, 8, 9, 10, 11] rfl rfl rfl rfl (by decide) rfl rfl (fun H locs hP hD hS => ?_)
              refine lv_aload_n hx hb dX3_readCut_155 rfl (lv_at hl 2 rfl) ?_
              obtain ⟨q_156, hc_156, hf⟩ := op_bind hf
              refine g_callVi (As := []) (rest := []) (w2 := (w3 cy h0 h1 h3 q_156.2.1) ++ (w4 cy h1 h2 q_156.2.2) ++ (wB cy h2 b2) ++ (w5 cy h3 a3 q_152)) ⟨hx, hb, hml, hown, hts⟩ (c_X3_readSemicolon l D cy h0 h3 q_116.2.1 h1 q_116.2.2 h2 b2 _ fu _ hc_156) (cwV 0 hts (gi_V ml_RX3_75 im_X3_readSemicolon se_X3_readSemicolon in_RX3 cd_X3_readSemicolon) rfl rfl rfl hdX3_readSemicolon ⟨Nat.le_of_ble_eq_true rfl, Nat.le_of_ble_eq_true rfl⟩) (va_recv hK hP (ci := 3) (q0 := 0) rfl rfl) rfl hl.1 rfl (Nat.le_of_ble_eq_true rfl) dX3_readCut_156 hK hP hD hS hA [0, 1, 2] [3, 4, 5, 6, 7, 8, 9, 10, 11] [9, 10, 11, 0, 1, 2, 3, 4, 5, 6, 7, 8] rfl rfl rfl rfl (by decide) rfl rfl (fun H locs hP hD hS => ?_)
              obtain ⟨hg_159, hf⟩ := op_if hf
              rw [← Option.some.inj hf]
              exact g_zret hx hb hr hlk hg_159 hK hP hD hS dX3_readCut_159
            · have hf := op_neg c_129 hf
              refine lv_aload_n hx hb dX3_readCut_132 rfl (lv_at hl 2 rfl) ?_
              refine lv_iconst (v := 3) hx hb dX3_readCut_133 (by decide) ?_
              refine lv_aload_n hx hb dX3_readCut_134 rfl (lv_at hl 2 rfl) ?_
              refine va_get (ci := 3) (v := .int (q_116.2.1.1 5)) (C := RX3) (T := TX3) (N := 6) hx hb hts (fun w h => List.mem_cons_of_mem _ (inX3 w h)) hown hK hP 0 rfl rfl 5 (by decide) hk_84 (fun _ h9 => h9) rfl dX3_readCut_135 ?_
              obtain ⟨q_138, hc_138, hf⟩ := op_bind hf
              refine g_callVi (As := [.int 3, .int (q_116.2.1.1 5)]) (rest := []) (w2 := (w3 cy h0 h1 h3 q_138.2) ++ (w4 cy h1 h2 q_116.2.2) ++ (wB cy h2 b2) ++ (w5 cy h3 a3 s3)) ⟨hx, hb, hml, hown, hts⟩ (c_X3_fail l D cy h0 h1 h3 q_116.2.1 _ fu 3 (q_116.2.1.1 5) _ hc_138) (cwV 2 hts (gi_V ml_RX3_60 im_X3_fail se_X3_fail in_RX3 cd_X3_fail) rfl rfl rfl hdX3_fail ⟨Nat.le_of_ble_eq_true rfl, Nat.le_of_ble_eq_true rfl⟩) (va_recv hK hP (ci := 3) (q0 := 0) rfl rfl) rfl hl.1 rfl (Nat.le_of_ble_eq_true rfl) dX3_readCut_138 hK hP hD hS hA [0] [1, 2, 3, 4, 5, 6, 7, 8, 9, 10, 11] [11, 0, 1, 2, 3, 4, 5, 6, 7, 8, 9, 10] rfl rfl rfl rfl (by decide) rfl rfl (fun H locs hP hD hS => ?_)
              obtain ⟨hg_141, hf⟩ := op_if hf
              rw [← Option.some.inj hf]
              exact g_zret hx hb hr hlk hg_141 hK hP hD hS dX3_readCut_141
          · have hf := op_pos c_119 hf
            refine lv_iconst (v := 0) hx hb dX3_readCut_122 (by decide) ?_
            rw [← Option.some.inj hf]
            exact g_zret hx hb hr hlk (show isB 0 = true by decide) hK hP hD hS dX3_readCut_123
        · have hf := op_pos c_101 hf
          refine lv_iconst (v := 0) hx hb dX3_readCut_104 (by decide) ?_
          rw [← Option.some.inj hf]
          exact g_zret hx hb hr hlk (show isB 0 = true by decide) hK hP hD hS dX3_readCut_105
      · have hf := op_neg c_70 hf
        refine lv_aload_n hx hb dX3_readCut_73 rfl (lv_at hl 1 rfl) ?_
        refine lv_iconst (v := 3) hx hb dX3_readCut_74 (by decide) ?_
        refine lv_aload_n hx hb dX3_readCut_75 rfl (lv_at hl 1 rfl) ?_
        refine va_get (ci := 3) (v := .ref h1) (C := RX3) (T := TX3) (N := 6) hx hb hts (fun w h => List.mem_cons_of_mem _ (inX3 w h)) hown hK hP 0 rfl rfl 2 (by decide) hk_24 (fun _ h9 => h9) rfl dX3_readCut_76 ?_
        refine va_get (ci := 4) (v := .int (q_27.1 2)) (C := RX4) (T := TX4) (N := 6) hx hb hts (fun w h => List.mem_cons_of_mem _ (inX4 w h)) hown hK hP 1 rfl rfl 2 (by decide) hk_57 (fun _ h9 => h9) rfl dX3_readCut_79 ?_
        obtain ⟨q_82, hc_82, hf⟩ := op_bind hf
        refine g_callVi (As := [.int 3, .int (q_27.1 2)]) (rest := []) (w2 := (w3 cy h0 h1 h3 q_82.2) ++ (w4 cy h1 h2 q_27) ++ (wB cy h2 b2) ++ (w5 cy h3 a3 s3)) ⟨hx, hb, hml, hown, hts⟩ (c_X3_fail l D cy h0 h1 h3 s0 _ fu 3 (q_27.1 2) _ hc_82) (cwV 2 hts (gi_V ml_RX3_60 im_X3_fail se_X3_fail in_RX3 cd_X3_fail) rfl rfl rfl hdX3_fail ⟨Nat.le_of_ble_eq_true rfl, Nat.le_of_ble_eq_true rfl⟩) (va_recv hK hP (ci := 3) (q0 := 0) rfl rfl) rfl hl.1 rfl (Nat.le_of_ble_eq_true rfl) dX3_readCut_82 hK hP hD hS hA [0] [1, 2, 3, 4, 5, 6, 7, 8, 9, 10, 11] [11, 0, 1, 2, 3, 4, 5, 6, 7, 8, 9, 10] rfl rfl rfl rfl (by decide) rfl rfl (fun H locs hP hD hS => ?_)
        obtain ⟨hg_85, hf⟩ := op_if hf
        rw [← Option.some.inj hf]
        exact g_zret hx hb hr hlk hg_85 hK hP hD hS dX3_readCut_85
    · have hf := op_neg c_38 hf
      refine lv_aload_n hx hb dX3_readCut_41 rfl (lv_at hl 0 rfl) ?_
      refine lv_iconst (v := 1) hx hb dX3_readCut_42 (by decide) ?_
      refine lv_aload_n hx hb dX3_readCut_43 rfl (lv_at hl 0 rfl) ?_
      refine va_get (ci := 3) (v := .ref h1) (C := RX3) (T := TX3) (N := 6) hx hb hts (fun w h => List.mem_cons_of_mem _ (inX3 w h)) hown hK hP 0 rfl rfl 2 (by decide) hk_24 (fun _ h9 => h9) rfl dX3_readCut_44 ?_
      refine va_get (ci := 4) (v := .int (q_27.1 2)) (C := RX4) (T := TX4) (N := 6) hx hb hts (fun w h => List.mem_cons_of_mem _ (inX4 w h)) hown hK hP 1 rfl rfl 2 (by decide) hk_57 (fun _ h9 => h9) rfl dX3_readCut_47 ?_
      obtain ⟨q_50, hc_50, hf⟩ := op_bind hf
      refine g_callVi (As := [.int 1, .int (q_27.1 2)]) (rest := []) (w2 := (w3 cy h0 h1 h3 q_50.2) ++ (w4 cy h1 h2 q_27) ++ (wB cy h2 b2) ++ (w5 cy h3 a3 s3)) ⟨hx, hb, hml, hown, hts⟩ (c_X3_fail l D cy h0 h1 h3 s0 _ fu 1 (q_27.1 2) _ hc_50) (cwV 2 hts (gi_V ml_RX3_60 im_X3_fail se_X3_fail in_RX3 cd_X3_fail) rfl rfl rfl hdX3_fail ⟨Nat.le_of_ble_eq_true rfl, Nat.le_of_ble_eq_true rfl⟩) (va_recv hK hP (ci := 3) (q0 := 0) rfl rfl) rfl hl.1 rfl (Nat.le_of_ble_eq_true rfl) dX3_readCut_50 hK hP hD hS hA [0] [1, 2, 3, 4, 5, 6, 7, 8, 9, 10, 11] [11, 0, 1, 2, 3, 4, 5, 6, 7, 8, 9, 10] rfl rfl rfl rfl (by decide) rfl rfl (fun H locs hP hD hS => ?_)
      obtain ⟨hg_53, hf⟩ := op_if hf
      rw [← Option.some.inj hf]
      exact g_zret hx hb hr hlk hg_53 hK hP hD hS dX3_readCut_53
  · have hf := op_neg c_7 hf
    refine lv_aload_n hx hb dX3_readCut_10 rfl (lv_at hl 0 rfl) ?_
    refine lv_iconst (v := 2) hx hb dX3_readCut_11 (by decide) ?_
    refine lv_aload_n hx hb dX3_readCut_12 rfl (lv_at hl 0 rfl) ?_
    refine va_get (ci := 3) (v := .ref h1) (C := RX3) (T := TX3) (N := 6) hx hb hts (fun w h => List.mem_cons_of_mem _ (inX3 w h)) hown hK hP 0 rfl rfl 2 (by decide) hk_24 (fun _ h9 => h9) rfl dX3_readCut_13 ?_
    refine va_get (ci := 4) (v := .int (s1.1 2)) (C := RX4) (T := TX4) (N := 6) hx hb hts (fun w h => List.mem_cons_of_mem _ (inX4 w h)) hown hK hP 1 rfl rfl 2 (by decide) hk_57 (fun _ h9 => h9) rfl dX3_readCut_16 ?_
    obtain ⟨q_19, hc_19, hf⟩ := op_bind hf
    refine g_callVi (As := [.int 2, .int (s1.1 2)]) (rest := []) (w2 := (w3 cy h0 h1 h3 q_19.2) ++ (w4 cy h1 h2 s1) ++ (wB cy h2 b2) ++ (w5 cy h3 a3 s3)) ⟨hx, hb, hml, hown, hts⟩ (c_X3_fail l D cy h0 h1 h3 s0 _ fu 2 (s1.1 2) _ hc_19) (cwV 2 hts (gi_V ml_RX3_60 im_X3_fail se_X3_fail in_RX3 cd_X3_fail) rfl rfl rfl hdX3_fail ⟨Nat.le_of_ble_eq_true rfl, Nat.le_of_ble_eq_true rfl⟩) (va_recv hK hP (ci := 3) (q0 := 0) rfl rfl) rfl hl.1 rfl (Nat.le_of_ble_eq_true rfl) dX3_readCut_19 hK hP hD hS hA [0] [1, 2, 3, 4, 5, 6, 7, 8, 9, 10, 11] [11, 0, 1, 2, 3, 4, 5, 6, 7, 8, 9, 10] rfl rfl rfl rfl (by decide) rfl rfl (fun H locs hP hD hS => ?_)
    obtain ⟨hg_22, hf⟩ := op_if hf
    rw [← Option.some.inj hf]
    exact g_zret hx hb hr hlk hg_22 hK hP hD hS dX3_readCut_22
