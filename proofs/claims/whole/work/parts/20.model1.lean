def f_X10_thrown (fu : Nat) (s0 : St)   : Option (Int32) := some (s0.1 2)
theorem hdX10_thrown : yX10_thrown.cls = RX10 ∧ yX10_thrown.cls ≠ "java/lang/invoke/MethodHandle" ∧ yX10_thrown.cls ≠ "java/lang/invoke/VarHandle" ∧ (parseMethodDescriptor yX10_thrown.desc).map (fun d => d.parameters.length) = some 0 := by decide +kernel
set_option maxHeartbeats 4000000 in
set_option maxRecDepth 100000 in
theorem c_X10_thrown (l : Launch) (D : va_G) (cy : Nat → ClassId) (h0 : Nat) (a0 : Nat → Nat) (s0 : St) (sz fu : Nat)  (out : Int32) (hf : f_X10_thrown fu s0 = some out) :
    Met l yX10_thrown (WS yX10_thrown cX10_thrown 1 (some .int)) ({ frames := 0, cells := 0, slots := 0, locals := 0 } : Room) (va_Pc [.ref h0] (gP D cy sz (w10 cy h0 a0 s0))) ((fun A : Nat → Prop => gQi D cy A out (w10 cy h0 a0 s0)) (va_A (w10 cy h0 a0 s0) sz)) 0 0 (va_A (w10 cy h0 a0 s0) sz) := by
  refine g_met (cc := cX10_thrown) (maxL := 1) (ret := (some .int)) (fun A : Nat → Prop => gQi D cy A out (w10 cy h0 a0 s0)) (by decide +kernel) rfl (Nat.le_of_ble_eq_true rfl) ?_
  intro p e s m below meth c A C hA hK hP hD ls hl
  obtain ⟨hx, hb, hr, hml, hown, hts, hlk⟩ := id C
  have hown : s.vm.findClass RX10 = some m.cls := hown
  have hS : va_S A s.heap s.heap [] := va_S.rf
  have hl : lv_has ls 1 [(0, .ref h0)] := hl
  have hk_113 := hts _ (List.mem_cons_of_mem _ fl_RX10_113)
  unfold f_X10_thrown at hf
  refine lv_aload_n hx hb dX10_thrown_0 rfl (lv_at hl 0 rfl) ?_
  refine va_get (ci := 9) (v := .int (s0.1 2)) (C := RX10) (T := TX10) (N := 56) hx hb hts (fun w h => List.mem_cons_of_mem _ (inX10 w h)) hown hK hP 0 rfl rfl 2 (by decide) hk_113 (fun _ h9 => h9) rfl dX10_thrown_1 ?_
  rw [← Option.some.inj hf]
  exact g_iret hx hb hr hlk hK hP hD hS dX10_thrown_4
def f_X10_feed_L76 (k_23 : St → Int32 → Int32 → Int32 → Int32 → Int32 → Int32 → Option (Int32 × St)) (fu : Nat)  (u0 : St) (x1 : Int32) (x2 : Int32) (x3 : Int32) (x4 : Int32) (x5 : Int32) (x6 : Int32) (t0 : Int32) : Option (Int32 × St) := if nz 4 = true then (if inb ((u0.1 1) + x6) 1500 = true then (k_23 (sA u0 0 (((u0.1 1) + x6).toNatClampNeg) ((t0 >>> ((24 - (8 * (x6 - x6 / 4 * 4))) &&& 31)) &&& 255)) x1 x2 x3 x4 x5 (x6 + 1)) else none) else none
set_option maxHeartbeats 4000000 in
set_option maxRecDepth 100000 in
theorem b_X10_feed_L76 {p : Program} {e : Env} {s : State} {m : MethodId} {args : Array Value} {below : List Frame} {meth : Method} {c : Code} {A : Nat → Prop} (l : Launch) (D : va_G) (cy : Nat → ClassId) (h0 : Nat) (a0 : Nat → Nat) (fu : Nat) (out : Int32 × St) (C : gC p s m args meth c (WS yX10_feed cX10_feed 8 (some .int)) cX10_feed 8 (some .int) RX10) (hA : ∀ q : Nat, s.heap.size ≤ q → A q) (hK : va_K D vwCl (TY cy) s) (k_23 : St → Int32 → Int32 → Int32 → Int32 → Int32 → Int32 → Option (Int32 × St)) (hk_23 : ∀ (u0 : St) (x1 : Int32) (x2 : Int32) (x3 : Int32) (x4 : Int32) (x5 : Int32) (x6 : Int32), k_23 u0 x1 x2 x3 x4 x5 x6 = some out → ∀ (H : Heap) (locs : List Loc) (ls : Array Slot), va_P D vwCl (w10 cy h0 a0 u0) H → va_D A (w10 cy h0 a0 u0) → va_S A s.heap H locs → lv_has ls 8 [(0, .ref h0), (1, .int x1), (2, .int x2), (3, .int x3), (4, .int x4), (5, .int x5), (6, .int x6)] → W p l e ({ frames := 0, cells := 0, slots := 0, locals := 0 } : Room) s m args below meth c H locs 0 0 (MQ below (gQi D cy A out.1 (w10 cy h0 a0 out.2)) args s 0 0 A) (F0 m 23 ls [])) :
    ∀ (u0 : St) (x1 : Int32) (x2 : Int32) (x3 : Int32) (x4 : Int32) (x5 : Int32) (x6 : Int32) (t0 : Int32), f_X10_feed_L76 k_23 fu u0 x1 x2 x3 x4 x5 x6 t0 = some out → ∀ (H : Heap) (locs : List Loc) (ls : Array Slot), va_P D vwCl (w10 cy h0 a0 u0) H → va_D A (w10 cy h0 a0 u0) → va_S A s.heap H locs → lv_has ls 8 [(0, .ref h0), (1, .int x1), (2, .int x2), (3, .int x3), (4, .int x4), (5, .int x5), (6, .int x6)] → W p l e ({ frames := 0, cells := 0, slots := 0, locals := 0 } : Room) s m args below meth c H locs 0 0 (MQ below (gQi D cy A out.1 (w10 cy h0 a0 out.2)) args s 0 0 A) (F0 m 76 ls [.int t0]) := by
  obtain ⟨hx, hb, hr, hml, hown, hts, hlk⟩ := id C
  have hown : s.vm.findClass RX10 = some m.cls := hown
  have hk_7 := hts _ (List.mem_cons_of_mem _ fl_RX10_7)
  have hk_116 := hts _ (List.mem_cons_of_mem _ fl_RX10_116)
  intro u0 x1 x2 x3 x4 x5 x6 t0 hf H locs ls hP hD hS hl
  unfold f_X10_feed_L76 at hf
  refine lv_istore (lv' := [(7, .int t0), (0, .ref h0), (1, .int x1), (2, .int x2), (3, .int x3), (4, .int x4), (5, .int x5), (6, .int x6)]) hx hb dX10_feed_76 hl (by decide) rfl (fun ls hl => ?_)
  refine lv_aload_n hx hb dX10_feed_78 rfl (lv_at hl 1 rfl) ?_
  refine va_get (ci := 9) (v := .ref (a0 0)) (C := RX10) (T := TX10) (N := 56) hx hb hts (fun w h => List.mem_cons_of_mem _ (inX10 w h)) hown hK hP 0 rfl rfl 0 (by decide) hk_7 (fun _ h9 => h9) rfl dX10_feed_79 ?_
  refine lv_aload_n hx hb dX10_feed_82 rfl (lv_at hl 1 rfl) ?_
  refine va_get (ci := 9) (v := .int (u0.1 1)) (C := RX10) (T := TX10) (N := 56) hx hb hts (fun w h => List.mem_cons_of_mem _ (inX10 w h)) hown hK hP 0 rfl rfl 1 (by decide) hk_116 (fun _ h9 => h9) rfl dX10_feed_83 ?_
  refine lv_iload hx hb dX10_feed_86 (lv_at hl 7 rfl) ?_
  refine lv_iadd hx hb dX10_feed_88 ?_
  refine lv_iload hx hb dX10_feed_89 (lv_at hl 0 rfl) ?_
  refine lv_bipush (v := 24) hx hb dX10_feed_91 (by decide) ?_
  refine lv_bipush (v := 8) hx hb dX10_feed_93 (by decide) ?_
  refine lv_iload hx hb dX10_feed_95 (lv_at hl 7 rfl) ?_
  refine lv_iconst (v := 4) hx hb dX10_feed_97 (by decide) ?_
  obtain ⟨hg_98, hf⟩ := op_if hf
  refine lv_irem hx hb dX10_feed_98 (nz_ne hg_98) ?_
  refine lv_imul hx hb dX10_feed_99 ?_
  refine lv_isub hx hb dX10_feed_100 ?_
  refine lv_ishr hx hb dX10_feed_101 ?_
  refine lv_sipush (v := 255) hx hb dX10_feed_102 (by decide) ?_
  refine lv_iand hx hb dX10_feed_105 ?_
  obtain ⟨hg_106, hf⟩ := op_if hf
  refine va_iast (f := u0.2 0) (x := (t0 >>> ((24 - (8 * (x6 - x6 / 4 * 4))) &&& 31)) &&& 255) hx hb hK hP hD hS 1 0 rfl rfl (inb_in hg_106) dX10_feed_106 (fun H locs hP hD hS => ?_)
  have hP : va_P D vwCl (w10 cy h0 a0 (sA u0 0 (((u0.1 1) + x6).toNatClampNeg) ((t0 >>> ((24 - (8 * (x6 - x6 / 4 * 4))) &&& 31)) &&& 255))) H := pP10_0 hP
  have hD : va_D A (w10 cy h0 a0 (sA u0 0 (((u0.1 1) + x6).toNatClampNeg) ((t0 >>> ((24 - (8 * (x6 - x6 / 4 * 4))) &&& 31)) &&& 255))) := pD10_0 hD
  refine lv_iinc (v := x6 + 1) (lv' := [(6, .int (x6 + 1)), (7, .int t0), (0, .ref h0), (1, .int x1), (2, .int x2), (3, .int x3), (4, .int x4), (5, .int x5)]) hx hb dX10_feed_107 hl (k := 7) rfl rfl (by decide) rfl (fun ls hl => ?_)
  refine lv_goto (tgt := 23) hx hb dX10_feed_110 (by decide) ?_
  exact hk_23 (sA u0 0 (((u0.1 1) + x6).toNatClampNeg) ((t0 >>> ((24 - (8 * (x6 - x6 / 4 * 4))) &&& 31)) &&& 255)) x1 x2 x3 x4 x5 (x6 + 1) hf _ _ ls hP hD hS (lv_sub hl [2, 3, 4, 5, 6, 7, 0] rfl)
def f_X10_feed_L23  (fu : Nat)  : Nat → St → Int32 → Int32 → Int32 → Int32 → Int32 → Int32 → Option (Int32 × St)
  | 0, _, _, _, _, _, _, _ => none
  | n_23 + 1, u0, x1, x2, x3, x4, x5, x6 => if 20 ≤ x6 then (some ((u0.1 1) + 20, sF u0 1 ((u0.1 1) + 20))) else (if 4 ≤ x6 then (if 8 ≤ x6 then (if 12 ≤ x6 then (if 16 ≤ x6 then (f_X10_feed_L76 (f_X10_feed_L23 fu n_23) fu u0 x1 x2 x3 x4 x5 x6 x5) else (f_X10_feed_L76 (f_X10_feed_L23 fu n_23) fu u0 x1 x2 x3 x4 x5 x6 x4)) else (f_X10_feed_L76 (f_X10_feed_L23 fu n_23) fu u0 x1 x2 x3 x4 x5 x6 x3)) else (f_X10_feed_L76 (f_X10_feed_L23 fu n_23) fu u0 x1 x2 x3 x4 x5 x6 x2)) else (f_X10_feed_L76 (f_X10_feed_L23 fu n_23) fu u0 x1 x2 x3 x4 x5 x6 x1))
set_option maxHeartbeats 4000000 in
set_option maxRecDepth 100000 in
theorem b_X10_feed_L23 {p : Program} {e : Env} {s : State} {m : MethodId} {args : Array Value} {below : List Frame} {meth : Method} {c : Code} {A : Nat → Prop} (l : Launch) (D : va_G) (cy : Nat → ClassId) (h0 : Nat) (a0 : Nat → Nat) (fu : Nat) (out : Int32 × St) (C : gC p s m args meth c (WS yX10_feed cX10_feed 8 (some .int)) cX10_feed 8 (some .int) RX10) (hA : ∀ q : Nat, s.heap.size ≤ q → A q) (hK : va_K D vwCl (TY cy) s)  :
    ∀ (n_23 : Nat), ∀ (u0 : St) (x1 : Int32) (x2 : Int32) (x3 : Int32) (x4 : Int32) (x5 : Int32) (x6 : Int32), f_X10_feed_L23 fu n_23 u0 x1 x2 x3 x4 x5 x6 = some out → ∀ (H : Heap) (locs : List Loc) (ls : Array Slot), va_P D vwCl (w10 cy h0 a0 u0) H → va_D A (w10 cy h0 a0 u0) → va_S A s.heap H locs → lv_has ls 8 [(0, .ref h0), (1, .int x1), (2, .int x2), (3, .int x3), (4, .int x4), (5, .int x5), (6, .int x6)] → W p l e ({ frames := 0, cells := 0, slots := 0, locals := 0 } : Room) s m args below meth c H locs 0 0 (MQ below (gQi D cy A out.1 (w10 cy h0 a0 out.2)) args s 0 0 A) (F0 m 23 ls []) := by
  obtain ⟨hx, hb, hr, hml, hown, hts, hlk⟩ := id C
  have hown : s.vm.findClass RX10 = some m.cls := hown
  have hk_116 := hts _ (List.mem_cons_of_mem _ fl_RX10_116)
  intro n_23
  induction n_23 with
  | zero => intro u0 x1 x2 x3 x4 x5 x6 hf; exact op_no hf
  | succ n_23 ih_23 =>
    intro u0 x1 x2 x3 x4 x5 x6 hf H locs ls hP hD hS hl
    rw [f_X10_feed_L23] at hf
    refine lv_iload hx hb dX10_feed_23 (lv_at hl 6 rfl) ?_
    refine lv_bipush (v := 20) hx hb dX10_feed_25 (by decide) ?_
    refine lv_icmp_ge (tgt := 113) hx hb dX10_feed_27 (by decide) (fun c_27 => ?_) (fun c_27 => ?_)
    · have hf := op_pos c_27 hf
      refine lv_aload_n hx hb dX10_feed_113 rfl (lv_at hl 0 rfl) ?_
      refine lv_dup hx hb dX10_feed_114 rfl ?_
      refine va_get (ci := 9) (v := .int (u0.1 1)) (C := RX10) (T := TX10) (N := 56) hx hb hts (fun w h => List.mem_cons_of_mem _ (inX10 w h)) hown hK hP 0 rfl rfl 1 (by decide) hk_116 (fun _ h9 => h9) rfl dX10_feed_115 ?_
      refine lv_bipush (v := 20) hx hb dX10_feed_118 (by decide) ?_
      refine lv_iadd hx hb dX10_feed_120 ?_
      refine va_put (ci := 9) (v := .int ((u0.1 1) + 20)) (ty := tyX10 1) (C := RX10) (T := TX10) (N := 56) hx hb hts (fun w h => List.mem_cons_of_mem _ (inX10 w h)) tyX10 tyX10_ok nmX10 hown hK hP hD hS 0 rfl rfl 1 (by decide) hk_116 (fun _ h9 => h9) rfl (tyX10_ok 1 (by decide)) rfl rfl (Nat.le_of_ble_eq_true rfl) dX10_feed_121 (fun H locs hP hD hS => ?_)
      have hP : va_P D vwCl (w10 cy h0 a0 (sF u0 1 ((u0.1 1) + 20))) H := pP10_1 hP
      have hD : va_D A (w10 cy h0 a0 (sF u0 1 ((u0.1 1) + 20))) := pD10_1 hD
      refine lv_aload_n hx hb dX10_feed_124 rfl (lv_at hl 0 rfl) ?_
      refine va_get (ci := 9) (v := .int ((u0.1 1) + 20)) (C := RX10) (T := TX10) (N := 56) hx hb hts (fun w h => List.mem_cons_of_mem _ (inX10 w h)) hown hK hP 0 rfl rfl 1 (by decide) hk_116 (fun _ h9 => h9) rfl dX10_feed_125 ?_
      rw [← Option.some.inj hf]
      exact g_iret hx hb hr hlk hK hP hD hS dX10_feed_128
    · have hf := op_neg c_27 hf
      refine lv_iload hx hb dX10_feed_30 (lv_at hl 6 rfl) ?_
      refine lv_iconst (v := 4) hx hb dX10_feed_32 (by decide) ?_
      refine lv_icmp_ge (tgt := 40) hx hb dX10_feed_33 (by decide) (fun c_33 => ?_) (fun c_33 => ?_)
      · have hf := op_pos c_33 hf
        refine lv_iload hx hb dX10_feed_40 (lv_at hl 6 rfl) ?_
        refine lv_bipush (v := 8) hx hb dX10_feed_42 (by decide) ?_
        refine lv_icmp_ge (tgt := 51) hx hb dX10_feed_44 (by decide) (fun c_44 => ?_) (fun c_44 => ?_)
        · have hf := op_pos c_44 hf
          refine lv_iload hx hb dX10_feed_51 (lv_at hl 6 rfl) ?_
          refine lv_bipush (v := 12) hx hb dX10_feed_53 (by decide) ?_
          refine lv_icmp_ge (tgt := 62) hx hb dX10_feed_55 (by decide) (fun c_55 => ?_) (fun c_55 => ?_)
          · have hf := op_pos c_55 hf
            refine lv_iload hx hb dX10_feed_62 (lv_at hl 6 rfl) ?_
            refine lv_bipush (v := 16) hx hb dX10_feed_64 (by decide) ?_
            refine lv_icmp_ge (tgt := 74) hx hb dX10_feed_66 (by decide) (fun c_66 => ?_) (fun c_66 => ?_)
            · have hf := op_pos c_66 hf
              refine lv_iload hx hb dX10_feed_74 (lv_at hl 5 rfl) ?_
              exact b_X10_feed_L76 l D cy h0 a0 fu out C hA hK (f_X10_feed_L23 fu n_23) ih_23 u0 x1 x2 x3 x4 x5 x6 x5 hf _ _ ls hP hD hS (lv_sub hl [0, 1, 2, 3, 4, 5, 6] rfl)
            · have hf := op_neg c_66 hf
              refine lv_iload hx hb dX10_feed_69 (lv_at hl 4 rfl) ?_
              refine lv_goto (tgt := 76) hx hb dX10_feed_71 (by decide) ?_
              exact b_X10_feed_L76 l D cy h0 a0 fu out C hA hK (f_X10_feed_L23 fu n_23) ih_23 u0 x1 x2 x3 x4 x5 x6 x4 hf _ _ ls hP hD hS (lv_sub hl [0, 1, 2, 3, 4, 5, 6] rfl)
          · have hf := op_neg c_55 hf
            refine lv_iload_n hx hb dX10_feed_58 rfl (lv_at hl 3 rfl) ?_
            refine lv_goto (tgt := 76) hx hb dX10_feed_59 (by decide) ?_
            exact b_X10_feed_L76 l D cy h0 a0 fu out C hA hK (f_X10_feed_L23 fu n_23) ih_23 u0 x1 x2 x3 x4 x5 x6 x3 hf _ _ ls hP hD hS (lv_sub hl [0, 1, 2, 3, 4, 5, 6] rfl)
        · have hf := op_neg c_44 hf
          refine lv_iload_n hx hb dX10_feed_47 rfl (lv_at hl 2 rfl) ?_
          refine lv_goto (tgt := 76) hx hb dX10_feed_48 (by decide) ?_
          exact b_X10_feed_L76 l D cy h0 a0 fu out C hA hK (f_X10_feed_L23 fu n_23) ih_23 u0 x1 x2 x3 x4 x5 x6 x2 hf _ _ ls hP hD hS (lv_sub hl [0, 1, 2, 3, 4, 5, 6] rfl)
      · have hf := op_neg c_33 hf
        refine lv_iload_n hx hb dX10_feed_36 rfl (lv_at hl 1 rfl) ?_
        refine lv_goto (tgt := 76) hx hb dX10_feed_37 (by decide) ?_
        exact b_X10_feed_L76 l D cy h0 a0 fu out C hA hK (f_X10_feed_L23 fu n_23) ih_23 u0 x1 x2 x3 x4 x5 x6 x1 hf _ _ ls hP hD hS (lv_sub hl [0, 1, 2, 3, 4, 5, 6] rfl)
def f_X10_feed (fu : Nat)  (s0 : St) (p1 : Int32) (p2 : Int32) (p3 : Int32) (p4 : Int32) (p5 : Int32) : Option (Int32 × St) := if ((s0.1 1) + 20) ≤ 1500 then (f_X10_feed_L23 fu fu (sF s0 2 0) p1 p2 p3 p4 p5 0) else (some ((-1), sF s0 2 0))
theorem hdX10_feed : yX10_feed.cls = RX10 ∧ yX10_feed.cls ≠ "java/lang/invoke/MethodHandle" ∧ yX10_feed.cls ≠ "java/lang/invoke/VarHandle" ∧ (parseMethodDescriptor yX10_feed.desc).map (fun d => d.parameters.length) = some 5 := by decide +kernel
set_option maxHeartbeats 4000000 in
set_option maxRecDepth 100000 in
theorem c_X10_feed (l : Launch) (D : va_G) (cy : Nat → ClassId) (h0 : Nat) (a0 : Nat → Nat) (s0 : St) (sz fu : Nat) (p1 : Int32) (p2 : Int32) (p3 : Int32) (p4 : Int32) (p5 : Int32) (out : Int32 × St) (hf : f_X10_feed fu s0 p1 p2 p3 p4 p5 = some out) :
    Met l yX10_feed (WS yX10_feed cX10_feed 8 (some .int)) ({ frames := 0, cells := 0, slots := 0, locals := 0 } : Room) (va_Pc [.ref h0, .int p1, .int p2, .int p3, .int p4, .int p5] (gP D cy sz (w10 cy h0 a0 s0))) ((fun A : Nat → Prop => gQi D cy A out.1 (w10 cy h0 a0 out.2)) (va_A (w10 cy h0 a0 s0) sz)) 0 0 (va_A (w10 cy h0 a0 s0) sz) := by
  refine g_met (cc := cX10_feed) (maxL := 8) (ret := (some .int)) (fun A : Nat → Prop => gQi D cy A out.1 (w10 cy h0 a0 out.2)) (by decide +kernel) rfl (Nat.le_of_ble_eq_true rfl) ?_
  intro p e s m below meth c A C hA hK hP hD ls hl
  obtain ⟨hx, hb, hr, hml, hown, hts, hlk⟩ := id C
  have hown : s.vm.findClass RX10 = some m.cls := hown
  have hS : va_S A s.heap s.heap [] := va_S.rf
  have hl : lv_has ls 8 [(0, .ref h0), (1, .int p1), (2, .int p2), (3, .int p3), (4, .int p4), (5, .int p5)] := hl
  have hk_113 := hts _ (List.mem_cons_of_mem _ fl_RX10_113)
  have hk_116 := hts _ (List.mem_cons_of_mem _ fl_RX10_116)
  unfold f_X10_feed at hf
  refine lv_aload_n hx hb dX10_feed_0 rfl (lv_at hl 0 rfl) ?_
  refine lv_iconst (v := 0) hx hb dX10_feed_1 (by decide) ?_
  refine va_put (ci := 9) (v := .int 0) (ty := tyX10 2) (C := RX10) (T := TX10) (N := 56) hx hb hts (fun w h => List.mem_cons_of_mem _ (inX10 w h)) tyX10 tyX10_ok nmX10 hown hK hP hD hS 0 rfl rfl 2 (by decide) hk_113 (fun _ h9 => h9) rfl (tyX10_ok 2 (by decide)) rfl rfl (Nat.le_of_ble_eq_true rfl) dX10_feed_2 (fun H locs hP hD hS => ?_)
  have hP : va_P D vwCl (w10 cy h0 a0 (sF s0 2 0)) H := pP10_2 hP
  have hD : va_D A (w10 cy h0 a0 (sF s0 2 0)) := pD10_2 hD
  refine lv_aload_n hx hb dX10_feed_5 rfl (lv_at hl 0 rfl) ?_
  refine va_get (ci := 9) (v := .int (s0.1 1)) (C := RX10) (T := TX10) (N := 56) hx hb hts (fun w h => List.mem_cons_of_mem _ (inX10 w h)) hown hK hP 0 rfl rfl 1 (by decide) hk_116 (fun _ h9 => h9) rfl dX10_feed_6 ?_
  refine lv_bipush (v := 20) hx hb dX10_feed_9 (by decide) ?_
  refine lv_iadd hx hb dX10_feed_11 ?_
  refine lv_sipush (v := 1500) hx hb dX10_feed_12 (by decide) ?_
  refine lv_icmp_le (tgt := 20) hx hb dX10_feed_15 (by decide) (fun c_15 => ?_) (fun c_15 => ?_)
  · have hf := op_pos c_15 hf
    refine lv_iconst (v := 0) hx hb dX10_feed_20 (by decide) ?_
    refine lv_istore (lv' := [(6, .int 0), (0, .ref h0), (1, .int p1), (2, .int p2), (3, .int p3), (4, .int p4), (5, .int p5)]) hx hb dX10_feed_21 hl (by decide) rfl (fun ls hl => ?_)
    exact b_X10_feed_L23 l D cy h0 a0 fu out C hA hK fu (sF s0 2 0) p1 p2 p3 p4 p5 0 hf _ _ ls hP hD hS (lv_sub hl [1, 2, 3, 4, 5, 6, 0] rfl)
  · have hf := op_neg c_15 hf
    refine lv_iconst (v := (-1)) hx hb dX10_feed_18 (by decide) ?_
    rw [← Option.some.inj hf]
    exact g_iret hx hb hr hlk hK hP hD hS dX10_feed_19
def f_X10_cutWords_L77 (k_7 : St → Int32 → Int32 → Option (St)) (fu : Nat)  (u0 : St) (x1 : Int32) (x2 : Int32) (x3 : Int32) : Option (St) := if inb (u0.1 29) 760 = true then (k_7 (sF (sA u0 28 ((u0.1 29).toNatClampNeg) x3) 29 ((u0.1 29) + 1)) x1 (x2 + 1)) else none
set_option maxHeartbeats 4000000 in
set_option maxRecDepth 100000 in
theorem b_X10_cutWords_L77 {p : Program} {e : Env} {s : State} {m : MethodId} {args : Array Value} {below : List Frame} {meth : Method} {c : Code} {A : Nat → Prop} (l : Launch) (D : va_G) (cy : Nat → ClassId) (h0 : Nat) (a0 : Nat → Nat) (fu : Nat) (out : St) (C : gC p s m args meth c (WS yX10_cutWords cX10_cutWords 4 none) cX10_cutWords 4 none RX10) (hA : ∀ q : Nat, s.heap.size ≤ q → A q) (hK : va_K D vwCl (TY cy) s) (k_7 : St → Int32 → Int32 → Option (St)) (hk_7 : ∀ (u0 : St) (x1 : Int32) (x2 : Int32), k_7 u0 x1 x2 = some out → ∀ (H : Heap) (locs : List Loc) (ls : Array Slot), va_P D vwCl (w10 cy h0 a0 u0) H → va_D A (w10 cy h0 a0 u0) → va_S A s.heap H locs → lv_has ls 4 [(0, .ref h0), (1, .int x1), (2, .int x2)] → W p l e ({ frames := 0, cells := 0, slots := 0, locals := 0 } : Room) s m args below meth c H locs 0 0 (MQ below (gQv D cy A (w10 cy h0 a0 out)) args s 0 0 A) (F0 m 7 ls [])) :
    ∀ (u0 : St) (x1 : Int32) (x2 : Int32) (x3 : Int32), f_X10_cutWords_L77 k_7 fu u0 x1 x2 x3 = some out → ∀ (H : Heap) (locs : List Loc) (ls : Array Slot), va_P D vwCl (w10 cy h0 a0 u0) H → va_D A (w10 cy h0 a0 u0) → va_S A s.heap H locs → lv_has ls 4 [(0, .ref h0), (1, .int x1), (2, .int x2), (3, .int x3)] → W p l e ({ frames := 0, cells := 0, slots := 0, locals := 0 } : Room) s m args below meth c H locs 0 0 (MQ below (gQv D cy A (w10 cy h0 a0 out)) args s 0 0 A) (F0 m 77 ls []) := by
  obtain ⟨hx, hb, hr, hml, hown, hts, hlk⟩ := id C
  have hown : s.vm.findClass RX10 = some m.cls := hown
  have hk_74 := hts _ (List.mem_cons_of_mem _ fl_RX10_74)
  have hk_119 := hts _ (List.mem_cons_of_mem _ fl_RX10_119)
  intro u0 x1 x2 x3 hf H locs ls hP hD hS hl
  unfold f_X10_cutWords_L77 at hf
  refine lv_aload_n hx hb dX10_cutWords_77 rfl (lv_at hl 0 rfl) ?_
  refine va_get (ci := 9) (v := .ref (a0 28)) (C := RX10) (T := TX10) (N := 56) hx hb hts (fun w h => List.mem_cons_of_mem _ (inX10 w h)) hown hK hP 0 rfl rfl 28 (by decide) hk_74 (fun _ h9 => h9) rfl dX10_cutWords_78 ?_
  refine lv_aload_n hx hb dX10_cutWords_81 rfl (lv_at hl 0 rfl) ?_
  refine va_get (ci := 9) (v := .int (u0.1 29)) (C := RX10) (T := TX10) (N := 56) hx hb hts (fun w h => List.mem_cons_of_mem _ (inX10 w h)) hown hK hP 0 rfl rfl 29 (by decide) hk_119 (fun _ h9 => h9) rfl dX10_cutWords_82 ?_
  refine lv_iload_n hx hb dX10_cutWords_85 rfl (lv_at hl 3 rfl) ?_
  obtain ⟨hg_86, hf⟩ := op_if hf
  refine va_iast (f := u0.2 28) (x := x3) hx hb hK hP hD hS 18 0 rfl rfl (inb_in hg_86) dX10_cutWords_86 (fun H locs hP hD hS => ?_)
  have hP : va_P D vwCl (w10 cy h0 a0 (sA u0 28 ((u0.1 29).toNatClampNeg) x3)) H := pP10_28 hP
  have hD : va_D A (w10 cy h0 a0 (sA u0 28 ((u0.1 29).toNatClampNeg) x3)) := pD10_28 hD
  refine lv_aload_n hx hb dX10_cutWords_87 rfl (lv_at hl 0 rfl) ?_
  refine lv_dup hx hb dX10_cutWords_88 rfl ?_
  refine va_get (ci := 9) (v := .int (u0.1 29)) (C := RX10) (T := TX10) (N := 56) hx hb hts (fun w h => List.mem_cons_of_mem _ (inX10 w h)) hown hK hP 0 rfl rfl 29 (by decide) hk_119 (fun _ h9 => h9) rfl dX10_cutWords_89 ?_
  refine lv_iconst (v := 1) hx hb dX10_cutWords_92 (by decide) ?_
  refine lv_iadd hx hb dX10_cutWords_93 ?_
  refine va_put (ci := 9) (v := .int ((u0.1 29) + 1)) (ty := tyX10 29) (C := RX10) (T := TX10) (N := 56) hx hb hts (fun w h => List.mem_cons_of_mem _ (inX10 w h)) tyX10 tyX10_ok nmX10 hown hK hP hD hS 0 rfl rfl 29 (by decide) hk_119 (fun _ h9 => h9) rfl (tyX10_ok 29 (by decide)) rfl rfl (Nat.le_of_ble_eq_true rfl) dX10_cutWords_94 (fun H locs hP hD hS => ?_)
  have hP : va_P D vwCl (w10 cy h0 a0 (sF (sA u0 28 ((u0.1 29).toNatClampNeg) x3) 29 ((u0.1 29) + 1))) H := pP10_29 hP
  have hD : va_D A (w10 cy h0 a0 (sF (sA u0 28 ((u0.1 29).toNatClampNeg) x3) 29 ((u0.1 29) + 1))) := pD10_29 hD
  refine lv_iinc (v := x2 + 1) (lv' := [(2, .int (x2 + 1)), (0, .ref h0), (1, .int x1), (3, .int x3)]) hx hb dX10_cutWords_97 hl (k := 2) rfl rfl (by decide) rfl (fun ls hl => ?_)
  refine lv_goto (tgt := 7) hx hb dX10_cutWords_100 (by decide) ?_
  exact hk_7 (sF (sA u0 28 ((u0.1 29).toNatClampNeg) x3) 29 ((u0.1 29) + 1)) x1 (x2 + 1) hf _ _ ls hP hD hS (lv_sub hl [1, 2, 0] rfl)
def f_X10_cutWords_L55 (k_7 : St → Int32 → Int32 → Option (St)) (fu : Nat)  : Nat → St → Int32 → Int32 → Int32 → Option (St)
  | 0, _, _, _, _ => none
  | n_55 + 1, u0, x1, x2, x3 => if x1 ≤ x3 then (f_X10_cutWords_L77 k_7 fu u0 x1 x2 x3) else (if inb x3 1500 = true then (if (u0.2 26 x3.toNatClampNeg) = 32 then (f_X10_cutWords_L77 k_7 fu u0 x1 x2 x3) else (f_X10_cutWords_L55 k_7 fu n_55 u0 x1 x2 (x3 + 1))) else none)
set_option maxHeartbeats 4000000 in
set_option maxRecDepth 100000 in
theorem b_X10_cutWords_L55 {p : Program} {e : Env} {s : State} {m : MethodId} {args : Array Value} {below : List Frame} {meth : Method} {c : Code} {A : Nat → Prop} (l : Launch) (D : va_G) (cy : Nat → ClassId) (h0 : Nat) (a0 : Nat → Nat) (fu : Nat) (out : St) (C : gC p s m args meth c (WS yX10_cutWords cX10_cutWords 4 none) cX10_cutWords 4 none RX10) (hA : ∀ q : Nat, s.heap.size ≤ q → A q) (hK : va_K D vwCl (TY cy) s) (k_7 : St → Int32 → Int32 → Option (St)) (hk_7 : ∀ (u0 : St) (x1 : Int32) (x2 : Int32), k_7 u0 x1 x2 = some out → ∀ (H : Heap) (locs : List Loc) (ls : Array Slot), va_P D vwCl (w10 cy h0 a0 u0) H → va_D A (w10 cy h0 a0 u0) → va_S A s.heap H locs → lv_has ls 4 [(0, .ref h0), (1, .int x1), (2, .int x2)] → W p l e ({ frames := 0, cells := 0, slots := 0, locals := 0 } : Room) s m args below meth c H locs 0 0 (MQ below (gQv D cy A (w10 cy h0 a0 out)) args s 0 0 A) (F0 m 7 ls [])) :
    ∀ (n_55 : Nat), ∀ (u0 : St) (x1 : Int32) (x2 : Int32) (x3 : Int32), f_X10_cutWords_L55 k_7 fu n_55 u0 x1 x2 x3 = some out → ∀ (H : Heap) (locs : List Loc) (ls : Array Slot), va_P D vwCl (w10 cy h0 a0 u0) H → va_D A (w10 cy h0 a0 u0) → va_S A s.heap H locs → lv_has ls 4 [(0, .ref h0), (1, .int x1), (2, .int x2), (3, .int x3)] → W p l e ({ frames := 0, cells := 0, slots := 0, locals := 0 } : Room) s m args below meth c H locs 0 0 (MQ below (gQv D cy A (w10 cy h0 a0 out)) args s 0 0 A) (F0 m 55 ls []) := by
  obtain ⟨hx, hb, hr, hml, hown, hts, hlk⟩ := id C
  have hown : s.vm.findClass RX10 = some m.cls := hown
  have hk_68 := hts _ (List.mem_cons_of_mem _ fl_RX10_68)
  intro n_55
  induction n_55 with
  | zero => intro u0 x1 x2 x3 hf; exact op_no hf
  | succ n_55 ih_55 =>
    intro u0 x1 x2 x3 hf H locs ls hP hD hS hl
    rw [f_X10_cutWords_L55] at hf
    refine lv_iload_n hx hb dX10_cutWords_55 rfl (lv_at hl 3 rfl) ?_
    refine lv_iload_n hx hb dX10_cutWords_56 rfl (lv_at hl 1 rfl) ?_
    refine lv_icmp_ge (tgt := 77) hx hb dX10_cutWords_57 (by decide) (fun c_57 => ?_) (fun c_57 => ?_)
    · have hf := op_pos c_57 hf
      exact b_X10_cutWords_L77 l D cy h0 a0 fu out C hA hK k_7 hk_7 u0 x1 x2 x3 hf _ _ ls hP hD hS (lv_sub hl [0, 1, 2, 3] rfl)
    · have hf := op_neg c_57 hf
      refine lv_aload_n hx hb dX10_cutWords_60 rfl (lv_at hl 0 rfl) ?_
      refine va_get (ci := 9) (v := .ref (a0 26)) (C := RX10) (T := TX10) (N := 56) hx hb hts (fun w h => List.mem_cons_of_mem _ (inX10 w h)) hown hK hP 0 rfl rfl 26 (by decide) hk_68 (fun _ h9 => h9) rfl dX10_cutWords_61 ?_
      refine lv_iload_n hx hb dX10_cutWords_64 rfl (lv_at hl 3 rfl) ?_
      obtain ⟨hg_65, hf⟩ := op_if hf
      refine va_iald (f := u0.2 26) hx hb hK hP 16 0 rfl rfl (inb_in hg_65) dX10_cutWords_65 ?_
      refine lv_bipush (v := 32) hx hb dX10_cutWords_66 (by decide) ?_
      refine lv_icmp_eq (tgt := 77) hx hb dX10_cutWords_68 (by decide) (fun c_68 => ?_) (fun c_68 => ?_)
      · have hf := op_pos c_68 hf
        exact b_X10_cutWords_L77 l D cy h0 a0 fu out C hA hK k_7 hk_7 u0 x1 x2 x3 hf _ _ ls hP hD hS (lv_sub hl [0, 1, 2, 3] rfl)
      · have hf := op_neg c_68 hf
        refine lv_iinc (v := x3 + 1) (lv' := [(3, .int (x3 + 1)), (0, .ref h0), (1, .int x1), (2, .int x2)]) hx hb dX10_cutWords_71 hl (k := 3) rfl rfl (by decide) rfl (fun ls hl => ?_)
        refine lv_goto (tgt := 55) hx hb dX10_cutWords_74 (by decide) ?_
        exact ih_55 u0 x1 x2 (x3 + 1) hf _ _ ls hP hD hS (lv_sub hl [1, 2, 3, 0] rfl)
def f_X10_cutWords_L43 (k_7 : St → Int32 → Int32 → Option (St)) (fu : Nat)  (u0 : St) (x1 : Int32) (x2 : Int32) : Option (St) := if inb (u0.1 29) 760 = true then (f_X10_cutWords_L55 k_7 fu fu (sA u0 27 ((u0.1 29).toNatClampNeg) x2) x1 x2 x2) else none
set_option maxHeartbeats 4000000 in
set_option maxRecDepth 100000 in
theorem b_X10_cutWords_L43 {p : Program} {e : Env} {s : State} {m : MethodId} {args : Array Value} {below : List Frame} {meth : Method} {c : Code} {A : Nat → Prop} (l : Launch) (D : va_G) (cy : Nat → ClassId) (h0 : Nat) (a0 : Nat → Nat) (fu : Nat) (out : St) (C : gC p s m args meth c (WS yX10_cutWords cX10_cutWords 4 none) cX10_cutWords 4 none RX10) (hA : ∀ q : Nat, s.heap.size ≤ q → A q) (hK : va_K D vwCl (TY cy) s) (k_7 : St → Int32 → Int32 → Option (St)) (hk_7 : ∀ (u0 : St) (x1 : Int32) (x2 : Int32), k_7 u0 x1 x2 = some out → ∀ (H : Heap) (locs : List Loc) (ls : Array Slot), va_P D vwCl (w10 cy h0 a0 u0) H → va_D A (w10 cy h0 a0 u0) → va_S A s.heap H locs → lv_has ls 4 [(0, .ref h0), (1, .int x1), (2, .int x2)] → W p l e ({ frames := 0, cells := 0, slots := 0, locals := 0 } : Room) s m args below meth c H locs 0 0 (MQ below (gQv D cy A (w10 cy h0 a0 out)) args s 0 0 A) (F0 m 7 ls [])) :
    ∀ (u0 : St) (x1 : Int32) (x2 : Int32), f_X10_cutWords_L43 k_7 fu u0 x1 x2 = some out → ∀ (H : Heap) (locs : List Loc) (ls : Array Slot), va_P D vwCl (w10 cy h0 a0 u0) H → va_D A (w10 cy h0 a0 u0) → va_S A s.heap H locs → lv_has ls 4 [(0, .ref h0), (1, .int x1), (2, .int x2)] → W p l e ({ frames := 0, cells := 0, slots := 0, locals := 0 } : Room) s m args below meth c H locs 0 0 (MQ below (gQv D cy A (w10 cy h0 a0 out)) args s 0 0 A) (F0 m 43 ls []) := by
  obtain ⟨hx, hb, hr, hml, hown, hts, hlk⟩ := id C
  have hown : s.vm.findClass RX10 = some m.cls := hown
  have hk_71 := hts _ (List.mem_cons_of_mem _ fl_RX10_71)
  have hk_119 := hts _ (List.mem_cons_of_mem _ fl_RX10_119)
  intro u0 x1 x2 hf H locs ls hP hD hS hl
  unfold f_X10_cutWords_L43 at hf
  refine lv_aload_n hx hb dX10_cutWords_43 rfl (lv_at hl 0 rfl) ?_
  refine va_get (ci := 9) (v := .ref (a0 27)) (C := RX10) (T := TX10) (N := 56) hx hb hts (fun w h => List.mem_cons_of_mem _ (inX10 w h)) hown hK hP 0 rfl rfl 27 (by decide) hk_71 (fun _ h9 => h9) rfl dX10_cutWords_44 ?_
  refine lv_aload_n hx hb dX10_cutWords_47 rfl (lv_at hl 0 rfl) ?_
  refine va_get (ci := 9) (v := .int (u0.1 29)) (C := RX10) (T := TX10) (N := 56) hx hb hts (fun w h => List.mem_cons_of_mem _ (inX10 w h)) hown hK hP 0 rfl rfl 29 (by decide) hk_119 (fun _ h9 => h9) rfl dX10_cutWords_48 ?_
  refine lv_iload_n hx hb dX10_cutWords_51 rfl (lv_at hl 2 rfl) ?_
  obtain ⟨hg_52, hf⟩ := op_if hf
  refine va_iast (f := u0.2 27) (x := x2) hx hb hK hP hD hS 17 0 rfl rfl (inb_in hg_52) dX10_cutWords_52 (fun H locs hP hD hS => ?_)
  have hP : va_P D vwCl (w10 cy h0 a0 (sA u0 27 ((u0.1 29).toNatClampNeg) x2)) H := pP10_27 hP
  have hD : va_D A (w10 cy h0 a0 (sA u0 27 ((u0.1 29).toNatClampNeg) x2)) := pD10_27 hD
  refine lv_iload_n hx hb dX10_cutWords_53 rfl (lv_at hl 2 rfl) ?_
  refine lv_istore_n (lv' := [(3, .int x2), (0, .ref h0), (1, .int x1), (2, .int x2)]) hx hb dX10_cutWords_54 rfl hl (by decide) rfl (fun ls hl => ?_)
  exact b_X10_cutWords_L55 l D cy h0 a0 fu out C hA hK k_7 hk_7 fu (sA u0 27 ((u0.1 29).toNatClampNeg) x2) x1 x2 x2 hf _ _ ls hP hD hS (lv_sub hl [1, 2, 3, 0] rfl)
def f_X10_cutWords_L7  (fu : Nat)  : Nat → St → Int32 → Int32 → Option (St)
  | 0, _, _, _ => none
  | n_7 + 1, u0, x1, x2 => if x1 ≤ x2 then (some u0) else (if inb x2 1500 = true then (if (u0.2 26 x2.toNatClampNeg) = 32 then (f_X10_cutWords_L7 fu n_7 u0 x1 (x2 + 1)) else (if x2 ≤ 0 then (f_X10_cutWords_L43 (f_X10_cutWords_L7 fu n_7) fu u0 x1 x2) else (if inb (x2 - 1) 1500 = true then (if (u0.2 26 (x2 - 1).toNatClampNeg) = 32 then (f_X10_cutWords_L43 (f_X10_cutWords_L7 fu n_7) fu u0 x1 x2) else (f_X10_cutWords_L7 fu n_7 u0 x1 (x2 + 1))) else none))) else none)
set_option maxHeartbeats 4000000 in
set_option maxRecDepth 100000 in
theorem b_X10_cutWords_L7 {p : Program} {e : Env} {s : State} {m : MethodId} {args : Array Value} {below : List Frame} {meth : Method} {c : Code} {A : Nat → Prop} (l : Launch) (D : va_G) (cy : Nat → ClassId) (h0 : Nat) (a0 : Nat → Nat) (fu : Nat) (out : St) (C : gC p s m args meth c (WS yX10_cutWords cX10_cutWords 4 none) cX10_cutWords 4 none RX10) (hA : ∀ q : Nat, s.heap.size ≤ q → A q) (hK : va_K D vwCl (TY cy) s)  :
    ∀ (n_7 : Nat), ∀ (u0 : St) (x1 : Int32) (x2 : Int32), f_X10_cutWords_L7 fu n_7 u0 x1 x2 = some out → ∀ (H : Heap) (locs : List Loc) (ls : Array Slot), va_P D vwCl (w10 cy h0 a0 u0) H → va_D A (w10 cy h0 a0 u0) → va_S A s.heap H locs → lv_has ls 4 [(0, .ref h0), (1, .int x1), (2, .int x2)] → W p l e ({ frames := 0, cells := 0, slots := 0, locals := 0 } : Room) s m args below meth c H locs 0 0 (MQ below (gQv D cy A (w10 cy h0 a0 out)) args s 0 0 A) (F0 m 7 ls []) := by
  obtain ⟨hx, hb, hr, hml, hown, hts, hlk⟩ := id C
  have hown : s.vm.findClass RX10 = some m.cls := hown
  have hk_68 := hts _ (List.mem_cons_of_mem _ fl_RX10_68)
  intro n_7
  induction n_7 with
  | zero => intro u0 x1 x2 hf; exact op_no hf
  | succ n_7 ih_7 =>
    intro u0 x1 x2 hf H locs ls hP hD hS hl
    rw [f_X10_cutWords_L7] at hf
    refine lv_iload_n hx hb dX10_cutWords_7 rfl (lv_at hl 2 rfl) ?_
    refine lv_iload_n hx hb dX10_cutWords_8 rfl (lv_at hl 1 rfl) ?_
    refine lv_icmp_ge (tgt := 103) hx hb dX10_cutWords_9 (by decide) (fun c_9 => ?_) (fun c_9 => ?_)
    · have hf := op_pos c_9 hf
      rw [← Option.some.inj hf]
      exact g_vret hx hb hr hlk hK hP hD hS dX10_cutWords_103
    · have hf := op_neg c_9 hf
      refine lv_aload_n hx hb dX10_cutWords_12 rfl (lv_at hl 0 rfl) ?_
      refine va_get (ci := 9) (v := .ref (a0 26)) (C := RX10) (T := TX10) (N := 56) hx hb hts (fun w h => List.mem_cons_of_mem _ (inX10 w h)) hown hK hP 0 rfl rfl 26 (by decide) hk_68 (fun _ h9 => h9) rfl dX10_cutWords_13 ?_
      refine lv_iload_n hx hb dX10_cutWords_16 rfl (lv_at hl 2 rfl) ?_
      obtain ⟨hg_17, hf⟩ := op_if hf
      refine va_iald (f := u0.2 26) hx hb hK hP 16 0 rfl rfl (inb_in hg_17) dX10_cutWords_17 ?_
      refine lv_bipush (v := 32) hx hb dX10_cutWords_18 (by decide) ?_
      refine lv_icmp_eq (tgt := 97) hx hb dX10_cutWords_20 (by decide) (fun c_20 => ?_) (fun c_20 => ?_)
      · have hf := op_pos c_20 hf
        refine lv_iinc (v := x2 + 1) (lv' := [(2, .int (x2 + 1)), (0, .ref h0), (1, .int x1)]) hx hb dX10_cutWords_97 hl (k := 2) rfl rfl (by decide) rfl (fun ls hl => ?_)
        refine lv_goto (tgt := 7) hx hb dX10_cutWords_100 (by decide) ?_
        exact ih_7 u0 x1 (x2 + 1) hf _ _ ls hP hD hS (lv_sub hl [1, 2, 0] rfl)
      · have hf := op_neg c_20 hf
        refine lv_iload_n hx hb dX10_cutWords_23 rfl (lv_at hl 2 rfl) ?_
        refine lv_if_le (tgt := 43) hx hb dX10_cutWords_24 (by decide) (fun c_24 => ?_) (fun c_24 => ?_)
        · have hf := op_pos c_24 hf
          exact b_X10_cutWords_L43 l D cy h0 a0 fu out C hA hK (f_X10_cutWords_L7 fu n_7) ih_7 u0 x1 x2 hf _ _ ls hP hD hS (lv_sub hl [0, 1, 2] rfl)
        · have hf := op_neg c_24 hf
          refine lv_aload_n hx hb dX10_cutWords_27 rfl (lv_at hl 0 rfl) ?_
          refine va_get (ci := 9) (v := .ref (a0 26)) (C := RX10) (T := TX10) (N := 56) hx hb hts (fun w h => List.mem_cons_of_mem _ (inX10 w h)) hown hK hP 0 rfl rfl 26 (by decide) hk_68 (fun _ h9 => h9) rfl dX10_cutWords_28 ?_
          refine lv_iload_n hx hb dX10_cutWords_31 rfl (lv_at hl 2 rfl) ?_
          refine lv_iconst (v := 1) hx hb dX10_cutWords_32 (by decide) ?_
          refine lv_isub hx hb dX10_cutWords_33 ?_
          obtain ⟨hg_34, hf⟩ := op_if hf
          refine va_iald (f := u0.2 26) hx hb hK hP 16 0 rfl rfl (inb_in hg_34) dX10_cutWords_34 ?_
          refine lv_bipush (v := 32) hx hb dX10_cutWords_35 (by decide) ?_
          refine lv_icmp_eq (tgt := 43) hx hb dX10_cutWords_37 (by decide) (fun c_37 => ?_) (fun c_37 => ?_)
          · have hf := op_pos c_37 hf
            exact b_X10_cutWords_L43 l D cy h0 a0 fu out C hA hK (f_X10_cutWords_L7 fu n_7) ih_7 u0 x1 x2 hf _ _ ls hP hD hS (lv_sub hl [0, 1, 2] rfl)
          · have hf := op_neg c_37 hf
            refine lv_goto (tgt := 97) hx hb dX10_cutWords_40 (by decide) ?_
            refine lv_iinc (v := x2 + 1) (lv' := [(2, .int (x2 + 1)), (0, .ref h0), (1, .int x1)]) hx hb dX10_cutWords_97 hl (k := 2) rfl rfl (by decide) rfl (fun ls hl => ?_)
            refine lv_goto (tgt := 7) hx hb dX10_cutWords_100 (by decide) ?_
            exact ih_7 u0 x1 (x2 + 1) hf _ _ ls hP hD hS (lv_sub hl [1, 2, 0] rfl)
def f_X10_cutWords (fu : Nat)  (s0 : St) (p1 : Int32) : Option (St) := f_X10_cutWords_L7 fu fu (sF s0 29 0) p1 0
theorem hdX10_cutWords : yX10_cutWords.cls = RX10 ∧ yX10_cutWords.cls ≠ "java/lang/invoke/MethodHandle" ∧ yX10_cutWords.cls ≠ "java/lang/invoke/VarHandle" ∧ (parseMethodDescriptor yX10_cutWords.desc).map (fun d => d.parameters.length) = some 1 := by decide +kernel
set_option maxHeartbeats 4000000 in
set_option maxRecDepth 100000 in
theorem c_X10_cutWords (l : Launch) (D : va_G) (cy : Nat → ClassId) (h0 : Nat) (a0 : Nat → Nat) (s0 : St) (sz fu : Nat) (p1 : Int32) (out : St) (hf : f_X10_cutWords fu s0 p1 = some out) :
    Met l yX10_cutWords (WS yX10_cutWords cX10_cutWords 4 none) ({ frames := 0, cells := 0, slots := 0, locals := 0 } : Room) (va_Pc [.ref h0, .int p1] (gP D cy sz (w10 cy h0 a0 s0))) ((fun A : Nat → Prop => gQv D cy A (w10 cy h0 a0 out)) (va_A (w10 cy h0 a0 s0) sz)) 0 0 (va_A (w10 cy h0 a0 s0) sz) := by
  refine g_met (cc := cX10_cutWords) (maxL := 4) (ret := none) (fun A : Nat → Prop => gQv D cy A (w10 cy h0 a0 out)) (by decide +kernel) rfl (Nat.le_of_ble_eq_true rfl) ?_
  intro p e s m below meth c A C hA hK hP hD ls hl
  obtain ⟨hx, hb, hr, hml, hown, hts, hlk⟩ := id C
  have hown : s.vm.findClass RX10 = some m.cls := hown
  have hS : va_S A s.heap s.heap [] := va_S.rf
  have hl : lv_has ls 4 [(0, .ref h0), (1, .int p1)] := hl
  have hk_119 := hts _ (List.mem_cons_of_mem _ fl_RX10_119)
  unfold f_X10_cutWords at hf
  refine lv_aload_n hx hb dX10_cutWords_0 rfl (lv_at hl 0 rfl) ?_
  refine lv_iconst (v := 0) hx hb dX10_cutWords_1 (by decide) ?_
  refine va_put (ci := 9) (v := .int 0) (ty := tyX10 29) (C := RX10) (T := TX10) (N := 56) hx hb hts (fun w h => List.mem_cons_of_mem _ (inX10 w h)) tyX10 tyX10_ok nmX10 hown hK hP hD hS 0 rfl rfl 29 (by decide) hk_119 (fun _ h9 => h9) rfl (tyX10_ok 29 (by decide)) rfl rfl (Nat.le_of_ble_eq_true rfl) dX10_cutWords_2 (fun H locs hP hD hS => ?_)
  have hP : va_P D vwCl (w10 cy h0 a0 (sF s0 29 0)) H := pP10_29 hP
  have hD : va_D A (w10 cy h0 a0 (sF s0 29 0)) := pD10_29 hD
  refine lv_iconst (v := 0) hx hb dX10_cutWords_5 (by decide) ?_
  refine lv_istore_n (lv' := [(2, .int 0), (0, .ref h0), (1, .int p1)]) hx hb dX10_cutWords_6 rfl hl (by decide) rfl (fun ls hl => ?_)
  exact b_X10_cutWords_L7 l D cy h0 a0 fu out C hA hK fu (sF s0 29 0) p1 0 hf _ _ ls hP hD hS (lv_sub hl [1, 2, 0] rfl)
def f_X10_rowLength (fu : Nat) (s0 : St)  (p1 : Int32) (p2 : Int32) : Option (Int32) := if inb ((p1 + p2) - 1) 760 = true then (if inb p1 760 = true then (some ((s0.2 28 ((p1 + p2) - 1).toNatClampNeg) - (s0.2 27 p1.toNatClampNeg))) else none) else none
theorem hdX10_rowLength : yX10_rowLength.cls = RX10 ∧ yX10_rowLength.cls ≠ "java/lang/invoke/MethodHandle" ∧ yX10_rowLength.cls ≠ "java/lang/invoke/VarHandle" ∧ (parseMethodDescriptor yX10_rowLength.desc).map (fun d => d.parameters.length) = some 2 := by decide +kernel
set_option maxHeartbeats 4000000 in
set_option maxRecDepth 100000 in
theorem c_X10_rowLength (l : Launch) (D : va_G) (cy : Nat → ClassId) (h0 : Nat) (a0 : Nat → Nat) (s0 : St) (sz fu : Nat) (p1 : Int32) (p2 : Int32) (out : Int32) (hf : f_X10_rowLength fu s0 p1 p2 = some out) :
    Met l yX10_rowLength (WS yX10_rowLength cX10_rowLength 3 (some .int)) ({ frames := 0, cells := 0, slots := 0, locals := 0 } : Room) (va_Pc [.ref h0, .int p1, .int p2] (gP D cy sz (w10 cy h0 a0 s0))) ((fun A : Nat → Prop => gQi D cy A out (w10 cy h0 a0 s0)) (va_A (w10 cy h0 a0 s0) sz)) 0 0 (va_A (w10 cy h0 a0 s0) sz) := by
  refine g_met (cc := cX10_rowLength) (maxL := 3) (ret := (some .int)) (fun A : Nat → Prop => gQi D cy A out (w10 cy h0 a0 s0)) (by decide +kernel) rfl (Nat.le_of_ble_eq_true rfl) ?_
  intro p e s m below meth c A C hA hK hP hD ls hl
  obtain ⟨hx, hb, hr, hml, hown, hts, hlk⟩ := id C
  have hown : s.vm.findClass RX10 = some m.cls := hown
  have hS : va_S A s.heap s.heap [] := va_S.rf
  have hl : lv_has ls 3 [(0, .ref h0), (1, .int p1), (2, .int p2)] := hl
  have hk_74 := hts _ (List.mem_cons_of_mem _ fl_RX10_74)
  have hk_71 := hts _ (List.mem_cons_of_mem _ fl_RX10_71)
  unfold f_X10_rowLength at hf
  refine lv_aload_n hx hb dX10_rowLength_0 rfl (lv_at hl 0 rfl) ?_
  refine va_get (ci := 9) (v := .ref (a0 28)) (C := RX10) (T := TX10) (N := 56) hx hb hts (fun w h => List.mem_cons_of_mem _ (inX10 w h)) hown hK hP 0 rfl rfl 28 (by decide) hk_74 (fun _ h9 => h9) rfl dX10_rowLength_1 ?_
  refine lv_iload_n hx hb dX10_rowLength_4 rfl (lv_at hl 1 rfl) ?_
  refine lv_iload_n hx hb dX10_rowLength_5 rfl (lv_at hl 2 rfl) ?_
  refine lv_iadd hx hb dX10_rowLength_6 ?_
  refine lv_iconst (v := 1) hx hb dX10_rowLength_7 (by decide) ?_
  refine lv_isub hx hb dX10_rowLength_8 ?_
  obtain ⟨hg_9, hf⟩ := op_if hf
  refine va_iald (f := s0.2 28) hx hb hK hP 18 0 rfl rfl (inb_in hg_9) dX10_rowLength_9 ?_
  refine lv_aload_n hx hb dX10_rowLength_10 rfl (lv_at hl 0 rfl) ?_
  refine va_get (ci := 9) (v := .ref (a0 27)) (C := RX10) (T := TX10) (N := 56) hx hb hts (fun w h => List.mem_cons_of_mem _ (inX10 w h)) hown hK hP 0 rfl rfl 27 (by decide) hk_71 (fun _ h9 => h9) rfl dX10_rowLength_11 ?_
  refine lv_iload_n hx hb dX10_rowLength_14 rfl (lv_at hl 1 rfl) ?_
  obtain ⟨hg_15, hf⟩ := op_if hf
  refine va_iald (f := s0.2 27) hx hb hK hP 17 0 rfl rfl (inb_in hg_15) dX10_rowLength_15 ?_
  refine lv_isub hx hb dX10_rowLength_16 ?_
  rw [← Option.some.inj hf]
  exact g_iret hx hb hr hlk hK hP hD hS dX10_rowLength_17
def f_X10_fits_L2  (fu : Nat) (s0 : St) : Nat → Int32 → Int32 → Int32 → Option (Int32)
  | 0, _, _, _ => none
  | n_2 + 1, x1, x2, x3 => if (s0.1 29) ≤ (x1 + x3) then (some x3) else ((f_X10_rowLength fu s0 x1 (x3 + 1)).bind (fun q_17 => if x2 < q_17 then (some x3) else (f_X10_fits_L2 fu s0 n_2 x1 x2 (x3 + 1))))
set_option maxHeartbeats 4000000 in
set_option maxRecDepth 100000 in
theorem b_X10_fits_L2 {p : Program} {e : Env} {s : State} {m : MethodId} {args : Array Value} {below : List Frame} {meth : Method} {c : Code} {A : Nat → Prop} (l : Launch) (D : va_G) (cy : Nat → ClassId) (h0 : Nat) (a0 : Nat → Nat) (s0 : St) (fu : Nat) (out : Int32) (C : gC p s m args meth c (WS yX10_fits cX10_fits 4 (some .int)) cX10_fits 4 (some .int) RX10) (hA : ∀ q : Nat, s.heap.size ≤ q → A q) (hK : va_K D vwCl (TY cy) s)  :
    ∀ (n_2 : Nat), ∀ (x1 : Int32) (x2 : Int32) (x3 : Int32), f_X10_fits_L2 fu s0 n_2 x1 x2 x3 = some out → ∀ (H : Heap) (locs : List Loc) (ls : Array Slot), va_P D vwCl (w10 cy h0 a0 s0) H → va_D A (w10 cy h0 a0 s0) → va_S A s.heap H locs → lv_has ls 4 [(0, .ref h0), (1, .int x1), (2, .int x2), (3, .int x3)] → W p l e ({ frames := 1, cells := 0, slots := 0, locals := 22 } : Room) s m args below meth c H locs 0 0 (MQ below (gQi D cy A out (w10 cy h0 a0 s0)) args s 0 0 A) (F0 m 2 ls []) := by
  obtain ⟨hx, hb, hr, hml, hown, hts, hlk⟩ := id C
  have hown : s.vm.findClass RX10 = some m.cls := hown
  have hk_119 := hts _ (List.mem_cons_of_mem _ fl_RX10_119)
  intro n_2
  induction n_2 with
  | zero => intro x1 x2 x3 hf; exact op_no hf
  | succ n_2 ih_2 =>
    intro x1 x2 x3 hf H locs ls hP hD hS hl
    rw [f_X10_fits_L2] at hf
    refine lv_iload_n hx hb dX10_fits_2 rfl (lv_at hl 1 rfl) ?_
    refine lv_iload_n hx hb dX10_fits_3 rfl (lv_at hl 3 rfl) ?_
    refine lv_iadd hx hb dX10_fits_4 ?_
    refine lv_aload_n hx hb dX10_fits_5 rfl (lv_at hl 0 rfl) ?_
    refine va_get (ci := 9) (v := .int (s0.1 29)) (C := RX10) (T := TX10) (N := 56) hx hb hts (fun w h => List.mem_cons_of_mem _ (inX10 w h)) hown hK hP 0 rfl rfl 29 (by decide) hk_119 (fun _ h9 => h9) rfl dX10_fits_6 ?_
    refine lv_icmp_ge (tgt := 30) hx hb dX10_fits_9 (by decide) (fun c_9 => ?_) (fun c_9 => ?_)
    · have hf := op_pos c_9 hf
      refine lv_iload_n hx hb dX10_fits_30 rfl (lv_at hl 3 rfl) ?_
      rw [← Option.some.inj hf]
      exact g_iret hx hb hr hlk hK hP hD hS dX10_fits_31
    · have hf := op_neg c_9 hf
      refine lv_aload_n hx hb dX10_fits_12 rfl (lv_at hl 0 rfl) ?_
      refine lv_iload_n hx hb dX10_fits_13 rfl (lv_at hl 1 rfl) ?_
      refine lv_iload_n hx hb dX10_fits_14 rfl (lv_at hl 3 rfl) ?_
      refine lv_iconst (v := 1) hx hb dX10_fits_15 (by decide) ?_
      refine lv_iadd hx hb dX10_fits_16 ?_
      obtain ⟨q_17, hc_17, hf⟩ := op_bind hf
      refine g_callVi (As := [.int x1, .int (x3 + 1)]) (rest := []) (w2 := w10 cy h0 a0 s0) ⟨hx, hb, hml, hown, hts⟩ (c_X10_rowLength l D cy h0 a0 s0 _ fu x1 (x3 + 1) _ hc_17) (cwV 2 hts (gi_V ml_RX10_122 im_X10_rowLength se_X10_rowLength in_RX10 cd_X10_rowLength) rfl rfl rfl hdX10_rowLength ⟨Nat.le_of_ble_eq_true rfl, Nat.le_of_ble_eq_true rfl⟩) (va_recv hK hP (ci := 9) (q0 := 0) rfl rfl) rfl hl.1 rfl (Nat.le_of_ble_eq_true rfl) dX10_fits_17 hK hP hD hS hA [0, 1, 2, 3, 4, 5, 6, 7, 8, 9, 10, 11, 12, 13, 14, 15, 16, 17, 18, 19, 20, 21, 22, 23, 24, 25, 26, 27, 28, 29] [] [0, 1, 2, 3, 4, 5, 6, 7, 8, 9, 10, 11, 12, 13, 14, 15, 16, 17, 18, 19, 20, 21, 22, 23, 24, 25, 26, 27, 28, 29] rfl rfl rfl rfl (by decide) rfl rfl (fun H locs hP hD hS => ?_)
      refine lv_iload_n hx hb dX10_fits_20 rfl (lv_at hl 2 rfl) ?_
      refine lv_icmp_gt (tgt := 30) hx hb dX10_fits_21 (by decide) (fun c_21 => ?_) (fun c_21 => ?_)
      · have hf := op_pos c_21 hf
        refine lv_iload_n hx hb dX10_fits_30 rfl (lv_at hl 3 rfl) ?_
        rw [← Option.some.inj hf]
        exact g_iret hx hb hr hlk hK hP hD hS dX10_fits_31
      · have hf := op_neg c_21 hf
        refine lv_iinc (v := x3 + 1) (lv' := [(3, .int (x3 + 1)), (0, .ref h0), (1, .int x1), (2, .int x2)]) hx hb dX10_fits_24 hl (k := 3) rfl rfl (by decide) rfl (fun ls hl => ?_)
        refine lv_goto (tgt := 2) hx hb dX10_fits_27 (by decide) ?_
        exact ih_2 x1 x2 (x3 + 1) hf _ _ ls hP hD hS (lv_sub hl [1, 2, 3, 0] rfl)
def f_X10_fits (fu : Nat) (s0 : St)  (p1 : Int32) (p2 : Int32) : Option (Int32) := f_X10_fits_L2 fu s0 fu p1 p2 0
theorem hdX10_fits : yX10_fits.cls = RX10 ∧ yX10_fits.cls ≠ "java/lang/invoke/MethodHandle" ∧ yX10_fits.cls ≠ "java/lang/invoke/VarHandle" ∧ (parseMethodDescriptor yX10_fits.desc).map (fun d => d.parameters.length) = some 2 := by decide +kernel
set_option maxHeartbeats 4000000 in
set_option maxRecDepth 100000 in
theorem c_X10_fits (l : Launch) (D : va_G) (cy : Nat → ClassId) (h0 : Nat) (a0 : Nat → Nat) (s0 : St) (sz fu : Nat) (p1 : Int32) (p2 : Int32) (out : Int32) (hf : f_X10_fits fu s0 p1 p2 = some out) :
    Met l yX10_fits (WS yX10_fits cX10_fits 4 (some .int)) ({ frames := 1, cells := 0, slots := 0, locals := 22 } : Room) (va_Pc [.ref h0, .int p1, .int p2] (gP D cy sz (w10 cy h0 a0 s0))) ((fun A : Nat → Prop => gQi D cy A out (w10 cy h0 a0 s0)) (va_A (w10 cy h0 a0 s0) sz)) 0 0 (va_A (w10 cy h0 a0 s0) sz) := by
  refine g_met (cc := cX10_fits) (maxL := 4) (ret := (some .int)) (fun A : Nat → Prop => gQi D cy A out (w10 cy h0 a0 s0)) (by decide +kernel) rfl (Nat.le_of_ble_eq_true rfl) ?_
  intro p e s m below meth c A C hA hK hP hD ls hl
  obtain ⟨hx, hb, hr, hml, hown, hts, hlk⟩ := id C
  have hown : s.vm.findClass RX10 = some m.cls := hown
  have hS : va_S A s.heap s.heap [] := va_S.rf
  have hl : lv_has ls 4 [(0, .ref h0), (1, .int p1), (2, .int p2)] := hl
  unfold f_X10_fits at hf
  refine lv_iconst (v := 0) hx hb dX10_fits_0 (by decide) ?_
  refine lv_istore_n (lv' := [(3, .int 0), (0, .ref h0), (1, .int p1), (2, .int p2)]) hx hb dX10_fits_1 rfl hl (by decide) rfl (fun ls hl => ?_)
  exact b_X10_fits_L2 l D cy h0 a0 s0 fu out C hA hK fu p1 p2 0 hf _ _ ls hP hD hS (lv_sub hl [1, 2, 3, 0] rfl)
def f_X10_paid (fu : Nat) (s0 : St)  (p1 : Int32) (p2 : Int32) (p3 : Int32) : Option (Int32) := if p2 = 0 then (some 0) else ((f_X10_rowLength fu s0 p1 p2).bind (fun q_10 => some ((p3 - q_10) * (p3 - q_10))))
theorem hdX10_paid : yX10_paid.cls = RX10 ∧ yX10_paid.cls ≠ "java/lang/invoke/MethodHandle" ∧ yX10_paid.cls ≠ "java/lang/invoke/VarHandle" ∧ (parseMethodDescriptor yX10_paid.desc).map (fun d => d.parameters.length) = some 3 := by decide +kernel
set_option maxHeartbeats 4000000 in
set_option maxRecDepth 100000 in
theorem c_X10_paid (l : Launch) (D : va_G) (cy : Nat → ClassId) (h0 : Nat) (a0 : Nat → Nat) (s0 : St) (sz fu : Nat) (p1 : Int32) (p2 : Int32) (p3 : Int32) (out : Int32) (hf : f_X10_paid fu s0 p1 p2 p3 = some out) :
    Met l yX10_paid (WS yX10_paid cX10_paid 5 (some .int)) ({ frames := 1, cells := 0, slots := 0, locals := 22 } : Room) (va_Pc [.ref h0, .int p1, .int p2, .int p3] (gP D cy sz (w10 cy h0 a0 s0))) ((fun A : Nat → Prop => gQi D cy A out (w10 cy h0 a0 s0)) (va_A (w10 cy h0 a0 s0) sz)) 0 0 (va_A (w10 cy h0 a0 s0) sz) := by
  refine g_met (cc := cX10_paid) (maxL := 5) (ret := (some .int)) (fun A : Nat → Prop => gQi D cy A out (w10 cy h0 a0 s0)) (by decide +kernel) rfl (Nat.le_of_ble_eq_true rfl) ?_
  intro p e s m below meth c A C hA hK hP hD ls hl
  obtain ⟨hx, hb, hr, hml, hown, hts, hlk⟩ := id C
  have hown : s.vm.findClass RX10 = some m.cls := hown
  have hS : va_S A s.heap s.heap [] := va_S.rf
  have hl : lv_has ls 5 [(0, .ref h0), (1, .int p1), (2, .int p2), (3, .int p3)] := hl
  unfold f_X10_paid at hf
  refine lv_iload_n hx hb dX10_paid_0 rfl (lv_at hl 2 rfl) ?_
  refine lv_if_ne (tgt := 6) hx hb dX10_paid_1 (by decide) (fun c_1 => ?_) (fun c_1 => ?_)
  · have hf := op_neg c_1 hf
    refine lv_iload_n hx hb dX10_paid_6 rfl (lv_at hl 3 rfl) ?_
    refine lv_aload_n hx hb dX10_paid_7 rfl (lv_at hl 0 rfl) ?_
    refine lv_iload_n hx hb dX10_paid_8 rfl (lv_at hl 1 rfl) ?_
    refine lv_iload_n hx hb dX10_paid_9 rfl (lv_at hl 2 rfl) ?_
    obtain ⟨q_10, hc_10, hf⟩ := op_bind hf
    refine g_callVi (As := [.int p1, .int p2]) (rest := [.int p3]) (w2 := w10 cy h0 a0 s0) ⟨hx, hb, hml, hown, hts⟩ (c_X10_rowLength l D cy h0 a0 s0 _ fu p1 p2 _ hc_10) (cwV 2 hts (gi_V ml_RX10_122 im_X10_rowLength se_X10_rowLength in_RX10 cd_X10_rowLength) rfl rfl rfl hdX10_rowLength ⟨Nat.le_of_ble_eq_true rfl, Nat.le_of_ble_eq_true rfl⟩) (va_recv hK hP (ci := 9) (q0 := 0) rfl rfl) rfl hl.1 rfl (Nat.le_of_ble_eq_true rfl) dX10_paid_10 hK hP hD hS hA [0, 1, 2, 3, 4, 5, 6, 7, 8, 9, 10, 11, 12, 13, 14, 15, 16, 17, 18, 19, 20, 21, 22, 23, 24, 25, 26, 27, 28, 29] [] [0, 1, 2, 3, 4, 5, 6, 7, 8, 9, 10, 11, 12, 13, 14, 15, 16, 17, 18, 19, 20, 21, 22, 23, 24, 25, 26, 27, 28, 29] rfl rfl rfl rfl (by decide) rfl rfl (fun H locs hP hD hS => ?_)
    refine lv_isub hx hb dX10_paid_13 ?_
    refine lv_istore (lv' := [(4, .int (p3 - q_10)), (0, .ref h0), (1, .int p1), (2, .int p2), (3, .int p3)]) hx hb dX10_paid_14 hl (by decide) rfl (fun ls hl => ?_)
    refine lv_iload hx hb dX10_paid_16 (lv_at hl 0 rfl) ?_
    refine lv_iload hx hb dX10_paid_18 (lv_at hl 0 rfl) ?_
    refine lv_imul hx hb dX10_paid_20 ?_
    rw [← Option.some.inj hf]
    exact g_iret hx hb hr hlk hK hP hD hS dX10_paid_21
  · have hf := op_pos c_1 hf
    refine lv_iconst (v := 0) hx hb dX10_paid_4 (by decide) ?_
    rw [← Option.some.inj hf]
    exact g_iret hx hb hr hlk hK hP hD hS dX10_paid_5
def f_X10_best_L128 (k_26 : Int32 → Int32 → Int32 → Int32 → Int32 → Int32 → Option (Int32)) (k_62 : Int32 → Int32 → Int32 → Int32 → Int32 → Int32 → Int32 → Int32 → Option (Int32)) (fu : Nat) (s0 : St) (x1 : Int32) (x2 : Int32) (x3 : Int32) (x4 : Int32) (x5 : Int32) (x6 : Int32) (x7 : Int32) (x8 : Int32) (t0 : Int32) : Option (Int32) := if x4 ≤ t0 then (k_62 x1 x2 x3 x4 x5 x6 x7 (x8 + 1)) else (k_62 x1 x2 x3 t0 x5 x6 x7 (x8 + 1))
set_option maxHeartbeats 4000000 in
set_option maxRecDepth 100000 in
theorem b_X10_best_L128 {p : Program} {e : Env} {s : State} {m : MethodId} {args : Array Value} {below : List Frame} {meth : Method} {c : Code} {A : Nat → Prop} (l : Launch) (D : va_G) (cy : Nat → ClassId) (h0 : Nat) (a0 : Nat → Nat) (s0 : St) (fu : Nat) (out : Int32) (C : gC p s m args meth c (WS yX10_best cX10_best 10 (some .int)) cX10_best 10 (some .int) RX10) (hA : ∀ q : Nat, s.heap.size ≤ q → A q) (hK : va_K D vwCl (TY cy) s) (k_26 : Int32 → Int32 → Int32 → Int32 → Int32 → Int32 → Option (Int32)) (hk_26 : ∀ (x1 : Int32) (x2 : Int32) (x3 : Int32) (x4 : Int32) (x5 : Int32) (x6 : Int32), k_26 x1 x2 x3 x4 x5 x6 = some out → ∀ (H : Heap) (locs : List Loc) (ls : Array Slot), va_P D vwCl (w10 cy h0 a0 s0) H → va_D A (w10 cy h0 a0 s0) → va_S A s.heap H locs → lv_has ls 10 [(0, .ref h0), (1, .int x1), (2, .int x2), (3, .int x3), (4, .int x4), (5, .int x5), (6, .int x6)] → W p l e ({ frames := 2, cells := 0, slots := 0, locals := 46 } : Room) s m args below meth c H locs 0 0 (MQ below (gQi D cy A out (w10 cy h0 a0 s0)) args s 0 0 A) (F0 m 26 ls [])) (k_62 : Int32 → Int32 → Int32 → Int32 → Int32 → Int32 → Int32 → Int32 → Option (Int32)) (hk_62 : ∀ (x1 : Int32) (x2 : Int32) (x3 : Int32) (x4 : Int32) (x5 : Int32) (x6 : Int32) (x7 : Int32) (x8 : Int32), k_62 x1 x2 x3 x4 x5 x6 x7 x8 = some out → ∀ (H : Heap) (locs : List Loc) (ls : Array Slot), va_P D vwCl (w10 cy h0 a0 s0) H → va_D A (w10 cy h0 a0 s0) → va_S A s.heap H locs → lv_has ls 10 [(0, .ref h0), (1, .int x1), (2, .int x2), (3, .int x3), (4, .int x4), (5, .int x5), (6, .int x6), (7, .int x7), (8, .int x8)] → W p l e ({ frames := 2, cells := 0, slots := 0, locals := 46 } : Room) s m args below meth c H locs 0 0 (MQ below (gQi D cy A out (w10 cy h0 a0 s0)) args s 0 0 A) (F0 m 62 ls [])) :
    ∀ (x1 : Int32) (x2 : Int32) (x3 : Int32) (x4 : Int32) (x5 : Int32) (x6 : Int32) (x7 : Int32) (x8 : Int32) (t0 : Int32), f_X10_best_L128 k_26 k_62 fu s0 x1 x2 x3 x4 x5 x6 x7 x8 t0 = some out → ∀ (H : Heap) (locs : List Loc) (ls : Array Slot), va_P D vwCl (w10 cy h0 a0 s0) H → va_D A (w10 cy h0 a0 s0) → va_S A s.heap H locs → lv_has ls 10 [(0, .ref h0), (1, .int x1), (2, .int x2), (3, .int x3), (4, .int x4), (5, .int x5), (6, .int x6), (7, .int x7), (8, .int x8)] → W p l e ({ frames := 2, cells := 0, slots := 0, locals := 46 } : Room) s m args below meth c H locs 0 0 (MQ below (gQi D cy A out (w10 cy h0 a0 s0)) args s 0 0 A) (F0 m 128 ls [.int t0]) := by
  obtain ⟨hx, hb, hr, hml, hown, hts, hlk⟩ := id C
  have hown : s.vm.findClass RX10 = some m.cls := hown
  intro x1 x2 x3 x4 x5 x6 x7 x8 t0 hf H locs ls hP hD hS hl
  unfold f_X10_best_L128 at hf
  refine lv_istore (lv' := [(9, .int t0), (0, .ref h0), (1, .int x1), (2, .int x2), (3, .int x3), (4, .int x4), (5, .int x5), (6, .int x6), (7, .int x7), (8, .int x8)]) hx hb dX10_best_128 hl (by decide) rfl (fun ls hl => ?_)
  refine lv_iload hx hb dX10_best_130 (lv_at hl 0 rfl) ?_
  refine lv_iload hx hb dX10_best_132 (lv_at hl 5 rfl) ?_
  refine lv_icmp_ge (tgt := 142) hx hb dX10_best_134 (by decide) (fun c_134 => ?_) (fun c_134 => ?_)
  · have hf := op_pos c_134 hf
    refine lv_iload hx hb dX10_best_142 (lv_at hl 5 rfl) ?_
    refine lv_istore (lv' := [(4, .int x4), (9, .int t0), (0, .ref h0), (1, .int x1), (2, .int x2), (3, .int x3), (5, .int x5), (6, .int x6), (7, .int x7), (8, .int x8)]) hx hb dX10_best_144 hl (by decide) rfl (fun ls hl => ?_)
    refine lv_iinc (v := x8 + 1) (lv' := [(8, .int (x8 + 1)), (4, .int x4), (9, .int t0), (0, .ref h0), (1, .int x1), (2, .int x2), (3, .int x3), (5, .int x5), (6, .int x6), (7, .int x7)]) hx hb dX10_best_146 hl (k := 9) rfl rfl (by decide) rfl (fun ls hl => ?_)
    refine lv_goto (tgt := 62) hx hb dX10_best_149 (by decide) ?_
    exact hk_62 x1 x2 x3 x4 x5 x6 x7 (x8 + 1) hf _ _ ls hP hD hS (lv_sub hl [3, 4, 5, 6, 1, 7, 8, 9, 0] rfl)
  · have hf := op_neg c_134 hf
    refine lv_iload hx hb dX10_best_137 (lv_at hl 0 rfl) ?_
    refine lv_goto (tgt := 144) hx hb dX10_best_139 (by decide) ?_
    refine lv_istore (lv' := [(4, .int t0), (9, .int t0), (0, .ref h0), (1, .int x1), (2, .int x2), (3, .int x3), (5, .int x5), (6, .int x6), (7, .int x7), (8, .int x8)]) hx hb dX10_best_144 hl (by decide) rfl (fun ls hl => ?_)
    refine lv_iinc (v := x8 + 1) (lv' := [(8, .int (x8 + 1)), (4, .int t0), (9, .int t0), (0, .ref h0), (1, .int x1), (2, .int x2), (3, .int x3), (5, .int x5), (6, .int x6), (7, .int x7)]) hx hb dX10_best_146 hl (k := 9) rfl rfl (by decide) rfl (fun ls hl => ?_)
    refine lv_goto (tgt := 62) hx hb dX10_best_149 (by decide) ?_
    exact hk_62 x1 x2 x3 t0 x5 x6 x7 (x8 + 1) hf _ _ ls hP hD hS (lv_sub hl [3, 4, 5, 6, 1, 7, 8, 9, 0] rfl)
def f_X10_best_L62 (k_26 : Int32 → Int32 → Int32 → Int32 → Int32 → Int32 → Option (Int32)) (fu : Nat) (s0 : St) : Nat → Int32 → Int32 → Int32 → Int32 → Int32 → Int32 → Int32 → Int32 → Option (Int32)
  | 0, _, _, _, _, _, _, _, _ => none
  | n_62 + 1, x1, x2, x3, x4, x5, x6, x7, x8 => if x7 < x8 then (k_26 x1 x2 x3 x4 x5 (x6 + 1)) else (if inb (((((254 * x1) - 254) + x2) + x6) + x8) 1778 = true then (if (s0.2 30 (((((254 * x1) - 254) + x2) + x6) + x8).toNatClampNeg) < 1000000 then ((f_X10_paid fu s0 x2 x6 x3).bind (fun q_112 => (f_X10_paid fu s0 (x2 + x6) x8 x3).bind (fun q_124 => f_X10_best_L128 k_26 (f_X10_best_L62 k_26 fu s0 n_62) fu s0 x1 x2 x3 x4 x5 x6 x7 x8 (((s0.2 30 (((((254 * x1) - 254) + x2) + x6) + x8).toNatClampNeg) + q_112) + q_124)))) else (f_X10_best_L128 k_26 (f_X10_best_L62 k_26 fu s0 n_62) fu s0 x1 x2 x3 x4 x5 x6 x7 x8 1000000)) else none)
set_option maxHeartbeats 4000000 in
set_option maxRecDepth 100000 in
theorem b_X10_best_L62 {p : Program} {e : Env} {s : State} {m : MethodId} {args : Array Value} {below : List Frame} {meth : Method} {c : Code} {A : Nat → Prop} (l : Launch) (D : va_G) (cy : Nat → ClassId) (h0 : Nat) (a0 : Nat → Nat) (s0 : St) (fu : Nat) (out : Int32) (C : gC p s m args meth c (WS yX10_best cX10_best 10 (some .int)) cX10_best 10 (some .int) RX10) (hA : ∀ q : Nat, s.heap.size ≤ q → A q) (hK : va_K D vwCl (TY cy) s) (k_26 : Int32 → Int32 → Int32 → Int32 → Int32 → Int32 → Option (Int32)) (hk_26 : ∀ (x1 : Int32) (x2 : Int32) (x3 : Int32) (x4 : Int32) (x5 : Int32) (x6 : Int32), k_26 x1 x2 x3 x4 x5 x6 = some out → ∀ (H : Heap) (locs : List Loc) (ls : Array Slot), va_P D vwCl (w10 cy h0 a0 s0) H → va_D A (w10 cy h0 a0 s0) → va_S A s.heap H locs → lv_has ls 10 [(0, .ref h0), (1, .int x1), (2, .int x2), (3, .int x3), (4, .int x4), (5, .int x5), (6, .int x6)] → W p l e ({ frames := 2, cells := 0, slots := 0, locals := 46 } : Room) s m args below meth c H locs 0 0 (MQ below (gQi D cy A out (w10 cy h0 a0 s0)) args s 0 0 A) (F0 m 26 ls [])) :
    ∀ (n_62 : Nat), ∀ (x1 : Int32) (x2 : Int32) (x3 : Int32) (x4 : Int32) (x5 : Int32) (x6 : Int32) (x7 : Int32) (x8 : Int32), f_X10_best_L62 k_26 fu s0 n_62 x1 x2 x3 x4 x5 x6 x7 x8 = some out → ∀ (H : Heap) (locs : List Loc) (ls : Array Slot), va_P D vwCl (w10 cy h0 a0 s0) H → va_D A (w10 cy h0 a0 s0) → va_S A s.heap H locs → lv_has ls 10 [(0, .ref h0), (1, .int x1), (2, .int x2), (3, .int x3), (4, .int x4), (5, .int x5), (6, .int x6), (7, .int x7), (8, .int x8)] → W p l e ({ frames := 2, cells := 0, slots := 0, locals := 46 } : Room) s m args below meth c H locs 0 0 (MQ below (gQi D cy A out (w10 cy h0 a0 s0)) args s 0 0 A) (F0 m 62 ls []) := by
  obtain ⟨hx, hb, hr, hml, hown, hts, hlk⟩ := id C
  have hown : s.vm.findClass RX10 = some m.cls := hown
  have hk_77 := hts _ (List.mem_cons_of_mem _ fl_RX10_77)
  have hcn_136 := hts _ (List.mem_cons_of_mem _ cn_RX10_136)
  intro n_62
  induction n_62 with
  | zero => intro x1 x2 x3 x4 x5 x6 x7 x8 hf; exact op_no hf
  | succ n_62 ih_62 =>
    intro x1 x2 x3 x4 x5 x6 x7 x8 hf H locs ls hP hD hS hl
    rw [f_X10_best_L62] at hf
    refine lv_iload hx hb dX10_best_62 (lv_at hl 8 rfl) ?_
    refine lv_iload hx hb dX10_best_64 (lv_at hl 7 rfl) ?_
    refine lv_icmp_gt (tgt := 152) hx hb dX10_best_66 (by decide) (fun c_66 => ?_) (fun c_66 => ?_)
    · have hf := op_pos c_66 hf
      refine lv_iinc (v := x6 + 1) (lv' := [(6, .int (x6 + 1)), (0, .ref h0), (1, .int x1), (2, .int x2), (3, .int x3), (4, .int x4), (5, .int x5), (7, .int x7), (8, .int x8)]) hx hb dX10_best_152 hl (k := 6) rfl rfl (by decide) rfl (fun ls hl => ?_)
      refine lv_goto (tgt := 26) hx hb dX10_best_155 (by decide) ?_
      exact hk_26 x1 x2 x3 x4 x5 (x6 + 1) hf _ _ ls hP hD hS (lv_sub hl [1, 2, 3, 4, 5, 6, 0] rfl)
    · have hf := op_neg c_66 hf
      refine lv_aload_n hx hb dX10_best_69 rfl (lv_at hl 0 rfl) ?_
      refine va_get (ci := 9) (v := .ref (a0 30)) (C := RX10) (T := TX10) (N := 56) hx hb hts (fun w h => List.mem_cons_of_mem _ (inX10 w h)) hown hK hP 0 rfl rfl 30 (by decide) hk_77 (fun _ h9 => h9) rfl dX10_best_70 ?_
      refine lv_sipush (v := 254) hx hb dX10_best_73 (by decide) ?_
      refine lv_iload_n hx hb dX10_best_76 rfl (lv_at hl 1 rfl) ?_
      refine lv_imul hx hb dX10_best_77 ?_
      refine lv_sipush (v := 254) hx hb dX10_best_78 (by decide) ?_
      refine lv_isub hx hb dX10_best_81 ?_
      refine lv_iload_n hx hb dX10_best_82 rfl (lv_at hl 2 rfl) ?_
      refine lv_iadd hx hb dX10_best_83 ?_
      refine lv_iload hx hb dX10_best_84 (lv_at hl 6 rfl) ?_
      refine lv_iadd hx hb dX10_best_86 ?_
      refine lv_iload hx hb dX10_best_87 (lv_at hl 8 rfl) ?_
      refine lv_iadd hx hb dX10_best_89 ?_
      obtain ⟨hg_90, hf⟩ := op_if hf
      refine va_iald (f := s0.2 30) hx hb hK hP 19 0 rfl rfl (inb_in hg_90) dX10_best_90 ?_
      refine lv_istore (lv' := [(9, .int (s0.2 30 (((((254 * x1) - 254) + x2) + x6) + x8).toNatClampNeg)), (0, .ref h0), (1, .int x1), (2, .int x2), (3, .int x3), (4, .int x4), (5, .int x5), (6, .int x6), (7, .int x7), (8, .int x8)]) hx hb dX10_best_91 hl (by decide) rfl (fun ls hl => ?_)
      refine lv_iload hx hb dX10_best_93 (lv_at hl 0 rfl) ?_
      refine lv_ldc (v := 1000000) hx hb hown hcn_136 dX10_best_95 ?_
      refine lv_icmp_lt (tgt := 105) hx hb dX10_best_97 (by decide) (fun c_97 => ?_) (fun c_97 => ?_)
      · have hf := op_pos c_97 hf
        refine lv_iload hx hb dX10_best_105 (lv_at hl 0 rfl) ?_
        refine lv_aload_n hx hb dX10_best_107 rfl (lv_at hl 1 rfl) ?_
        refine lv_iload_n hx hb dX10_best_108 rfl (lv_at hl 3 rfl) ?_
        refine lv_iload hx hb dX10_best_109 (lv_at hl 7 rfl) ?_
        refine lv_iload_n hx hb dX10_best_111 rfl (lv_at hl 4 rfl) ?_
        obtain ⟨q_112, hc_112, hf⟩ := op_bind hf
        refine g_callVi (As := [.int x2, .int x6, .int x3]) (rest := [.int (s0.2 30 (((((254 * x1) - 254) + x2) + x6) + x8).toNatClampNeg)]) (w2 := w10 cy h0 a0 s0) ⟨hx, hb, hml, hown, hts⟩ (c_X10_paid l D cy h0 a0 s0 _ fu x2 x6 x3 _ hc_112) (cwV 3 hts (gi_V ml_RX10_144 im_X10_paid se_X10_paid in_RX10 cd_X10_paid) rfl rfl rfl hdX10_paid ⟨Nat.le_of_ble_eq_true rfl, Nat.le_of_ble_eq_true rfl⟩) (va_recv hK hP (ci := 9) (q0 := 0) rfl rfl) rfl hl.1 rfl (Nat.le_of_ble_eq_true rfl) dX10_best_112 hK hP hD hS hA [0, 1, 2, 3, 4, 5, 6, 7, 8, 9, 10, 11, 12, 13, 14, 15, 16, 17, 18, 19, 20, 21, 22, 23, 24, 25, 26, 27, 28, 29] [] [0, 1, 2, 3, 4, 5, 6, 7, 8, 9, 10, 11, 12, 13, 14, 15, 16, 17, 18, 19, 20, 21, 22, 23, 24, 25, 26, 27, 28, 29] rfl rfl rfl rfl (by decide) rfl rfl (fun H locs hP hD hS => ?_)
        refine lv_iadd hx hb dX10_best_115 ?_
        refine lv_aload_n hx hb dX10_best_116 rfl (lv_at hl 1 rfl) ?_
        refine lv_iload_n hx hb dX10_best_117 rfl (lv_at hl 3 rfl) ?_
        refine lv_iload hx hb dX10_best_118 (lv_at hl 7 rfl) ?_
        refine lv_iadd hx hb dX10_best_120 ?_
        refine lv_iload hx hb dX10_best_121 (lv_at hl 9 rfl) ?_
        refine lv_iload_n hx hb dX10_best_123 rfl (lv_at hl 4 rfl) ?_
        obtain ⟨q_124, hc_124, hf⟩ := op_bind hf
        refine g_callVi (As := [.int (x2 + x6), .int x8, .int x3]) (rest := [.int ((s0.2 30 (((((254 * x1) - 254) + x2) + x6) + x8).toNatClampNeg) + q_112)]) (w2 := w10 cy h0 a0 s0) ⟨hx, hb, hml, hown, hts⟩ (c_X10_paid l D cy h0 a0 s0 _ fu (x2 + x6) x8 x3 _ hc_124) (cwV 3 hts (gi_V ml_RX10_144 im_X10_paid se_X10_paid in_RX10 cd_X10_paid) rfl rfl rfl hdX10_paid ⟨Nat.le_of_ble_eq_true rfl, Nat.le_of_ble_eq_true rfl⟩) (va_recv hK hP (ci := 9) (q0 := 0) rfl rfl) rfl hl.1 rfl (Nat.le_of_ble_eq_true rfl) dX10_best_124 hK hP hD hS hA [0, 1, 2, 3, 4, 5, 6, 7, 8, 9, 10, 11, 12, 13, 14, 15, 16, 17, 18, 19, 20, 21, 22, 23, 24, 25, 26, 27, 28, 29] [] [0, 1, 2, 3, 4, 5, 6, 7, 8, 9, 10, 11, 12, 13, 14, 15, 16, 17, 18, 19, 20, 21, 22, 23, 24, 25, 26, 27, 28, 29] rfl rfl rfl rfl (by decide) rfl rfl (fun H locs hP hD hS => ?_)
        refine lv_iadd hx hb dX10_best_127 ?_
        exact b_X10_best_L128 l D cy h0 a0 s0 fu out C hA hK k_26 hk_26 (f_X10_best_L62 k_26 fu s0 n_62) ih_62 x1 x2 x3 x4 x5 x6 x7 x8 (((s0.2 30 (((((254 * x1) - 254) + x2) + x6) + x8).toNatClampNeg) + q_112) + q_124) hf _ _ ls hP hD hS (lv_sub hl [1, 2, 3, 4, 5, 6, 7, 8, 9] rfl)
      · have hf := op_neg c_97 hf
        refine lv_ldc (v := 1000000) hx hb hown hcn_136 dX10_best_100 ?_
        refine lv_goto (tgt := 128) hx hb dX10_best_102 (by decide) ?_
        exact b_X10_best_L128 l D cy h0 a0 s0 fu out C hA hK k_26 hk_26 (f_X10_best_L62 k_26 fu s0 n_62) ih_62 x1 x2 x3 x4 x5 x6 x7 x8 1000000 hf _ _ ls hP hD hS (lv_sub hl [1, 2, 3, 4, 5, 6, 7, 8, 9] rfl)
def f_X10_best_L26  (fu : Nat) (s0 : St) : Nat → Int32 → Int32 → Int32 → Int32 → Int32 → Int32 → Option (Int32)
  | 0, _, _, _, _, _, _ => none
  | n_26 + 1, x1, x2, x3, x4, x5, x6 => if x5 < x6 then (some x4) else (if (s0.1 29) ≤ (x2 + x6) then (f_X10_best_L62 (f_X10_best_L26 fu s0 n_26) fu s0 fu x1 x2 x3 x4 x5 x6 0 0) else ((f_X10_fits fu s0 (x2 + x6) x3).bind (fun q_50 => f_X10_best_L62 (f_X10_best_L26 fu s0 n_26) fu s0 fu x1 x2 x3 x4 x5 x6 q_50 0)))
set_option maxHeartbeats 4000000 in
set_option maxRecDepth 100000 in
theorem b_X10_best_L26 {p : Program} {e : Env} {s : State} {m : MethodId} {args : Array Value} {below : List Frame} {meth : Method} {c : Code} {A : Nat → Prop} (l : Launch) (D : va_G) (cy : Nat → ClassId) (h0 : Nat) (a0 : Nat → Nat) (s0 : St) (fu : Nat) (out : Int32) (C : gC p s m args meth c (WS yX10_best cX10_best 10 (some .int)) cX10_best 10 (some .int) RX10) (hA : ∀ q : Nat, s.heap.size ≤ q → A q) (hK : va_K D vwCl (TY cy) s)  :
    ∀ (n_26 : Nat), ∀ (x1 : Int32) (x2 : Int32) (x3 : Int32) (x4 : Int32) (x5 : Int32) (x6 : Int32), f_X10_best_L26 fu s0 n_26 x1 x2 x3 x4 x5 x6 = some out → ∀ (H : Heap) (locs : List Loc) (ls : Array Slot), va_P D vwCl (w10 cy h0 a0 s0) H → va_D A (w10 cy h0 a0 s0) → va_S A s.heap H locs → lv_has ls 10 [(0, .ref h0), (1, .int x1), (2, .int x2), (3, .int x3), (4, .int x4), (5, .int x5), (6, .int x6)] → W p l e ({ frames := 2, cells := 0, slots := 0, locals := 46 } : Room) s m args below meth c H locs 0 0 (MQ below (gQi D cy A out (w10 cy h0 a0 s0)) args s 0 0 A) (F0 m 26 ls []) := by
  obtain ⟨hx, hb, hr, hml, hown, hts, hlk⟩ := id C
  have hown : s.vm.findClass RX10 = some m.cls := hown
  have hk_119 := hts _ (List.mem_cons_of_mem _ fl_RX10_119)
  intro n_26
  induction n_26 with
  | zero => intro x1 x2 x3 x4 x5 x6 hf; exact op_no hf
  | succ n_26 ih_26 =>
    intro x1 x2 x3 x4 x5 x6 hf H locs ls hP hD hS hl
    rw [f_X10_best_L26] at hf
    refine lv_iload hx hb dX10_best_26 (lv_at hl 6 rfl) ?_
    refine lv_iload hx hb dX10_best_28 (lv_at hl 5 rfl) ?_
    refine lv_icmp_gt (tgt := 158) hx hb dX10_best_30 (by decide) (fun c_30 => ?_) (fun c_30 => ?_)
    · have hf := op_pos c_30 hf
      refine lv_iload hx hb dX10_best_158 (lv_at hl 4 rfl) ?_
      rw [← Option.some.inj hf]
      exact g_iret hx hb hr hlk hK hP hD hS dX10_best_160
    · have hf := op_neg c_30 hf
      refine lv_iload_n hx hb dX10_best_33 rfl (lv_at hl 2 rfl) ?_
      refine lv_iload hx hb dX10_best_34 (lv_at hl 6 rfl) ?_
      refine lv_iadd hx hb dX10_best_36 ?_
      refine lv_aload_n hx hb dX10_best_37 rfl (lv_at hl 0 rfl) ?_
      refine va_get (ci := 9) (v := .int (s0.1 29)) (C := RX10) (T := TX10) (N := 56) hx hb hts (fun w h => List.mem_cons_of_mem _ (inX10 w h)) hown hK hP 0 rfl rfl 29 (by decide) hk_119 (fun _ h9 => h9) rfl dX10_best_38 ?_
      refine lv_icmp_ge (tgt := 56) hx hb dX10_best_41 (by decide) (fun c_41 => ?_) (fun c_41 => ?_)
      · have hf := op_pos c_41 hf
        refine lv_iconst (v := 0) hx hb dX10_best_56 (by decide) ?_
        refine lv_istore (lv' := [(7, .int 0), (0, .ref h0), (1, .int x1), (2, .int x2), (3, .int x3), (4, .int x4), (5, .int x5), (6, .int x6)]) hx hb dX10_best_57 hl (by decide) rfl (fun ls hl => ?_)
        refine lv_iconst (v := 0) hx hb dX10_best_59 (by decide) ?_
        refine lv_istore (lv' := [(8, .int 0), (7, .int 0), (0, .ref h0), (1, .int x1), (2, .int x2), (3, .int x3), (4, .int x4), (5, .int x5), (6, .int x6)]) hx hb dX10_best_60 hl (by decide) rfl (fun ls hl => ?_)
        exact b_X10_best_L62 l D cy h0 a0 s0 fu out C hA hK (f_X10_best_L26 fu s0 n_26) ih_26 fu x1 x2 x3 x4 x5 x6 0 0 hf _ _ ls hP hD hS (lv_sub hl [2, 3, 4, 5, 6, 7, 8, 1, 0] rfl)
      · have hf := op_neg c_41 hf
        refine lv_aload_n hx hb dX10_best_44 rfl (lv_at hl 0 rfl) ?_
        refine lv_iload_n hx hb dX10_best_45 rfl (lv_at hl 2 rfl) ?_
        refine lv_iload hx hb dX10_best_46 (lv_at hl 6 rfl) ?_
        refine lv_iadd hx hb dX10_best_48 ?_
        refine lv_iload_n hx hb dX10_best_49 rfl (lv_at hl 3 rfl) ?_
        obtain ⟨q_50, hc_50, hf⟩ := op_bind hf
        refine g_callVi (As := [.int (x2 + x6), .int x3]) (rest := []) (w2 := w10 cy h0 a0 s0) ⟨hx, hb, hml, hown, hts⟩ (c_X10_fits l D cy h0 a0 s0 _ fu (x2 + x6) x3 _ hc_50) (cwV 2 hts (gi_V ml_RX10_130 im_X10_fits se_X10_fits in_RX10 cd_X10_fits) rfl rfl rfl hdX10_fits ⟨Nat.le_of_ble_eq_true rfl, Nat.le_of_ble_eq_true rfl⟩) (va_recv hK hP (ci := 9) (q0 := 0) rfl rfl) rfl hl.1 rfl (Nat.le_of_ble_eq_true rfl) dX10_best_50 hK hP hD hS hA [0, 1, 2, 3, 4, 5, 6, 7, 8, 9, 10, 11, 12, 13, 14, 15, 16, 17, 18, 19, 20, 21, 22, 23, 24, 25, 26, 27, 28, 29] [] [0, 1, 2, 3, 4, 5, 6, 7, 8, 9, 10, 11, 12, 13, 14, 15, 16, 17, 18, 19, 20, 21, 22, 23, 24, 25, 26, 27, 28, 29] rfl rfl rfl rfl (by decide) rfl rfl (fun H locs hP hD hS => ?_)
        refine lv_goto (tgt := 57) hx hb dX10_best_53 (by decide) ?_
        refine lv_istore (lv' := [(7, .int q_50), (0, .ref h0), (1, .int x1), (2, .int x2), (3, .int x3), (4, .int x4), (5, .int x5), (6, .int x6)]) hx hb dX10_best_57 hl (by decide) rfl (fun ls hl => ?_)
        refine lv_iconst (v := 0) hx hb dX10_best_59 (by decide) ?_
        refine lv_istore (lv' := [(8, .int 0), (7, .int q_50), (0, .ref h0), (1, .int x1), (2, .int x2), (3, .int x3), (4, .int x4), (5, .int x5), (6, .int x6)]) hx hb dX10_best_60 hl (by decide) rfl (fun ls hl => ?_)
        exact b_X10_best_L62 l D cy h0 a0 s0 fu out C hA hK (f_X10_best_L26 fu s0 n_26) ih_26 fu x1 x2 x3 x4 x5 x6 q_50 0 hf _ _ ls hP hD hS (lv_sub hl [2, 3, 4, 5, 6, 7, 8, 1, 0] rfl)
def f_X10_best (fu : Nat) (s0 : St)  (p1 : Int32) (p2 : Int32) (p3 : Int32) : Option (Int32) := if p2 = (s0.1 29) then (some 1000000) else ((f_X10_fits fu s0 p2 p3).bind (fun q_18 => f_X10_best_L26 fu s0 fu p1 p2 p3 1000000 q_18 1))
theorem hdX10_best : yX10_best.cls = RX10 ∧ yX10_best.cls ≠ "java/lang/invoke/MethodHandle" ∧ yX10_best.cls ≠ "java/lang/invoke/VarHandle" ∧ (parseMethodDescriptor yX10_best.desc).map (fun d => d.parameters.length) = some 3 := by decide +kernel
set_option maxHeartbeats 4000000 in
set_option maxRecDepth 100000 in
theorem c_X10_best (l : Launch) (D : va_G) (cy : Nat → ClassId) (h0 : Nat) (a0 : Nat → Nat) (s0 : St) (sz fu : Nat) (p1 : Int32) (p2 : Int32) (p3 : Int32) (out : Int32) (hf : f_X10_best fu s0 p1 p2 p3 = some out) :
    Met l yX10_best (WS yX10_best cX10_best 10 (some .int)) ({ frames := 2, cells := 0, slots := 0, locals := 46 } : Room) (va_Pc [.ref h0, .int p1, .int p2, .int p3] (gP D cy sz (w10 cy h0 a0 s0))) ((fun A : Nat → Prop => gQi D cy A out (w10 cy h0 a0 s0)) (va_A (w10 cy h0 a0 s0) sz)) 0 0 (va_A (w10 cy h0 a0 s0) sz) := by
  refine g_met (cc := cX10_best) (maxL := 10) (ret := (some .int)) (fun A : Nat → Prop => gQi D cy A out (w10 cy h0 a0 s0)) (by decide +kernel) rfl (Nat.le_of_ble_eq_true rfl) ?_
  intro p e s m below meth c A C hA hK hP hD ls hl
  obtain ⟨hx, hb, hr, hml, hown, hts, hlk⟩ := id C
  have hown : s.vm.findClass RX10 = some m.cls := hown
  have hS : va_S A s.heap s.heap [] := va_S.rf
  have hl : lv_has ls 10 [(0, .ref h0), (1, .int p1), (2, .int p2), (3, .int p3)] := hl
  have hcn_136 := hts _ (List.mem_cons_of_mem _ cn_RX10_136)
  have hk_119 := hts _ (List.mem_cons_of_mem _ fl_RX10_119)
  unfold f_X10_best at hf
  refine lv_ldc (v := 1000000) hx hb hown hcn_136 dX10_best_0 ?_
  refine lv_istore (lv' := [(4, .int 1000000), (0, .ref h0), (1, .int p1), (2, .int p2), (3, .int p3)]) hx hb dX10_best_2 hl (by decide) rfl (fun ls hl => ?_)
  refine lv_iload_n hx hb dX10_best_4 rfl (lv_at hl 3 rfl) ?_
  refine lv_aload_n hx hb dX10_best_5 rfl (lv_at hl 1 rfl) ?_
  refine va_get (ci := 9) (v := .int (s0.1 29)) (C := RX10) (T := TX10) (N := 56) hx hb hts (fun w h => List.mem_cons_of_mem _ (inX10 w h)) hown hK hP 0 rfl rfl 29 (by decide) hk_119 (fun _ h9 => h9) rfl dX10_best_6 ?_
  refine lv_icmp_ne (tgt := 15) hx hb dX10_best_9 (by decide) (fun c_9 => ?_) (fun c_9 => ?_)
  · have hf := op_neg c_9 hf
    refine lv_aload_n hx hb dX10_best_15 rfl (lv_at hl 1 rfl) ?_
    refine lv_iload_n hx hb dX10_best_16 rfl (lv_at hl 3 rfl) ?_
    refine lv_iload_n hx hb dX10_best_17 rfl (lv_at hl 4 rfl) ?_
    obtain ⟨q_18, hc_18, hf⟩ := op_bind hf
    refine g_callVi (As := [.int p2, .int p3]) (rest := []) (w2 := w10 cy h0 a0 s0) ⟨hx, hb, hml, hown, hts⟩ (c_X10_fits l D cy h0 a0 s0 _ fu p2 p3 _ hc_18) (cwV 2 hts (gi_V ml_RX10_130 im_X10_fits se_X10_fits in_RX10 cd_X10_fits) rfl rfl rfl hdX10_fits ⟨Nat.le_of_ble_eq_true rfl, Nat.le_of_ble_eq_true rfl⟩) (va_recv hK hP (ci := 9) (q0 := 0) rfl rfl) rfl hl.1 rfl (Nat.le_of_ble_eq_true rfl) dX10_best_18 hK hP hD hS hA [0, 1, 2, 3, 4, 5, 6, 7, 8, 9, 10, 11, 12, 13, 14, 15, 16, 17, 18, 19, 20, 21, 22, 23, 24, 25, 26, 27, 28, 29] [] [0, 1, 2, 3, 4, 5, 6, 7, 8, 9, 10, 11, 12, 13, 14, 15, 16, 17, 18, 19, 20, 21, 22, 23, 24, 25, 26, 27, 28, 29] rfl rfl rfl rfl (by decide) rfl rfl (fun H locs hP hD hS => ?_)
    refine lv_istore (lv' := [(5, .int q_18), (4, .int 1000000), (0, .ref h0), (1, .int p1), (2, .int p2), (3, .int p3)]) hx hb dX10_best_21 hl (by decide) rfl (fun ls hl => ?_)
    refine lv_iconst (v := 1) hx hb dX10_best_23 (by decide) ?_
    refine lv_istore (lv' := [(6, .int 1), (5, .int q_18), (4, .int 1000000), (0, .ref h0), (1, .int p1), (2, .int p2), (3, .int p3)]) hx hb dX10_best_24 hl (by decide) rfl (fun ls hl => ?_)
    exact b_X10_best_L26 l D cy h0 a0 s0 fu out C hA hK fu p1 p2 p3 1000000 q_18 1 hf _ _ ls hP hD hS (lv_sub hl [3, 4, 5, 6, 2, 1, 0] rfl)
  · have hf := op_pos c_9 hf
    refine lv_iload hx hb dX10_best_12 (lv_at hl 0 rfl) ?_
    rw [← Option.some.inj hf]
    exact g_iret hx hb hr hlk hK hP hD hS dX10_best_14
