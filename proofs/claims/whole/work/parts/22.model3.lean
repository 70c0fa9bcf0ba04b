def f_X10_wrong (fu : Nat)  (s0 : St) (p1 : Int32) (p2 : Int32) : Option (Int32 × St) := some (0, sF (sF s0 39 p1) 40 p2)
theorem hdX10_wrong : yX10_wrong.cls = RX10 ∧ yX10_wrong.cls ≠ "java/lang/invoke/MethodHandle" ∧ yX10_wrong.cls ≠ "java/lang/invoke/VarHandle" ∧ (parseMethodDescriptor yX10_wrong.desc).map (fun d => d.parameters.length) = some 2 := by decide +kernel
set_option maxHeartbeats 4000000 in
set_option maxRecDepth 100000 in
theorem c_X10_wrong (l : Launch) (D : va_G) (cy : Nat → ClassId) (h0 : Nat) (a0 : Nat → Nat) (s0 : St) (sz fu : Nat) (p1 : Int32) (p2 : Int32) (out : Int32 × St) (hf : f_X10_wrong fu s0 p1 p2 = some out) :
    Met l yX10_wrong (WS yX10_wrong cX10_wrong 3 (some .boolean)) ({ frames := 0, cells := 0, slots := 0, locals := 0 } : Room) (va_Pc [.ref h0, .int p1, .int p2] (gP D cy sz (w10 cy h0 a0 s0))) ((fun A : Nat → Prop => gQi D cy A out.1 (w10 cy h0 a0 out.2)) (va_A (w10 cy h0 a0 s0) sz)) 0 0 (va_A (w10 cy h0 a0 s0) sz) := by
  refine g_met (cc := cX10_wrong) (maxL := 3) (ret := (some .boolean)) (fun A : Nat → Prop => gQi D cy A out.1 (w10 cy h0 a0 out.2)) (by decide +kernel) rfl (Nat.le_of_ble_eq_true rfl) ?_
  intro p e s m below meth c A C hA hK hP hD ls hl
  obtain ⟨hx, hb, hr, hml, hown, hts, hlk⟩ := id C
  have hown : s.vm.findClass RX10 = some m.cls := hown
  have hS : va_S A s.heap s.heap [] := va_S.rf
  have hl : lv_has ls 3 [(0, .ref h0), (1, .int p1), (2, .int p2)] := hl
  have hk_151 := hts _ (List.mem_cons_of_mem _ fl_RX10_151)
  have hk_83 := hts _ (List.mem_cons_of_mem _ fl_RX10_83)
  unfold f_X10_wrong at hf
  refine lv_aload_n hx hb dX10_wrong_0 rfl (lv_at hl 0 rfl) ?_
  refine lv_iload_n hx hb dX10_wrong_1 rfl (lv_at hl 1 rfl) ?_
  refine va_put (ci := 9) (v := .int p1) (ty := tyX10 39) (C := RX10) (T := TX10) (N := 56) hx hb hts (fun w h => List.mem_cons_of_mem _ (inX10 w h)) tyX10 tyX10_ok nmX10 hown hK hP hD hS 0 rfl rfl 39 (by decide) hk_151 (fun _ h9 => h9) rfl (tyX10_ok 39 (by decide)) rfl rfl (Nat.le_of_ble_eq_true rfl) dX10_wrong_2 (fun H locs hP hD hS => ?_)
  have hP : va_P D vwCl (w10 cy h0 a0 (sF s0 39 p1)) H := pP10_39 hP
  have hD : va_D A (w10 cy h0 a0 (sF s0 39 p1)) := pD10_39 hD
  refine lv_aload_n hx hb dX10_wrong_5 rfl (lv_at hl 0 rfl) ?_
  refine lv_iload_n hx hb dX10_wrong_6 rfl (lv_at hl 2 rfl) ?_
  refine va_put (ci := 9) (v := .int p2) (ty := tyX10 40) (C := RX10) (T := TX10) (N := 56) hx hb hts (fun w h => List.mem_cons_of_mem _ (inX10 w h)) tyX10 tyX10_ok nmX10 hown hK hP hD hS 0 rfl rfl 40 (by decide) hk_83 (fun _ h9 => h9) rfl (tyX10_ok 40 (by decide)) rfl rfl (Nat.le_of_ble_eq_true rfl) dX10_wrong_7 (fun H locs hP hD hS => ?_)
  have hP : va_P D vwCl (w10 cy h0 a0 (sF (sF s0 39 p1) 40 p2)) H := pP10_40 hP
  have hD : va_D A (w10 cy h0 a0 (sF (sF s0 39 p1) 40 p2)) := pD10_40 hD
  refine lv_iconst (v := 0) hx hb dX10_wrong_10 (by decide) ?_
  rw [← Option.some.inj hf]
  exact g_zret hx hb hr hlk (show isB 0 = true by decide) hK hP hD hS dX10_wrong_11
def f_X10_wordAt_L104 (k_5 : Int32 → Int32 → Int32 → Int32 → Option (Int32)) (fu : Nat) (s0 : St) (x1 : Int32) (x2 : Int32) (x3 : Int32) (x4 : Int32) (x5 : Int32) (x6 : Int32) : Option (Int32) := if x6 = 0 then (k_5 x1 x2 (x3 + 1) (x4 + (x5 + 1))) else (some x3)
set_option maxHeartbeats 4000000 in
set_option maxRecDepth 100000 in
theorem b_X10_wordAt_L104 {p : Program} {e : Env} {s : State} {m : MethodId} {args : Array Value} {below : List Frame} {meth : Method} {c : Code} {A : Nat → Prop} (l : Launch) (D : va_G) (cy : Nat → ClassId) (h0 : Nat) (a0 : Nat → Nat) (s0 : St) (fu : Nat) (out : Int32) (C : gC p s m args meth c (WS yX10_wordAt cX10_wordAt 8 (some .int)) cX10_wordAt 8 (some .int) RX10) (hA : ∀ q : Nat, s.heap.size ≤ q → A q) (hK : va_K D vwCl (TY cy) s) (k_5 : Int32 → Int32 → Int32 → Int32 → Option (Int32)) (hk_5 : ∀ (x1 : Int32) (x2 : Int32) (x3 : Int32) (x4 : Int32), k_5 x1 x2 x3 x4 = some out → ∀ (H : Heap) (locs : List Loc) (ls : Array Slot), va_P D vwCl (w10 cy h0 a0 s0) H → va_D A (w10 cy h0 a0 s0) → va_S A s.heap H locs → lv_has ls 8 [(0, .ref h0), (1, .int x1), (2, .int x2), (3, .int x3), (4, .int x4)] → W p l e ({ frames := 0, cells := 0, slots := 0, locals := 0 } : Room) s m args below meth c H locs 0 0 (MQ below (gQi D cy A out (w10 cy h0 a0 s0)) args s 0 0 A) (F0 m 5 ls [])) :
    ∀ (x1 : Int32) (x2 : Int32) (x3 : Int32) (x4 : Int32) (x5 : Int32) (x6 : Int32), f_X10_wordAt_L104 k_5 fu s0 x1 x2 x3 x4 x5 x6 = some out → ∀ (H : Heap) (locs : List Loc) (ls : Array Slot), va_P D vwCl (w10 cy h0 a0 s0) H → va_D A (w10 cy h0 a0 s0) → va_S A s.heap H locs → lv_has ls 8 [(0, .ref h0), (1, .int x1), (2, .int x2), (3, .int x3), (4, .int x4), (5, .int x5), (6, .int x6)] → W p l e ({ frames := 0, cells := 0, slots := 0, locals := 0 } : Room) s m args below meth c H locs 0 0 (MQ below (gQi D cy A out (w10 cy h0 a0 s0)) args s 0 0 A) (F0 m 104 ls []) := by
  obtain ⟨hx, hb, hr, hml, hown, hts, hlk⟩ := id C
  have hown : s.vm.findClass RX10 = some m.cls := hown
  intro x1 x2 x3 x4 x5 x6 hf H locs ls hP hD hS hl
  unfold f_X10_wordAt_L104 at hf
  refine lv_iload hx hb dX10_wordAt_104 (lv_at hl 6 rfl) ?_
  refine lv_if_eq (tgt := 111) hx hb dX10_wordAt_106 (by decide) (fun c_106 => ?_) (fun c_106 => ?_)
  · have hf := op_pos c_106 hf
    refine lv_iload hx hb dX10_wordAt_111 (lv_at hl 4 rfl) ?_
    refine lv_iload hx hb dX10_wordAt_113 (lv_at hl 5 rfl) ?_
    refine lv_iconst (v := 1) hx hb dX10_wordAt_115 (by decide) ?_
    refine lv_iadd hx hb dX10_wordAt_116 ?_
    refine lv_iadd hx hb dX10_wordAt_117 ?_
    refine lv_istore (lv' := [(4, .int (x4 + (x5 + 1))), (0, .ref h0), (1, .int x1), (2, .int x2), (3, .int x3), (5, .int x5), (6, .int x6)]) hx hb dX10_wordAt_118 hl (by decide) rfl (fun ls hl => ?_)
    refine lv_iinc (v := x3 + 1) (lv' := [(3, .int (x3 + 1)), (4, .int (x4 + (x5 + 1))), (0, .ref h0), (1, .int x1), (2, .int x2), (5, .int x5), (6, .int x6)]) hx hb dX10_wordAt_120 hl (k := 4) rfl rfl (by decide) rfl (fun ls hl => ?_)
    refine lv_goto (tgt := 5) hx hb dX10_wordAt_123 (by decide) ?_
    exact hk_5 x1 x2 (x3 + 1) (x4 + (x5 + 1)) hf _ _ ls hP hD hS (lv_sub hl [2, 3, 4, 0, 1] rfl)
  · have hf := op_neg c_106 hf
    refine lv_iload_n hx hb dX10_wordAt_109 rfl (lv_at hl 3 rfl) ?_
    rw [← Option.some.inj hf]
    exact g_iret hx hb hr hlk hK hP hD hS dX10_wordAt_110
def f_X10_wordAt_L57 (k_5 : Int32 → Int32 → Int32 → Int32 → Option (Int32)) (fu : Nat) (s0 : St) : Nat → Int32 → Int32 → Int32 → Int32 → Int32 → Int32 → Int32 → Option (Int32)
  | 0, _, _, _, _, _, _, _ => none
  | n_57 + 1, x1, x2, x3, x4, x5, x6, x7 => if x5 ≤ x7 then (f_X10_wordAt_L104 k_5 fu s0 x1 x2 x3 x4 x5 x6) else (if x6 = 0 then (f_X10_wordAt_L104 k_5 fu s0 x1 x2 x3 x4 x5 x6) else (if inb (x4 + x7) 39 = true then (if inb (x1 + x7) 1500 = true then (if (s0.2 54 (x4 + x7).toNatClampNeg) = (s0.2 0 (x1 + x7).toNatClampNeg) then (f_X10_wordAt_L57 k_5 fu s0 n_57 x1 x2 x3 x4 x5 1 (x7 + 1)) else (f_X10_wordAt_L57 k_5 fu s0 n_57 x1 x2 x3 x4 x5 0 (x7 + 1))) else none) else none))
set_option maxHeartbeats 4000000 in
set_option maxRecDepth 100000 in
theorem b_X10_wordAt_L57 {p : Program} {e : Env} {s : State} {m : MethodId} {args : Array Value} {below : List Frame} {meth : Method} {c : Code} {A : Nat → Prop} (l : Launch) (D : va_G) (cy : Nat → ClassId) (h0 : Nat) (a0 : Nat → Nat) (s0 : St) (fu : Nat) (out : Int32) (C : gC p s m args meth c (WS yX10_wordAt cX10_wordAt 8 (some .int)) cX10_wordAt 8 (some .int) RX10) (hA : ∀ q : Nat, s.heap.size ≤ q → A q) (hK : va_K D vwCl (TY cy) s) (k_5 : Int32 → Int32 → Int32 → Int32 → Option (Int32)) (hk_5 : ∀ (x1 : Int32) (x2 : Int32) (x3 : Int32) (x4 : Int32), k_5 x1 x2 x3 x4 = some out → ∀ (H : Heap) (locs : List Loc) (ls : Array Slot), va_P D vwCl (w10 cy h0 a0 s0) H → va_D A (w10 cy h0 a0 s0) → va_S A s.heap H locs → lv_has ls 8 [(0, .ref h0), (1, .int x1), (2, .int x2), (3, .int x3), (4, .int x4)] → W p l e ({ frames := 0, cells := 0, slots := 0, locals := 0 } : Room) s m args below meth c H locs 0 0 (MQ below (gQi D cy A out (w10 cy h0 a0 s0)) args s 0 0 A) (F0 m 5 ls [])) :
    ∀ (n_57 : Nat), ∀ (x1 : Int32) (x2 : Int32) (x3 : Int32) (x4 : Int32) (x5 : Int32) (x6 : Int32) (x7 : Int32), f_X10_wordAt_L57 k_5 fu s0 n_57 x1 x2 x3 x4 x5 x6 x7 = some out → ∀ (H : Heap) (locs : List Loc) (ls : Array Slot), va_P D vwCl (w10 cy h0 a0 s0) H → va_D A (w10 cy h0 a0 s0) → va_S A s.heap H locs → lv_has ls 8 [(0, .ref h0), (1, .int x1), (2, .int x2), (3, .int x3), (4, .int x4), (5, .int x5), (6, .int x6), (7, .int x7)] → W p l e ({ frames := 0, cells := 0, slots := 0, locals := 0 } : Room) s m args below meth c H locs 0 0 (MQ below (gQi D cy A out (w10 cy h0 a0 s0)) args s 0 0 A) (F0 m 57 ls []) := by
  obtain ⟨hx, hb, hr, hml, hown, hts, hlk⟩ := id C
  have hown : s.vm.findClass RX10 = some m.cls := hown
  have hk_110 := hts _ (List.mem_cons_of_mem _ fl_RX10_110)
  have hk_7 := hts _ (List.mem_cons_of_mem _ fl_RX10_7)
  intro n_57
  induction n_57 with
  | zero => intro x1 x2 x3 x4 x5 x6 x7 hf; exact op_no hf
  | succ n_57 ih_57 =>
    intro x1 x2 x3 x4 x5 x6 x7 hf H locs ls hP hD hS hl
    rw [f_X10_wordAt_L57] at hf
    refine lv_iload hx hb dX10_wordAt_57 (lv_at hl 7 rfl) ?_
    refine lv_iload hx hb dX10_wordAt_59 (lv_at hl 5 rfl) ?_
    refine lv_icmp_ge (tgt := 104) hx hb dX10_wordAt_61 (by decide) (fun c_61 => ?_) (fun c_61 => ?_)
    · have hf := op_pos c_61 hf
      exact b_X10_wordAt_L104 l D cy h0 a0 s0 fu out C hA hK k_5 hk_5 x1 x2 x3 x4 x5 x6 hf _ _ ls hP hD hS (lv_sub hl [0, 1, 2, 3, 4, 5, 6] rfl)
    · have hf := op_neg c_61 hf
      refine lv_iload hx hb dX10_wordAt_64 (lv_at hl 6 rfl) ?_
      refine lv_if_eq (tgt := 104) hx hb dX10_wordAt_66 (by decide) (fun c_66 => ?_) (fun c_66 => ?_)
      · have hf := op_pos c_66 hf
        exact b_X10_wordAt_L104 l D cy h0 a0 s0 fu out C hA hK k_5 hk_5 x1 x2 x3 x4 x5 x6 hf _ _ ls hP hD hS (lv_sub hl [0, 1, 2, 3, 4, 5, 6] rfl)
      · have hf := op_neg c_66 hf
        refine lv_aload_n hx hb dX10_wordAt_69 rfl (lv_at hl 0 rfl) ?_
        refine va_get (ci := 9) (v := .ref (a0 54)) (C := RX10) (T := TX10) (N := 56) hx hb hts (fun w h => List.mem_cons_of_mem _ (inX10 w h)) hown hK hP 0 rfl rfl 54 (by decide) hk_110 (fun _ h9 => h9) rfl dX10_wordAt_70 ?_
        refine lv_iload hx hb dX10_wordAt_73 (lv_at hl 4 rfl) ?_
        refine lv_iload hx hb dX10_wordAt_75 (lv_at hl 7 rfl) ?_
        refine lv_iadd hx hb dX10_wordAt_77 ?_
        obtain ⟨hg_78, hf⟩ := op_if hf
        refine va_iald (f := s0.2 54) hx hb hK hP 29 0 rfl rfl (inb_in hg_78) dX10_wordAt_78 ?_
        refine lv_aload_n hx hb dX10_wordAt_79 rfl (lv_at hl 0 rfl) ?_
        refine va_get (ci := 9) (v := .ref (a0 0)) (C := RX10) (T := TX10) (N := 56) hx hb hts (fun w h => List.mem_cons_of_mem _ (inX10 w h)) hown hK hP 0 rfl rfl 0 (by decide) hk_7 (fun _ h9 => h9) rfl dX10_wordAt_80 ?_
        refine lv_iload_n hx hb dX10_wordAt_83 rfl (lv_at hl 1 rfl) ?_
        refine lv_iload hx hb dX10_wordAt_84 (lv_at hl 7 rfl) ?_
        refine lv_iadd hx hb dX10_wordAt_86 ?_
        obtain ⟨hg_87, hf⟩ := op_if hf
        refine va_iald (f := s0.2 0) hx hb hK hP 1 0 rfl rfl (inb_in hg_87) dX10_wordAt_87 ?_
        refine lv_icmp_ne (tgt := 95) hx hb dX10_wordAt_88 (by decide) (fun c_88 => ?_) (fun c_88 => ?_)
        · have hf := op_neg c_88 hf
          refine lv_iconst (v := 0) hx hb dX10_wordAt_95 (by decide) ?_
          refine lv_istore (lv' := [(6, .int 0), (0, .ref h0), (1, .int x1), (2, .int x2), (3, .int x3), (4, .int x4), (5, .int x5), (7, .int x7)]) hx hb dX10_wordAt_96 hl (by decide) rfl (fun ls hl => ?_)
          refine lv_iinc (v := x7 + 1) (lv' := [(7, .int (x7 + 1)), (6, .int 0), (0, .ref h0), (1, .int x1), (2, .int x2), (3, .int x3), (4, .int x4), (5, .int x5)]) hx hb dX10_wordAt_98 hl (k := 7) rfl rfl (by decide) rfl (fun ls hl => ?_)
          refine lv_goto (tgt := 57) hx hb dX10_wordAt_101 (by decide) ?_
          exact ih_57 x1 x2 x3 x4 x5 0 (x7 + 1) hf _ _ ls hP hD hS (lv_sub hl [2, 3, 4, 5, 6, 7, 1, 0] rfl)
        · have hf := op_pos c_88 hf
          refine lv_iconst (v := 1) hx hb dX10_wordAt_91 (by decide) ?_
          refine lv_goto (tgt := 96) hx hb dX10_wordAt_92 (by decide) ?_
          refine lv_istore (lv' := [(6, .int 1), (0, .ref h0), (1, .int x1), (2, .int x2), (3, .int x3), (4, .int x4), (5, .int x5), (7, .int x7)]) hx hb dX10_wordAt_96 hl (by decide) rfl (fun ls hl => ?_)
          refine lv_iinc (v := x7 + 1) (lv' := [(7, .int (x7 + 1)), (6, .int 1), (0, .ref h0), (1, .int x1), (2, .int x2), (3, .int x3), (4, .int x4), (5, .int x5)]) hx hb dX10_wordAt_98 hl (k := 7) rfl rfl (by decide) rfl (fun ls hl => ?_)
          refine lv_goto (tgt := 57) hx hb dX10_wordAt_101 (by decide) ?_
          exact ih_57 x1 x2 x3 x4 x5 1 (x7 + 1) hf _ _ ls hP hD hS (lv_sub hl [2, 3, 4, 5, 6, 7, 1, 0] rfl)
def f_X10_wordAt_L18 (k_5 : Int32 → Int32 → Int32 → Int32 → Option (Int32)) (fu : Nat) (s0 : St) : Nat → Int32 → Int32 → Int32 → Int32 → Int32 → Option (Int32)
  | 0, _, _, _, _, _ => none
  | n_18 + 1, x1, x2, x3, x4, x5 => if inb (x4 + x5) 39 = true then (if (s0.2 54 (x4 + x5).toNatClampNeg) = 32 then (if x5 = (x2 - x1) then (f_X10_wordAt_L57 k_5 fu s0 fu x1 x2 x3 x4 x5 1 0) else (f_X10_wordAt_L57 k_5 fu s0 fu x1 x2 x3 x4 x5 0 0)) else (f_X10_wordAt_L18 k_5 fu s0 n_18 x1 x2 x3 x4 (x5 + 1))) else none
set_option maxHeartbeats 4000000 in
set_option maxRecDepth 100000 in
theorem b_X10_wordAt_L18 {p : Program} {e : Env} {s : State} {m : MethodId} {args : Array Value} {below : List Frame} {meth : Method} {c : Code} {A : Nat → Prop} (l : Launch) (D : va_G) (cy : Nat → ClassId) (h0 : Nat) (a0 : Nat → Nat) (s0 : St) (fu : Nat) (out : Int32) (C : gC p s m args meth c (WS yX10_wordAt cX10_wordAt 8 (some .int)) cX10_wordAt 8 (some .int) RX10) (hA : ∀ q : Nat, s.heap.size ≤ q → A q) (hK : va_K D vwCl (TY cy) s) (k_5 : Int32 → Int32 → Int32 → Int32 → Option (Int32)) (hk_5 : ∀ (x1 : Int32) (x2 : Int32) (x3 : Int32) (x4 : Int32), k_5 x1 x2 x3 x4 = some out → ∀ (H : Heap) (locs : List Loc) (ls : Array Slot), va_P D vwCl (w10 cy h0 a0 s0) H → va_D A (w10 cy h0 a0 s0) → va_S A s.heap H locs → lv_has ls 8 [(0, .ref h0), (1, .int x1), (2, .int x2), (3, .int x3), (4, .int x4)] → W p l e ({ frames := 0, cells := 0, slots := 0, locals := 0 } : Room) s m args below meth c H locs 0 0 (MQ below (gQi D cy A out (w10 cy h0 a0 s0)) args s 0 0 A) (F0 m 5 ls [])) :
    ∀ (n_18 : Nat), ∀ (x1 : Int32) (x2 : Int32) (x3 : Int32) (x4 : Int32) (x5 : Int32), f_X10_wordAt_L18 k_5 fu s0 n_18 x1 x2 x3 x4 x5 = some out → ∀ (H : Heap) (locs : List Loc) (ls : Array Slot), va_P D vwCl (w10 cy h0 a0 s0) H → va_D A (w10 cy h0 a0 s0) → va_S A s.heap H locs → lv_has ls 8 [(0, .ref h0), (1, .int x1), (2, .int x2), (3, .int x3), (4, .int x4), (5, .int x5)] → W p l e ({ frames := 0, cells := 0, slots := 0, locals := 0 } : Room) s m args below meth c H locs 0 0 (MQ below (gQi D cy A out (w10 cy h0 a0 s0)) args s 0 0 A) (F0 m 18 ls []) := by
  obtain ⟨hx, hb, hr, hml, hown, hts, hlk⟩ := id C
  have hown : s.vm.findClass RX10 = some m.cls := hown
  have hk_110 := hts _ (List.mem_cons_of_mem _ fl_RX10_110)
  intro n_18
  induction n_18 with
  | zero => intro x1 x2 x3 x4 x5 hf; exact op_no hf
  | succ n_18 ih_18 =>
    intro x1 x2 x3 x4 x5 hf H locs ls hP hD hS hl
    rw [f_X10_wordAt_L18] at hf
    refine lv_aload_n hx hb dX10_wordAt_18 rfl (lv_at hl 0 rfl) ?_
    refine va_get (ci := 9) (v := .ref (a0 54)) (C := RX10) (T := TX10) (N := 56) hx hb hts (fun w h => List.mem_cons_of_mem _ (inX10 w h)) hown hK hP 0 rfl rfl 54 (by decide) hk_110 (fun _ h9 => h9) rfl dX10_wordAt_19 ?_
    refine lv_iload hx hb dX10_wordAt_22 (lv_at hl 4 rfl) ?_
    refine lv_iload hx hb dX10_wordAt_24 (lv_at hl 5 rfl) ?_
    refine lv_iadd hx hb dX10_wordAt_26 ?_
    obtain ⟨hg_27, hf⟩ := op_if hf
    refine va_iald (f := s0.2 54) hx hb hK hP 29 0 rfl rfl (inb_in hg_27) dX10_wordAt_27 ?_
    refine lv_bipush (v := 32) hx hb dX10_wordAt_28 (by decide) ?_
    refine lv_icmp_eq (tgt := 39) hx hb dX10_wordAt_30 (by decide) (fun c_30 => ?_) (fun c_30 => ?_)
    · have hf := op_pos c_30 hf
      refine lv_iload hx hb dX10_wordAt_39 (lv_at hl 5 rfl) ?_
      refine lv_iload_n hx hb dX10_wordAt_41 rfl (lv_at hl 2 rfl) ?_
      refine lv_iload_n hx hb dX10_wordAt_42 rfl (lv_at hl 1 rfl) ?_
      refine lv_isub hx hb dX10_wordAt_43 ?_
      refine lv_icmp_ne (tgt := 51) hx hb dX10_wordAt_44 (by decide) (fun c_44 => ?_) (fun c_44 => ?_)
      · have hf := op_neg c_44 hf
        refine lv_iconst (v := 0) hx hb dX10_wordAt_51 (by decide) ?_
        refine lv_istore (lv' := [(6, .int 0), (0, .ref h0), (1, .int x1), (2, .int x2), (3, .int x3), (4, .int x4), (5, .int x5)]) hx hb dX10_wordAt_52 hl (by decide) rfl (fun ls hl => ?_)
        refine lv_iconst (v := 0) hx hb dX10_wordAt_54 (by decide) ?_
        refine lv_istore (lv' := [(7, .int 0), (6, .int 0), (0, .ref h0), (1, .int x1), (2, .int x2), (3, .int x3), (4, .int x4), (5, .int x5)]) hx hb dX10_wordAt_55 hl (by decide) rfl (fun ls hl => ?_)
        exact b_X10_wordAt_L57 l D cy h0 a0 s0 fu out C hA hK k_5 hk_5 fu x1 x2 x3 x4 x5 0 0 hf _ _ ls hP hD hS (lv_sub hl [2, 3, 4, 5, 6, 7, 1, 0] rfl)
      · have hf := op_pos c_44 hf
        refine lv_iconst (v := 1) hx hb dX10_wordAt_47 (by decide) ?_
        refine lv_goto (tgt := 52) hx hb dX10_wordAt_48 (by decide) ?_
        refine lv_istore (lv' := [(6, .int 1), (0, .ref h0), (1, .int x1), (2, .int x2), (3, .int x3), (4, .int x4), (5, .int x5)]) hx hb dX10_wordAt_52 hl (by decide) rfl (fun ls hl => ?_)
        refine lv_iconst (v := 0) hx hb dX10_wordAt_54 (by decide) ?_
        refine lv_istore (lv' := [(7, .int 0), (6, .int 1), (0, .ref h0), (1, .int x1), (2, .int x2), (3, .int x3), (4, .int x4), (5, .int x5)]) hx hb dX10_wordAt_55 hl (by decide) rfl (fun ls hl => ?_)
        exact b_X10_wordAt_L57 l D cy h0 a0 s0 fu out C hA hK k_5 hk_5 fu x1 x2 x3 x4 x5 1 0 hf _ _ ls hP hD hS (lv_sub hl [2, 3, 4, 5, 6, 7, 1, 0] rfl)
    · have hf := op_neg c_30 hf
      refine lv_iinc (v := x5 + 1) (lv' := [(5, .int (x5 + 1)), (0, .ref h0), (1, .int x1), (2, .int x2), (3, .int x3), (4, .int x4)]) hx hb dX10_wordAt_33 hl (k := 5) rfl rfl (by decide) rfl (fun ls hl => ?_)
      refine lv_goto (tgt := 18) hx hb dX10_wordAt_36 (by decide) ?_
      exact ih_18 x1 x2 x3 x4 (x5 + 1) hf _ _ ls hP hD hS (lv_sub hl [1, 2, 3, 4, 5, 0] rfl)
def f_X10_wordAt_L5  (fu : Nat) (s0 : St) : Nat → Int32 → Int32 → Int32 → Int32 → Option (Int32)
  | 0, _, _, _, _ => none
  | n_5 + 1, x1, x2, x3, x4 => if 39 ≤ x4 then (some (-1)) else (f_X10_wordAt_L18 (f_X10_wordAt_L5 fu s0 n_5) fu s0 fu x1 x2 x3 x4 0)
set_option maxHeartbeats 4000000 in
set_option maxRecDepth 100000 in
theorem b_X10_wordAt_L5 {p : Program} {e : Env} {s : State} {m : MethodId} {args : Array Value} {below : List Frame} {meth : Method} {c : Code} {A : Nat → Prop} (l : Launch) (D : va_G) (cy : Nat → ClassId) (h0 : Nat) (a0 : Nat → Nat) (s0 : St) (fu : Nat) (out : Int32) (C : gC p s m args meth c (WS yX10_wordAt cX10_wordAt 8 (some .int)) cX10_wordAt 8 (some .int) RX10) (hA : ∀ q : Nat, s.heap.size ≤ q → A q) (hK : va_K D vwCl (TY cy) s)  :
    ∀ (n_5 : Nat), ∀ (x1 : Int32) (x2 : Int32) (x3 : Int32) (x4 : Int32), f_X10_wordAt_L5 fu s0 n_5 x1 x2 x3 x4 = some out → ∀ (H : Heap) (locs : List Loc) (ls : Array Slot), va_P D vwCl (w10 cy h0 a0 s0) H → va_D A (w10 cy h0 a0 s0) → va_S A s.heap H locs → lv_has ls 8 [(0, .ref h0), (1, .int x1), (2, .int x2), (3, .int x3), (4, .int x4)] → W p l e ({ frames := 0, cells := 0, slots := 0, locals := 0 } : Room) s m args below meth c H locs 0 0 (MQ below (gQi D cy A out (w10 cy h0 a0 s0)) args s 0 0 A) (F0 m 5 ls []) := by
  obtain ⟨hx, hb, hr, hml, hown, hts, hlk⟩ := id C
  have hown : s.vm.findClass RX10 = some m.cls := hown
  have hk_110 := hts _ (List.mem_cons_of_mem _ fl_RX10_110)
  intro n_5
  induction n_5 with
  | zero => intro x1 x2 x3 x4 hf; exact op_no hf
  | succ n_5 ih_5 =>
    intro x1 x2 x3 x4 hf H locs ls hP hD hS hl
    rw [f_X10_wordAt_L5] at hf
    refine lv_iload hx hb dX10_wordAt_5 (lv_at hl 4 rfl) ?_
    refine lv_aload_n hx hb dX10_wordAt_7 rfl (lv_at hl 0 rfl) ?_
    refine va_get (ci := 9) (v := .ref (a0 54)) (C := RX10) (T := TX10) (N := 56) hx hb hts (fun w h => List.mem_cons_of_mem _ (inX10 w h)) hown hK hP 0 rfl rfl 54 (by decide) hk_110 (fun _ h9 => h9) rfl dX10_wordAt_8 ?_
    refine va_alen (v := 39) hx hb hK hP 29 0 rfl rfl rfl dX10_wordAt_11 ?_
    refine lv_icmp_ge (tgt := 126) hx hb dX10_wordAt_12 (by decide) (fun c_12 => ?_) (fun c_12 => ?_)
    · have hf := op_pos c_12 hf
      refine lv_iconst (v := (-1)) hx hb dX10_wordAt_126 (by decide) ?_
      rw [← Option.some.inj hf]
      exact g_iret hx hb hr hlk hK hP hD hS dX10_wordAt_127
    · have hf := op_neg c_12 hf
      refine lv_iconst (v := 0) hx hb dX10_wordAt_15 (by decide) ?_
      refine lv_istore (lv' := [(5, .int 0), (0, .ref h0), (1, .int x1), (2, .int x2), (3, .int x3), (4, .int x4)]) hx hb dX10_wordAt_16 hl (by decide) rfl (fun ls hl => ?_)
      exact b_X10_wordAt_L18 l D cy h0 a0 s0 fu out C hA hK (f_X10_wordAt_L5 fu s0 n_5) ih_5 fu x1 x2 x3 x4 0 hf _ _ ls hP hD hS (lv_sub hl [1, 2, 3, 4, 5, 0] rfl)
def f_X10_wordAt (fu : Nat) (s0 : St)  (p1 : Int32) (p2 : Int32) : Option (Int32) := f_X10_wordAt_L5 fu s0 fu p1 p2 1 0
theorem hdX10_wordAt : yX10_wordAt.cls = RX10 ∧ yX10_wordAt.cls ≠ "java/lang/invoke/MethodHandle" ∧ yX10_wordAt.cls ≠ "java/lang/invoke/VarHandle" ∧ (parseMethodDescriptor yX10_wordAt.desc).map (fun d => d.parameters.length) = some 2 := by decide +kernel
set_option maxHeartbeats 4000000 in
set_option maxRecDepth 100000 in
theorem c_X10_wordAt (l : Launch) (D : va_G) (cy : Nat → ClassId) (h0 : Nat) (a0 : Nat → Nat) (s0 : St) (sz fu : Nat) (p1 : Int32) (p2 : Int32) (out : Int32) (hf : f_X10_wordAt fu s0 p1 p2 = some out) :
    Met l yX10_wordAt (WS yX10_wordAt cX10_wordAt 8 (some .int)) ({ frames := 0, cells := 0, slots := 0, locals := 0 } : Room) (va_Pc [.ref h0, .int p1, .int p2] (gP D cy sz (w10 cy h0 a0 s0))) ((fun A : Nat → Prop => gQi D cy A out (w10 cy h0 a0 s0)) (va_A (w10 cy h0 a0 s0) sz)) 0 0 (va_A (w10 cy h0 a0 s0) sz) := by
  refine g_met (cc := cX10_wordAt) (maxL := 8) (ret := (some .int)) (fun A : Nat → Prop => gQi D cy A out (w10 cy h0 a0 s0)) (by decide +kernel) rfl (Nat.le_of_ble_eq_true rfl) ?_
  intro p e s m below meth c A C hA hK hP hD ls hl
  obtain ⟨hx, hb, hr, hml, hown, hts, hlk⟩ := id C
  have hown : s.vm.findClass RX10 = some m.cls := hown
  have hS : va_S A s.heap s.heap [] := va_S.rf
  have hl : lv_has ls 8 [(0, .ref h0), (1, .int p1), (2, .int p2)] := hl
  unfold f_X10_wordAt at hf
  refine lv_iconst (v := 1) hx hb dX10_wordAt_0 (by decide) ?_
  refine lv_istore_n (lv' := [(3, .int 1), (0, .ref h0), (1, .int p1), (2, .int p2)]) hx hb dX10_wordAt_1 rfl hl (by decide) rfl (fun ls hl => ?_)
  refine lv_iconst (v := 0) hx hb dX10_wordAt_2 (by decide) ?_
  refine lv_istore (lv' := [(4, .int 0), (3, .int 1), (0, .ref h0), (1, .int p1), (2, .int p2)]) hx hb dX10_wordAt_3 hl (by decide) rfl (fun ls hl => ?_)
  exact b_X10_wordAt_L5 l D cy h0 a0 s0 fu out C hA hK fu p1 p2 1 0 hf _ _ ls hP hD hS (lv_sub hl [2, 3, 4, 1, 0] rfl)
def f_X10_isSmall (fu : Nat) (s0 : St)  (p1 : Int32) : Option (Int32) := if (s0.1 34) ≤ p1 then (some 0) else (if inb p1 1500 = true then (if (s0.2 0 p1.toNatClampNeg) < 97 then (some 0) else (if inb p1 1500 = true then (if 122 < (s0.2 0 p1.toNatClampNeg) then (some 0) else (some 1)) else none)) else none)
theorem hdX10_isSmall : yX10_isSmall.cls = RX10 ∧ yX10_isSmall.cls ≠ "java/lang/invoke/MethodHandle" ∧ yX10_isSmall.cls ≠ "java/lang/invoke/VarHandle" ∧ (parseMethodDescriptor yX10_isSmall.desc).map (fun d => d.parameters.length) = some 1 := by decide +kernel
set_option maxHeartbeats 4000000 in
set_option maxRecDepth 100000 in
theorem c_X10_isSmall (l : Launch) (D : va_G) (cy : Nat → ClassId) (h0 : Nat) (a0 : Nat → Nat) (s0 : St) (sz fu : Nat) (p1 : Int32) (out : Int32) (hf : f_X10_isSmall fu s0 p1 = some out) :
    Met l yX10_isSmall (WS yX10_isSmall cX10_isSmall 2 (some .boolean)) ({ frames := 0, cells := 0, slots := 0, locals := 0 } : Room) (va_Pc [.ref h0, .int p1] (gP D cy sz (w10 cy h0 a0 s0))) ((fun A : Nat → Prop => gQi D cy A out (w10 cy h0 a0 s0)) (va_A (w10 cy h0 a0 s0) sz)) 0 0 (va_A (w10 cy h0 a0 s0) sz) := by
  refine g_met (cc := cX10_isSmall) (maxL := 2) (ret := (some .boolean)) (fun A : Nat → Prop => gQi D cy A out (w10 cy h0 a0 s0)) (by decide +kernel) rfl (Nat.le_of_ble_eq_true rfl) ?_
  intro p e s m below meth c A C hA hK hP hD ls hl
  obtain ⟨hx, hb, hr, hml, hown, hts, hlk⟩ := id C
  have hown : s.vm.findClass RX10 = some m.cls := hown
  have hS : va_S A s.heap s.heap [] := va_S.rf
  have hl : lv_has ls 2 [(0, .ref h0), (1, .int p1)] := hl
  have hk_154 := hts _ (List.mem_cons_of_mem _ fl_RX10_154)
  have hk_7 := hts _ (List.mem_cons_of_mem _ fl_RX10_7)
  unfold f_X10_isSmall at hf
  refine lv_iload_n hx hb dX10_isSmall_0 rfl (lv_at hl 1 rfl) ?_
  refine lv_aload_n hx hb dX10_isSmall_1 rfl (lv_at hl 0 rfl) ?_
  refine va_get (ci := 9) (v := .int (s0.1 34)) (C := RX10) (T := TX10) (N := 56) hx hb hts (fun w h => List.mem_cons_of_mem _ (inX10 w h)) hown hK hP 0 rfl rfl 34 (by decide) hk_154 (fun _ h9 => h9) rfl dX10_isSmall_2 ?_
  refine lv_icmp_ge (tgt := 34) hx hb dX10_isSmall_5 (by decide) (fun c_5 => ?_) (fun c_5 => ?_)
  · have hf := op_pos c_5 hf
    refine lv_iconst (v := 0) hx hb dX10_isSmall_34 (by decide) ?_
    rw [← Option.some.inj hf]
    exact g_zret hx hb hr hlk (show isB 0 = true by decide) hK hP hD hS dX10_isSmall_35
  · have hf := op_neg c_5 hf
    refine lv_aload_n hx hb dX10_isSmall_8 rfl (lv_at hl 0 rfl) ?_
    refine va_get (ci := 9) (v := .ref (a0 0)) (C := RX10) (T := TX10) (N := 56) hx hb hts (fun w h => List.mem_cons_of_mem _ (inX10 w h)) hown hK hP 0 rfl rfl 0 (by decide) hk_7 (fun _ h9 => h9) rfl dX10_isSmall_9 ?_
    refine lv_iload_n hx hb dX10_isSmall_12 rfl (lv_at hl 1 rfl) ?_
    obtain ⟨hg_13, hf⟩ := op_if hf
    refine va_iald (f := s0.2 0) hx hb hK hP 1 0 rfl rfl (inb_in hg_13) dX10_isSmall_13 ?_
    refine lv_bipush (v := 97) hx hb dX10_isSmall_14 (by decide) ?_
    refine lv_icmp_lt (tgt := 34) hx hb dX10_isSmall_16 (by decide) (fun c_16 => ?_) (fun c_16 => ?_)
    · have hf := op_pos c_16 hf
      refine lv_iconst (v := 0) hx hb dX10_isSmall_34 (by decide) ?_
      rw [← Option.some.inj hf]
      exact g_zret hx hb hr hlk (show isB 0 = true by decide) hK hP hD hS dX10_isSmall_35
    · have hf := op_neg c_16 hf
      refine lv_aload_n hx hb dX10_isSmall_19 rfl (lv_at hl 0 rfl) ?_
      refine va_get (ci := 9) (v := .ref (a0 0)) (C := RX10) (T := TX10) (N := 56) hx hb hts (fun w h => List.mem_cons_of_mem _ (inX10 w h)) hown hK hP 0 rfl rfl 0 (by decide) hk_7 (fun _ h9 => h9) rfl dX10_isSmall_20 ?_
      refine lv_iload_n hx hb dX10_isSmall_23 rfl (lv_at hl 1 rfl) ?_
      obtain ⟨hg_24, hf⟩ := op_if hf
      refine va_iald (f := s0.2 0) hx hb hK hP 1 0 rfl rfl (inb_in hg_24) dX10_isSmall_24 ?_
      refine lv_bipush (v := 122) hx hb dX10_isSmall_25 (by decide) ?_
      refine lv_icmp_gt (tgt := 34) hx hb dX10_isSmall_27 (by decide) (fun c_27 => ?_) (fun c_27 => ?_)
      · have hf := op_pos c_27 hf
        refine lv_iconst (v := 0) hx hb dX10_isSmall_34 (by decide) ?_
        rw [← Option.some.inj hf]
        exact g_zret hx hb hr hlk (show isB 0 = true by decide) hK hP hD hS dX10_isSmall_35
      · have hf := op_neg c_27 hf
        refine lv_iconst (v := 1) hx hb dX10_isSmall_30 (by decide) ?_
        refine lv_goto (tgt := 35) hx hb dX10_isSmall_31 (by decide) ?_
        rw [← Option.some.inj hf]
        exact g_zret hx hb hr hlk (show isB 1 = true by decide) hK hP hD hS dX10_isSmall_35
def f_X10_isDigit (fu : Nat) (s0 : St)  (p1 : Int32) : Option (Int32) := if (s0.1 34) ≤ p1 then (some 0) else (if inb p1 1500 = true then (if (s0.2 0 p1.toNatClampNeg) < 48 then (some 0) else (if inb p1 1500 = true then (if 57 < (s0.2 0 p1.toNatClampNeg) then (some 0) else (some 1)) else none)) else none)
theorem hdX10_isDigit : yX10_isDigit.cls = RX10 ∧ yX10_isDigit.cls ≠ "java/lang/invoke/MethodHandle" ∧ yX10_isDigit.cls ≠ "java/lang/invoke/VarHandle" ∧ (parseMethodDescriptor yX10_isDigit.desc).map (fun d => d.parameters.length) = some 1 := by decide +kernel
set_option maxHeartbeats 4000000 in
set_option maxRecDepth 100000 in
theorem c_X10_isDigit (l : Launch) (D : va_G) (cy : Nat → ClassId) (h0 : Nat) (a0 : Nat → Nat) (s0 : St) (sz fu : Nat) (p1 : Int32) (out : Int32) (hf : f_X10_isDigit fu s0 p1 = some out) :
    Met l yX10_isDigit (WS yX10_isDigit cX10_isDigit 2 (some .boolean)) ({ frames := 0, cells := 0, slots := 0, locals := 0 } : Room) (va_Pc [.ref h0, .int p1] (gP D cy sz (w10 cy h0 a0 s0))) ((fun A : Nat → Prop => gQi D cy A out (w10 cy h0 a0 s0)) (va_A (w10 cy h0 a0 s0) sz)) 0 0 (va_A (w10 cy h0 a0 s0) sz) := by
  refine g_met (cc := cX10_isDigit) (maxL := 2) (ret := (some .boolean)) (fun A : Nat → Prop => gQi D cy A out (w10 cy h0 a0 s0)) (by decide +kernel) rfl (Nat.le_of_ble_eq_true rfl) ?_
  intro p e s m below meth c A C hA hK hP hD ls hl
  obtain ⟨hx, hb, hr, hml, hown, hts, hlk⟩ := id C
  have hown : s.vm.findClass RX10 = some m.cls := hown
  have hS : va_S A s.heap s.heap [] := va_S.rf
  have hl : lv_has ls 2 [(0, .ref h0), (1, .int p1)] := hl
  have hk_154 := hts _ (List.mem_cons_of_mem _ fl_RX10_154)
  have hk_7 := hts _ (List.mem_cons_of_mem _ fl_RX10_7)
  unfold f_X10_isDigit at hf
  refine lv_iload_n hx hb dX10_isDigit_0 rfl (lv_at hl 1 rfl) ?_
  refine lv_aload_n hx hb dX10_isDigit_1 rfl (lv_at hl 0 rfl) ?_
  refine va_get (ci := 9) (v := .int (s0.1 34)) (C := RX10) (T := TX10) (N := 56) hx hb hts (fun w h => List.mem_cons_of_mem _ (inX10 w h)) hown hK hP 0 rfl rfl 34 (by decide) hk_154 (fun _ h9 => h9) rfl dX10_isDigit_2 ?_
  refine lv_icmp_ge (tgt := 34) hx hb dX10_isDigit_5 (by decide) (fun c_5 => ?_) (fun c_5 => ?_)
  · have hf := op_pos c_5 hf
    refine lv_iconst (v := 0) hx hb dX10_isDigit_34 (by decide) ?_
    rw [← Option.some.inj hf]
    exact g_zret hx hb hr hlk (show isB 0 = true by decide) hK hP hD hS dX10_isDigit_35
  · have hf := op_neg c_5 hf
    refine lv_aload_n hx hb dX10_isDigit_8 rfl (lv_at hl 0 rfl) ?_
    refine va_get (ci := 9) (v := .ref (a0 0)) (C := RX10) (T := TX10) (N := 56) hx hb hts (fun w h => List.mem_cons_of_mem _ (inX10 w h)) hown hK hP 0 rfl rfl 0 (by decide) hk_7 (fun _ h9 => h9) rfl dX10_isDigit_9 ?_
    refine lv_iload_n hx hb dX10_isDigit_12 rfl (lv_at hl 1 rfl) ?_
    obtain ⟨hg_13, hf⟩ := op_if hf
    refine va_iald (f := s0.2 0) hx hb hK hP 1 0 rfl rfl (inb_in hg_13) dX10_isDigit_13 ?_
    refine lv_bipush (v := 48) hx hb dX10_isDigit_14 (by decide) ?_
    refine lv_icmp_lt (tgt := 34) hx hb dX10_isDigit_16 (by decide) (fun c_16 => ?_) (fun c_16 => ?_)
    · have hf := op_pos c_16 hf
      refine lv_iconst (v := 0) hx hb dX10_isDigit_34 (by decide) ?_
      rw [← Option.some.inj hf]
      exact g_zret hx hb hr hlk (show isB 0 = true by decide) hK hP hD hS dX10_isDigit_35
    · have hf := op_neg c_16 hf
      refine lv_aload_n hx hb dX10_isDigit_19 rfl (lv_at hl 0 rfl) ?_
      refine va_get (ci := 9) (v := .ref (a0 0)) (C := RX10) (T := TX10) (N := 56) hx hb hts (fun w h => List.mem_cons_of_mem _ (inX10 w h)) hown hK hP 0 rfl rfl 0 (by decide) hk_7 (fun _ h9 => h9) rfl dX10_isDigit_20 ?_
      refine lv_iload_n hx hb dX10_isDigit_23 rfl (lv_at hl 1 rfl) ?_
      obtain ⟨hg_24, hf⟩ := op_if hf
      refine va_iald (f := s0.2 0) hx hb hK hP 1 0 rfl rfl (inb_in hg_24) dX10_isDigit_24 ?_
      refine lv_bipush (v := 57) hx hb dX10_isDigit_25 (by decide) ?_
      refine lv_icmp_gt (tgt := 34) hx hb dX10_isDigit_27 (by decide) (fun c_27 => ?_) (fun c_27 => ?_)
      · have hf := op_pos c_27 hf
        refine lv_iconst (v := 0) hx hb dX10_isDigit_34 (by decide) ?_
        rw [← Option.some.inj hf]
        exact g_zret hx hb hr hlk (show isB 0 = true by decide) hK hP hD hS dX10_isDigit_35
      · have hf := op_neg c_27 hf
        refine lv_iconst (v := 1) hx hb dX10_isDigit_30 (by decide) ?_
        refine lv_goto (tgt := 35) hx hb dX10_isDigit_31 (by decide) ?_
        rw [← Option.some.inj hf]
        exact g_zret hx hb hr hlk (show isB 1 = true by decide) hK hP hD hS dX10_isDigit_35
def f_X10_string_L98  (fu : Nat)  (u0 : St) (t0 : Int32) : Option (St) := some (sF (sF u0 36 t0) 35 ((u0.1 35) + 1))
set_option maxHeartbeats 4000000 in
set_option maxRecDepth 100000 in
theorem b_X10_string_L98 {p : Program} {e : Env} {s : State} {m : MethodId} {args : Array Value} {below : List Frame} {meth : Method} {c : Code} {A : Nat → Prop} (l : Launch) (D : va_G) (cy : Nat → ClassId) (h0 : Nat) (a0 : Nat → Nat) (fu : Nat) (out : St) (C : gC p s m args meth c (WS yX10_string cX10_string 1 none) cX10_string 1 none RX10) (hA : ∀ q : Nat, s.heap.size ≤ q → A q) (hK : va_K D vwCl (TY cy) s)  :
    ∀ (u0 : St) (t0 : Int32), f_X10_string_L98 fu u0 t0 = some out → ∀ (H : Heap) (locs : List Loc) (ls : Array Slot), va_P D vwCl (w10 cy h0 a0 u0) H → va_D A (w10 cy h0 a0 u0) → va_S A s.heap H locs → lv_has ls 1 [(0, .ref h0)] → W p l e ({ frames := 0, cells := 0, slots := 0, locals := 0 } : Room) s m args below meth c H locs 0 0 (MQ below (gQv D cy A (w10 cy h0 a0 out)) args s 0 0 A) (F0 m 98 ls [.int t0, .ref h0]) := by
  obtain ⟨hx, hb, hr, hml, hown, hts, hlk⟩ := id C
  have hown : s.vm.findClass RX10 = some m.cls := hown
  have hk_163 := hts _ (List.mem_cons_of_mem _ fl_RX10_163)
  have hk_157 := hts _ (List.mem_cons_of_mem _ fl_RX10_157)
  intro u0 t0 hf H locs ls hP hD hS hl
  unfold f_X10_string_L98 at hf
  refine va_put (ci := 9) (v := .int t0) (ty := tyX10 36) (C := RX10) (T := TX10) (N := 56) hx hb hts (fun w h => List.mem_cons_of_mem _ (inX10 w h)) tyX10 tyX10_ok nmX10 hown hK hP hD hS 0 rfl rfl 36 (by decide) hk_163 (fun _ h9 => h9) rfl (tyX10_ok 36 (by decide)) rfl rfl (Nat.le_of_ble_eq_true rfl) dX10_string_98 (fun H locs hP hD hS => ?_)
  have hP : va_P D vwCl (w10 cy h0 a0 (sF u0 36 t0)) H := pP10_36 hP
  have hD : va_D A (w10 cy h0 a0 (sF u0 36 t0)) := pD10_36 hD
  refine lv_aload_n hx hb dX10_string_101 rfl (lv_at hl 0 rfl) ?_
  refine lv_dup hx hb dX10_string_102 rfl ?_
  refine va_get (ci := 9) (v := .int (u0.1 35)) (C := RX10) (T := TX10) (N := 56) hx hb hts (fun w h => List.mem_cons_of_mem _ (inX10 w h)) hown hK hP 0 rfl rfl 35 (by decide) hk_157 (fun _ h9 => h9) rfl dX10_string_103 ?_
  refine lv_iconst (v := 1) hx hb dX10_string_106 (by decide) ?_
  refine lv_iadd hx hb dX10_string_107 ?_
  refine va_put (ci := 9) (v := .int ((u0.1 35) + 1)) (ty := tyX10 35) (C := RX10) (T := TX10) (N := 56) hx hb hts (fun w h => List.mem_cons_of_mem _ (inX10 w h)) tyX10 tyX10_ok nmX10 hown hK hP hD hS 0 rfl rfl 35 (by decide) hk_157 (fun _ h9 => h9) rfl (tyX10_ok 35 (by decide)) rfl rfl (Nat.le_of_ble_eq_true rfl) dX10_string_108 (fun H locs hP hD hS => ?_)
  have hP : va_P D vwCl (w10 cy h0 a0 (sF (sF u0 36 t0) 35 ((u0.1 35) + 1))) H := pP10_35 hP
  have hD : va_D A (w10 cy h0 a0 (sF (sF u0 36 t0) 35 ((u0.1 35) + 1))) := pD10_35 hD
  rw [← Option.some.inj hf]
  exact g_vret hx hb hr hlk hK hP hD hS dX10_string_111
def f_X10_string_L96  (fu : Nat)  (u0 : St) : Option (St) := f_X10_string_L98 fu u0 6
set_option maxHeartbeats 4000000 in
set_option maxRecDepth 100000 in
theorem b_X10_string_L96 {p : Program} {e : Env} {s : State} {m : MethodId} {args : Array Value} {below : List Frame} {meth : Method} {c : Code} {A : Nat → Prop} (l : Launch) (D : va_G) (cy : Nat → ClassId) (h0 : Nat) (a0 : Nat → Nat) (fu : Nat) (out : St) (C : gC p s m args meth c (WS yX10_string cX10_string 1 none) cX10_string 1 none RX10) (hA : ∀ q : Nat, s.heap.size ≤ q → A q) (hK : va_K D vwCl (TY cy) s)  :
    ∀ (u0 : St), f_X10_string_L96 fu u0 = some out → ∀ (H : Heap) (locs : List Loc) (ls : Array Slot), va_P D vwCl (w10 cy h0 a0 u0) H → va_D A (w10 cy h0 a0 u0) → va_S A s.heap H locs → lv_has ls 1 [(0, .ref h0)] → W p l e ({ frames := 0, cells := 0, slots := 0, locals := 0 } : Room) s m args below meth c H locs 0 0 (MQ below (gQv D cy A (w10 cy h0 a0 out)) args s 0 0 A) (F0 m 96 ls [.ref h0]) := by
  obtain ⟨hx, hb, hr, hml, hown, hts, hlk⟩ := id C
  have hown : s.vm.findClass RX10 = some m.cls := hown
  intro u0 hf H locs ls hP hD hS hl
  unfold f_X10_string_L96 at hf
  refine lv_bipush (v := 6) hx hb dX10_string_96 (by decide) ?_
  exact b_X10_string_L98 l D cy h0 a0 fu out C hA hK u0 6 hf _ _ ls hP hD hS (lv_sub hl [0] rfl)
def f_X10_string_L66  (fu : Nat)  (u0 : St) : Option (St) := if (u0.1 34) ≤ (u0.1 35) then (f_X10_string_L96 fu u0) else (if inb (u0.1 35) 1500 = true then (if (u0.2 0 (u0.1 35).toNatClampNeg) = 34 then (f_X10_string_L98 fu u0 4) else (f_X10_string_L96 fu u0)) else none)
set_option maxHeartbeats 4000000 in
set_option maxRecDepth 100000 in
theorem b_X10_string_L66 {p : Program} {e : Env} {s : State} {m : MethodId} {args : Array Value} {below : List Frame} {meth : Method} {c : Code} {A : Nat → Prop} (l : Launch) (D : va_G) (cy : Nat → ClassId) (h0 : Nat) (a0 : Nat → Nat) (fu : Nat) (out : St) (C : gC p s m args meth c (WS yX10_string cX10_string 1 none) cX10_string 1 none RX10) (hA : ∀ q : Nat, s.heap.size ≤ q → A q) (hK : va_K D vwCl (TY cy) s)  :
    ∀ (u0 : St), f_X10_string_L66 fu u0 = some out → ∀ (H : Heap) (locs : List Loc) (ls : Array Slot), va_P D vwCl (w10 cy h0 a0 u0) H → va_D A (w10 cy h0 a0 u0) → va_S A s.heap H locs → lv_has ls 1 [(0, .ref h0)] → W p l e ({ frames := 0, cells := 0, slots := 0, locals := 0 } : Room) s m args below meth c H locs 0 0 (MQ below (gQv D cy A (w10 cy h0 a0 out)) args s 0 0 A) (F0 m 66 ls []) := by
  obtain ⟨hx, hb, hr, hml, hown, hts, hlk⟩ := id C
  have hown : s.vm.findClass RX10 = some m.cls := hown
  have hk_157 := hts _ (List.mem_cons_of_mem _ fl_RX10_157)
  have hk_154 := hts _ (List.mem_cons_of_mem _ fl_RX10_154)
  have hk_7 := hts _ (List.mem_cons_of_mem _ fl_RX10_7)
  intro u0 hf H locs ls hP hD hS hl
  unfold f_X10_string_L66 at hf
  refine lv_aload_n hx hb dX10_string_66 rfl (lv_at hl 0 rfl) ?_
  refine lv_aload_n hx hb dX10_string_67 rfl (lv_at hl 0 rfl) ?_
  refine va_get (ci := 9) (v := .int (u0.1 35)) (C := RX10) (T := TX10) (N := 56) hx hb hts (fun w h => List.mem_cons_of_mem _ (inX10 w h)) hown hK hP 0 rfl rfl 35 (by decide) hk_157 (fun _ h9 => h9) rfl dX10_string_68 ?_
  refine lv_aload_n hx hb dX10_string_71 rfl (lv_at hl 0 rfl) ?_
  refine va_get (ci := 9) (v := .int (u0.1 34)) (C := RX10) (T := TX10) (N := 56) hx hb hts (fun w h => List.mem_cons_of_mem _ (inX10 w h)) hown hK hP 0 rfl rfl 34 (by decide) hk_154 (fun _ h9 => h9) rfl dX10_string_72 ?_
  refine lv_icmp_ge (tgt := 96) hx hb dX10_string_75 (by decide) (fun c_75 => ?_) (fun c_75 => ?_)
  · have hf := op_pos c_75 hf
    exact b_X10_string_L96 l D cy h0 a0 fu out C hA hK u0 hf _ _ ls hP hD hS (lv_sub hl [0] rfl)
  · have hf := op_neg c_75 hf
    refine lv_aload_n hx hb dX10_string_78 rfl (lv_at hl 0 rfl) ?_
    refine va_get (ci := 9) (v := .ref (a0 0)) (C := RX10) (T := TX10) (N := 56) hx hb hts (fun w h => List.mem_cons_of_mem _ (inX10 w h)) hown hK hP 0 rfl rfl 0 (by decide) hk_7 (fun _ h9 => h9) rfl dX10_string_79 ?_
    refine lv_aload_n hx hb dX10_string_82 rfl (lv_at hl 0 rfl) ?_
    refine va_get (ci := 9) (v := .int (u0.1 35)) (C := RX10) (T := TX10) (N := 56) hx hb hts (fun w h => List.mem_cons_of_mem _ (inX10 w h)) hown hK hP 0 rfl rfl 35 (by decide) hk_157 (fun _ h9 => h9) rfl dX10_string_83 ?_
    obtain ⟨hg_86, hf⟩ := op_if hf
    refine va_iald (f := u0.2 0) hx hb hK hP 1 0 rfl rfl (inb_in hg_86) dX10_string_86 ?_
    refine lv_bipush (v := 34) hx hb dX10_string_87 (by decide) ?_
    refine lv_icmp_ne (tgt := 96) hx hb dX10_string_89 (by decide) (fun c_89 => ?_) (fun c_89 => ?_)
    · have hf := op_neg c_89 hf
      exact b_X10_string_L96 l D cy h0 a0 fu out C hA hK u0 hf _ _ ls hP hD hS (lv_sub hl [0] rfl)
    · have hf := op_pos c_89 hf
      refine lv_iconst (v := 4) hx hb dX10_string_92 (by decide) ?_
      refine lv_goto (tgt := 98) hx hb dX10_string_93 (by decide) ?_
      exact b_X10_string_L98 l D cy h0 a0 fu out C hA hK u0 4 hf _ _ ls hP hD hS (lv_sub hl [0] rfl)
def f_X10_string_L0  (fu : Nat)  : Nat → St → Option (St)
  | 0, _ => none
  | n_0 + 1, u0 => if (u0.1 34) ≤ (u0.1 35) then (f_X10_string_L66 fu u0) else (if inb (u0.1 35) 1500 = true then (if (u0.2 0 (u0.1 35).toNatClampNeg) < 32 then (f_X10_string_L66 fu u0) else (if inb (u0.1 35) 1500 = true then (if 126 < (u0.2 0 (u0.1 35).toNatClampNeg) then (f_X10_string_L66 fu u0) else (if inb (u0.1 35) 1500 = true then (if (u0.2 0 (u0.1 35).toNatClampNeg) = 34 then (f_X10_string_L66 fu u0) else (f_X10_string_L0 fu n_0 (sF u0 35 ((u0.1 35) + 1)))) else none)) else none)) else none)
set_option maxHeartbeats 4000000 in
set_option maxRecDepth 100000 in
theorem b_X10_string_L0 {p : Program} {e : Env} {s : State} {m : MethodId} {args : Array Value} {below : List Frame} {meth : Method} {c : Code} {A : Nat → Prop} (l : Launch) (D : va_G) (cy : Nat → ClassId) (h0 : Nat) (a0 : Nat → Nat) (fu : Nat) (out : St) (C : gC p s m args meth c (WS yX10_string cX10_string 1 none) cX10_string 1 none RX10) (hA : ∀ q : Nat, s.heap.size ≤ q → A q) (hK : va_K D vwCl (TY cy) s)  :
    ∀ (n_0 : Nat), ∀ (u0 : St), f_X10_string_L0 fu n_0 u0 = some out → ∀ (H : Heap) (locs : List Loc) (ls : Array Slot), va_P D vwCl (w10 cy h0 a0 u0) H → va_D A (w10 cy h0 a0 u0) → va_S A s.heap H locs → lv_has ls 1 [(0, .ref h0)] → W p l e ({ frames := 0, cells := 0, slots := 0, locals := 0 } : Room) s m args below meth c H locs 0 0 (MQ below (gQv D cy A (w10 cy h0 a0 out)) args s 0 0 A) (F0 m 0 ls []) := by
  obtain ⟨hx, hb, hr, hml, hown, hts, hlk⟩ := id C
  have hown : s.vm.findClass RX10 = some m.cls := hown
  have hk_157 := hts _ (List.mem_cons_of_mem _ fl_RX10_157)
  have hk_154 := hts _ (List.mem_cons_of_mem _ fl_RX10_154)
  have hk_7 := hts _ (List.mem_cons_of_mem _ fl_RX10_7)
  intro n_0
  induction n_0 with
  | zero => intro u0 hf; exact op_no hf
  | succ n_0 ih_0 =>
    intro u0 hf H locs ls hP hD hS hl
    rw [f_X10_string_L0] at hf
    refine lv_aload_n hx hb dX10_string_0 rfl (lv_at hl 0 rfl) ?_
    refine va_get (ci := 9) (v := .int (u0.1 35)) (C := RX10) (T := TX10) (N := 56) hx hb hts (fun w h => List.mem_cons_of_mem _ (inX10 w h)) hown hK hP 0 rfl rfl 35 (by decide) hk_157 (fun _ h9 => h9) rfl dX10_string_1 ?_
    refine lv_aload_n hx hb dX10_string_4 rfl (lv_at hl 0 rfl) ?_
    refine va_get (ci := 9) (v := .int (u0.1 34)) (C := RX10) (T := TX10) (N := 56) hx hb hts (fun w h => List.mem_cons_of_mem _ (inX10 w h)) hown hK hP 0 rfl rfl 34 (by decide) hk_154 (fun _ h9 => h9) rfl dX10_string_5 ?_
    refine lv_icmp_ge (tgt := 66) hx hb dX10_string_8 (by decide) (fun c_8 => ?_) (fun c_8 => ?_)
    · have hf := op_pos c_8 hf
      exact b_X10_string_L66 l D cy h0 a0 fu out C hA hK u0 hf _ _ ls hP hD hS (lv_sub hl [0] rfl)
    · have hf := op_neg c_8 hf
      refine lv_aload_n hx hb dX10_string_11 rfl (lv_at hl 0 rfl) ?_
      refine va_get (ci := 9) (v := .ref (a0 0)) (C := RX10) (T := TX10) (N := 56) hx hb hts (fun w h => List.mem_cons_of_mem _ (inX10 w h)) hown hK hP 0 rfl rfl 0 (by decide) hk_7 (fun _ h9 => h9) rfl dX10_string_12 ?_
      refine lv_aload_n hx hb dX10_string_15 rfl (lv_at hl 0 rfl) ?_
      refine va_get (ci := 9) (v := .int (u0.1 35)) (C := RX10) (T := TX10) (N := 56) hx hb hts (fun w h => List.mem_cons_of_mem _ (inX10 w h)) hown hK hP 0 rfl rfl 35 (by decide) hk_157 (fun _ h9 => h9) rfl dX10_string_16 ?_
      obtain ⟨hg_19, hf⟩ := op_if hf
      refine va_iald (f := u0.2 0) hx hb hK hP 1 0 rfl rfl (inb_in hg_19) dX10_string_19 ?_
      refine lv_bipush (v := 32) hx hb dX10_string_20 (by decide) ?_
      refine lv_icmp_lt (tgt := 66) hx hb dX10_string_22 (by decide) (fun c_22 => ?_) (fun c_22 => ?_)
      · have hf := op_pos c_22 hf
        exact b_X10_string_L66 l D cy h0 a0 fu out C hA hK u0 hf _ _ ls hP hD hS (lv_sub hl [0] rfl)
      · have hf := op_neg c_22 hf
        refine lv_aload_n hx hb dX10_string_25 rfl (lv_at hl 0 rfl) ?_
        refine va_get (ci := 9) (v := .ref (a0 0)) (C := RX10) (T := TX10) (N := 56) hx hb hts (fun w h => List.mem_cons_of_mem _ (inX10 w h)) hown hK hP 0 rfl rfl 0 (by decide) hk_7 (fun _ h9 => h9) rfl dX10_string_26 ?_
        refine lv_aload_n hx hb dX10_string_29 rfl (lv_at hl 0 rfl) ?_
        refine va_get (ci := 9) (v := .int (u0.1 35)) (C := RX10) (T := TX10) (N := 56) hx hb hts (fun w h => List.mem_cons_of_mem _ (inX10 w h)) hown hK hP 0 rfl rfl 35 (by decide) hk_157 (fun _ h9 => h9) rfl dX10_string_30 ?_
        obtain ⟨hg_33, hf⟩ := op_if hf
        refine va_iald (f := u0.2 0) hx hb hK hP 1 0 rfl rfl (inb_in hg_33) dX10_string_33 ?_
        refine lv_bipush (v := 126) hx hb dX10_string_34 (by decide) ?_
        refine lv_icmp_gt (tgt := 66) hx hb dX10_string_36 (by decide) (fun c_36 => ?_) (fun c_36 => ?_)
        · have hf := op_pos c_36 hf
          exact b_X10_string_L66 l D cy h0 a0 fu out C hA hK u0 hf _ _ ls hP hD hS (lv_sub hl [0] rfl)
        · have hf := op_neg c_36 hf
          refine lv_aload_n hx hb dX10_string_39 rfl (lv_at hl 0 rfl) ?_
          refine va_get (ci := 9) (v := .ref (a0 0)) (C := RX10) (T := TX10) (N := 56) hx hb hts (fun w h => List.mem_cons_of_mem _ (inX10 w h)) hown hK hP 0 rfl rfl 0 (by decide) hk_7 (fun _ h9 => h9) rfl dX10_string_40 ?_
          refine lv_aload_n hx hb dX10_string_43 rfl (lv_at hl 0 rfl) ?_
          refine va_get (ci := 9) (v := .int (u0.1 35)) (C := RX10) (T := TX10) (N := 56) hx hb hts (fun w h => List.mem_cons_of_mem _ (inX10 w h)) hown hK hP 0 rfl rfl 35 (by decide) hk_157 (fun _ h9 => h9) rfl dX10_string_44 ?_
          obtain ⟨hg_47, hf⟩ := op_if hf
          refine va_iald (f := u0.2 0) hx hb hK hP 1 0 rfl rfl (inb_in hg_47) dX10_string_47 ?_
          refine lv_bipush (v := 34) hx hb dX10_string_48 (by decide) ?_
          refine lv_icmp_eq (tgt := 66) hx hb dX10_string_50 (by decide) (fun c_50 => ?_) (fun c_50 => ?_)
          · have hf := op_pos c_50 hf
            exact b_X10_string_L66 l D cy h0 a0 fu out C hA hK u0 hf _ _ ls hP hD hS (lv_sub hl [0] rfl)
          · have hf := op_neg c_50 hf
            refine lv_aload_n hx hb dX10_string_53 rfl (lv_at hl 0 rfl) ?_
            refine lv_dup hx hb dX10_string_54 rfl ?_
            refine va_get (ci := 9) (v := .int (u0.1 35)) (C := RX10) (T := TX10) (N := 56) hx hb hts (fun w h => List.mem_cons_of_mem _ (inX10 w h)) hown hK hP 0 rfl rfl 35 (by decide) hk_157 (fun _ h9 => h9) rfl dX10_string_55 ?_
            refine lv_iconst (v := 1) hx hb dX10_string_58 (by decide) ?_
            refine lv_iadd hx hb dX10_string_59 ?_
            refine va_put (ci := 9) (v := .int ((u0.1 35) + 1)) (ty := tyX10 35) (C := RX10) (T := TX10) (N := 56) hx hb hts (fun w h => List.mem_cons_of_mem _ (inX10 w h)) tyX10 tyX10_ok nmX10 hown hK hP hD hS 0 rfl rfl 35 (by decide) hk_157 (fun _ h9 => h9) rfl (tyX10_ok 35 (by decide)) rfl rfl (Nat.le_of_ble_eq_true rfl) dX10_string_60 (fun H locs hP hD hS => ?_)
            have hP : va_P D vwCl (w10 cy h0 a0 (sF u0 35 ((u0.1 35) + 1))) H := pP10_35 hP
            have hD : va_D A (w10 cy h0 a0 (sF u0 35 ((u0.1 35) + 1))) := pD10_35 hD
            refine lv_goto (tgt := 0) hx hb dX10_string_63 (by decide) ?_
            exact ih_0 (sF u0 35 ((u0.1 35) + 1)) hf _ _ ls hP hD hS (lv_sub hl [0] rfl)
def f_X10_string (fu : Nat)  (s0 : St)  : Option (St) := f_X10_string_L0 fu fu s0
theorem hdX10_string : yX10_string.cls = RX10 ∧ yX10_string.cls ≠ "java/lang/invoke/MethodHandle" ∧ yX10_string.cls ≠ "java/lang/invoke/VarHandle" ∧ (parseMethodDescriptor yX10_string.desc).map (fun d => d.parameters.length) = some 0 := by decide +kernel
set_option maxHeartbeats 4000000 in
set_option maxRecDepth 100000 in
theorem c_X10_string (l : Launch) (D : va_G) (cy : Nat → ClassId) (h0 : Nat) (a0 : Nat → Nat) (s0 : St) (sz fu : Nat)  (out : St) (hf : f_X10_string fu s0 = some out) :
    Met l yX10_string (WS yX10_string cX10_string 1 none) ({ frames := 0, cells := 0, slots := 0, locals := 0 } : Room) (va_Pc [.ref h0] (gP D cy sz (w10 cy h0 a0 s0))) ((fun A : Nat → Prop => gQv D cy A (w10 cy h0 a0 out)) (va_A (w10 cy h0 a0 s0) sz)) 0 0 (va_A (w10 cy h0 a0 s0) sz) := by
  refine g_met (cc := cX10_string) (maxL := 1) (ret := none) (fun A : Nat → Prop => gQv D cy A (w10 cy h0 a0 out)) (by decide +kernel) rfl (Nat.le_of_ble_eq_true rfl) ?_
  intro p e s m below meth c A C hA hK hP hD ls hl
  obtain ⟨hx, hb, hr, hml, hown, hts, hlk⟩ := id C
  have hown : s.vm.findClass RX10 = some m.cls := hown
  have hS : va_S A s.heap s.heap [] := va_S.rf
  have hl : lv_has ls 1 [(0, .ref h0)] := hl
  unfold f_X10_string at hf
  exact b_X10_string_L0 l D cy h0 a0 fu out C hA hK fu s0 hf _ _ ls hP hD hS (lv_sub hl [0] rfl)
def f_X10_take_L39 (k_0 : St → Option (St)) (fu : Nat)  (u0 : St) : Option (St) := k_0 (sF u0 35 ((u0.1 35) + 1))
set_option maxHeartbeats 4000000 in
set_option maxRecDepth 100000 in
theorem b_X10_take_L39 {p : Program} {e : Env} {s : State} {m : MethodId} {args : Array Value} {below : List Frame} {meth : Method} {c : Code} {A : Nat → Prop} (l : Launch) (D : va_G) (cy : Nat → ClassId) (h0 : Nat) (a0 : Nat → Nat) (fu : Nat) (out : St) (C : gC p s m args meth c (WS yX10_take cX10_take 2 none) cX10_take 2 none RX10) (hA : ∀ q : Nat, s.heap.size ≤ q → A q) (hK : va_K D vwCl (TY cy) s) (k_0 : St → Option (St)) (hk_0 : ∀ (u0 : St), k_0 u0 = some out → ∀ (H : Heap) (locs : List Loc) (ls : Array Slot), va_P D vwCl (w10 cy h0 a0 u0) H → va_D A (w10 cy h0 a0 u0) → va_S A s.heap H locs → lv_has ls 2 [(0, .ref h0)] → W p l e ({ frames := 1, cells := 0, slots := 0, locals := 27 } : Room) s m args below meth c H locs 0 0 (MQ below (gQv D cy A (w10 cy h0 a0 out)) args s 0 0 A) (F0 m 0 ls [])) :
    ∀ (u0 : St), f_X10_take_L39 k_0 fu u0 = some out → ∀ (H : Heap) (locs : List Loc) (ls : Array Slot), va_P D vwCl (w10 cy h0 a0 u0) H → va_D A (w10 cy h0 a0 u0) → va_S A s.heap H locs → lv_has ls 2 [(0, .ref h0)] → W p l e ({ frames := 1, cells := 0, slots := 0, locals := 27 } : Room) s m args below meth c H locs 0 0 (MQ below (gQv D cy A (w10 cy h0 a0 out)) args s 0 0 A) (F0 m 39 ls []) := by
  obtain ⟨hx, hb, hr, hml, hown, hts, hlk⟩ := id C
  have hown : s.vm.findClass RX10 = some m.cls := hown
  have hk_157 := hts _ (List.mem_cons_of_mem _ fl_RX10_157)
  intro u0 hf H locs ls hP hD hS hl
  unfold f_X10_take_L39 at hf
  refine lv_aload_n hx hb dX10_take_39 rfl (lv_at hl 0 rfl) ?_
  refine lv_dup hx hb dX10_take_40 rfl ?_
  refine va_get (ci := 9) (v := .int (u0.1 35)) (C := RX10) (T := TX10) (N := 56) hx hb hts (fun w h => List.mem_cons_of_mem _ (inX10 w h)) hown hK hP 0 rfl rfl 35 (by decide) hk_157 (fun _ h9 => h9) rfl dX10_take_41 ?_
  refine lv_iconst (v := 1) hx hb dX10_take_44 (by decide) ?_
  refine lv_iadd hx hb dX10_take_45 ?_
  refine va_put (ci := 9) (v := .int ((u0.1 35) + 1)) (ty := tyX10 35) (C := RX10) (T := TX10) (N := 56) hx hb hts (fun w h => List.mem_cons_of_mem _ (inX10 w h)) tyX10 tyX10_ok nmX10 hown hK hP hD hS 0 rfl rfl 35 (by decide) hk_157 (fun _ h9 => h9) rfl (tyX10_ok 35 (by decide)) rfl rfl (Nat.le_of_ble_eq_true rfl) dX10_take_46 (fun H locs hP hD hS => ?_)
  have hP : va_P D vwCl (w10 cy h0 a0 (sF u0 35 ((u0.1 35) + 1))) H := pP10_35 hP
  have hD : va_D A (w10 cy h0 a0 (sF u0 35 ((u0.1 35) + 1))) := pD10_35 hD
  refine lv_goto (tgt := 0) hx hb dX10_take_49 (by decide) ?_
  exact hk_0 (sF u0 35 ((u0.1 35) + 1)) hf _ _ ls hP hD hS (lv_sub hl [0] rfl)
def f_X10_take_L144  (fu : Nat)  (u0 : St) (t0 : Int32) : Option (St) := some (sF u0 36 t0)
set_option maxHeartbeats 4000000 in
set_option maxRecDepth 100000 in
theorem b_X10_take_L144 {p : Program} {e : Env} {s : State} {m : MethodId} {args : Array Value} {below : List Frame} {meth : Method} {c : Code} {A : Nat → Prop} (l : Launch) (D : va_G) (cy : Nat → ClassId) (h0 : Nat) (a0 : Nat → Nat) (fu : Nat) (out : St) (C : gC p s m args meth c (WS yX10_take cX10_take 2 none) cX10_take 2 none RX10) (hA : ∀ q : Nat, s.heap.size ≤ q → A q) (hK : va_K D vwCl (TY cy) s)  :
    ∀ (u0 : St) (t0 : Int32), f_X10_take_L144 fu u0 t0 = some out → ∀ (H : Heap) (locs : List Loc) (ls : Array Slot), va_P D vwCl (w10 cy h0 a0 u0) H → va_D A (w10 cy h0 a0 u0) → va_S A s.heap H locs → lv_has ls 2 [] → W p l e ({ frames := 1, cells := 0, slots := 0, locals := 27 } : Room) s m args below meth c H locs 0 0 (MQ below (gQv D cy A (w10 cy h0 a0 out)) args s 0 0 A) (F0 m 144 ls [.int t0, .ref h0]) := by
  obtain ⟨hx, hb, hr, hml, hown, hts, hlk⟩ := id C
  have hown : s.vm.findClass RX10 = some m.cls := hown
  have hk_163 := hts _ (List.mem_cons_of_mem _ fl_RX10_163)
  intro u0 t0 hf H locs ls hP hD hS hl
  unfold f_X10_take_L144 at hf
  refine va_put (ci := 9) (v := .int t0) (ty := tyX10 36) (C := RX10) (T := TX10) (N := 56) hx hb hts (fun w h => List.mem_cons_of_mem _ (inX10 w h)) tyX10 tyX10_ok nmX10 hown hK hP hD hS 0 rfl rfl 36 (by decide) hk_163 (fun _ h9 => h9) rfl (tyX10_ok 36 (by decide)) rfl rfl (Nat.le_of_ble_eq_true rfl) dX10_take_144 (fun H locs hP hD hS => ?_)
  have hP : va_P D vwCl (w10 cy h0 a0 (sF u0 36 t0)) H := pP10_36 hP
  have hD : va_D A (w10 cy h0 a0 (sF u0 36 t0)) := pD10_36 hD
  refine lv_goto (tgt := 305) hx hb dX10_take_147 (by decide) ?_
  rw [← Option.some.inj hf]
  exact g_vret hx hb hr hlk hK hP hD hS dX10_take_305
def f_X10_take_L90  (fu : Nat)  : Nat → St → Option (St)
  | 0, _ => none
  | n_90 + 1, u0 => (f_X10_isSmall fu u0 (u0.1 35)).bind (fun q_95 => if q_95 = 0 then ((f_X10_wordAt fu u0 (u0.1 38) (u0.1 35)).bind (fun q_124 => if 0 ≤ q_124 then (f_X10_take_L144 fu (sF u0 37 q_124) 1) else (f_X10_take_L144 fu (sF u0 37 q_124) 6))) else (f_X10_take_L90 fu n_90 (sF u0 35 ((u0.1 35) + 1))))
set_option maxHeartbeats 4000000 in
set_option maxRecDepth 100000 in
theorem b_X10_take_L90 {p : Program} {e : Env} {s : State} {m : MethodId} {args : Array Value} {below : List Frame} {meth : Method} {c : Code} {A : Nat → Prop} (l : Launch) (D : va_G) (cy : Nat → ClassId) (h0 : Nat) (a0 : Nat → Nat) (fu : Nat) (out : St) (C : gC p s m args meth c (WS yX10_take cX10_take 2 none) cX10_take 2 none RX10) (hA : ∀ q : Nat, s.heap.size ≤ q → A q) (hK : va_K D vwCl (TY cy) s)  :
    ∀ (n_90 : Nat), ∀ (u0 : St), f_X10_take_L90 fu n_90 u0 = some out → ∀ (H : Heap) (locs : List Loc) (ls : Array Slot), va_P D vwCl (w10 cy h0 a0 u0) H → va_D A (w10 cy h0 a0 u0) → va_S A s.heap H locs → lv_has ls 2 [(0, .ref h0)] → W p l e ({ frames := 1, cells := 0, slots := 0, locals := 27 } : Room) s m args below meth c H locs 0 0 (MQ below (gQv D cy A (w10 cy h0 a0 out)) args s 0 0 A) (F0 m 90 ls []) := by
  obtain ⟨hx, hb, hr, hml, hown, hts, hlk⟩ := id C
  have hown : s.vm.findClass RX10 = some m.cls := hown
  have hk_157 := hts _ (List.mem_cons_of_mem _ fl_RX10_157)
  have hk_160 := hts _ (List.mem_cons_of_mem _ fl_RX10_160)
  have hk_173 := hts _ (List.mem_cons_of_mem _ fl_RX10_173)
  intro n_90
  induction n_90 with
  | zero => intro u0 hf; exact op_no hf
  | succ n_90 ih_90 =>
    intro u0 hf H locs ls hP hD hS hl
    rw [f_X10_take_L90] at hf
    refine lv_aload_n hx hb dX10_take_90 rfl (lv_at hl 0 rfl) ?_
    refine lv_aload_n hx hb dX10_take_91 rfl (lv_at hl 0 rfl) ?_
    refine va_get (ci := 9) (v := .int (u0.1 35)) (C := RX10) (T := TX10) (N := 56) hx hb hts (fun w h => List.mem_cons_of_mem _ (inX10 w h)) hown hK hP 0 rfl rfl 35 (by decide) hk_157 (fun _ h9 => h9) rfl dX10_take_92 ?_
    obtain ⟨q_95, hc_95, hf⟩ := op_bind hf
    refine g_callVi (As := [.int (u0.1 35)]) (rest := []) (w2 := w10 cy h0 a0 u0) ⟨hx, hb, hml, hown, hts⟩ (c_X10_isSmall l D cy h0 a0 u0 _ fu (u0.1 35) _ hc_95) (cwV 1 hts (gi_V ml_RX10_166 im_X10_isSmall se_X10_isSmall in_RX10 cd_X10_isSmall) rfl rfl rfl hdX10_isSmall ⟨Nat.le_of_ble_eq_true rfl, Nat.le_of_ble_eq_true rfl⟩) (va_recv hK hP (ci := 9) (q0 := 0) rfl rfl) rfl hl.1 rfl (Nat.le_of_ble_eq_true rfl) dX10_take_95 hK hP hD hS hA [0, 1, 2, 3, 4, 5, 6, 7, 8, 9, 10, 11, 12, 13, 14, 15, 16, 17, 18, 19, 20, 21, 22, 23, 24, 25, 26, 27, 28, 29] [] [0, 1, 2, 3, 4, 5, 6, 7, 8, 9, 10, 11, 12, 13, 14, 15, 16, 17, 18, 19, 20, 21, 22, 23, 24, 25, 26, 27, 28, 29] rfl rfl rfl rfl (by decide) rfl rfl (fun H locs hP hD hS => ?_)
    refine lv_if_eq (tgt := 114) hx hb dX10_take_98 (by decide) (fun c_98 => ?_) (fun c_98 => ?_)
    · have hf := op_pos c_98 hf
      refine lv_aload_n hx hb dX10_take_114 rfl (lv_at hl 0 rfl) ?_
      refine lv_aload_n hx hb dX10_take_115 rfl (lv_at hl 0 rfl) ?_
      refine lv_aload_n hx hb dX10_take_116 rfl (lv_at hl 0 rfl) ?_
      refine va_get (ci := 9) (v := .int (u0.1 38)) (C := RX10) (T := TX10) (N := 56) hx hb hts (fun w h => List.mem_cons_of_mem _ (inX10 w h)) hown hK hP 0 rfl rfl 38 (by decide) hk_160 (fun _ h9 => h9) rfl dX10_take_117 ?_
      refine lv_aload_n hx hb dX10_take_120 rfl (lv_at hl 0 rfl) ?_
      refine va_get (ci := 9) (v := .int (u0.1 35)) (C := RX10) (T := TX10) (N := 56) hx hb hts (fun w h => List.mem_cons_of_mem _ (inX10 w h)) hown hK hP 0 rfl rfl 35 (by decide) hk_157 (fun _ h9 => h9) rfl dX10_take_121 ?_
      obtain ⟨q_124, hc_124, hf⟩ := op_bind hf
      refine g_callVi (As := [.int (u0.1 38), .int (u0.1 35)]) (rest := [.ref h0]) (w2 := w10 cy h0 a0 u0) ⟨hx, hb, hml, hown, hts⟩ (c_X10_wordAt l D cy h0 a0 u0 _ fu (u0.1 38) (u0.1 35) _ hc_124) (cwV 2 hts (gi_V ml_RX10_170 im_X10_wordAt se_X10_wordAt in_RX10 cd_X10_wordAt) rfl rfl rfl hdX10_wordAt ⟨Nat.le_of_ble_eq_true rfl, Nat.le_of_ble_eq_true rfl⟩) (va_recv hK hP (ci := 9) (q0 := 0) rfl rfl) rfl hl.1 rfl (Nat.le_of_ble_eq_true rfl) dX10_take_124 hK hP hD hS hA [0, 1, 2, 3, 4, 5, 6, 7, 8, 9, 10, 11, 12, 13, 14, 15, 16, 17, 18, 19, 20, 21, 22, 23, 24, 25, 26, 27, 28, 29] [] [0, 1, 2, 3, 4, 5, 6, 7, 8, 9, 10, 11, 12, 13, 14, 15, 16, 17, 18, 19, 20, 21, 22, 23, 24, 25, 26, 27, 28, 29] rfl rfl rfl rfl (by decide) rfl rfl (fun H locs hP hD hS => ?_)
      refine va_put (ci := 9) (v := .int q_124) (ty := tyX10 37) (C := RX10) (T := TX10) (N := 56) hx hb hts (fun w h => List.mem_cons_of_mem _ (inX10 w h)) tyX10 tyX10_ok nmX10 hown hK hP hD hS 0 rfl rfl 37 (by decide) hk_173 (fun _ h9 => h9) rfl (tyX10_ok 37 (by decide)) rfl rfl (Nat.le_of_ble_eq_true rfl) dX10_take_127 (fun H locs hP hD hS => ?_)
      have hP : va_P D vwCl (w10 cy h0 a0 (sF u0 37 q_124)) H := pP10_37 hP
      have hD : va_D A (w10 cy h0 a0 (sF u0 37 q_124)) := pD10_37 hD
      refine lv_aload_n hx hb dX10_take_130 rfl (lv_at hl 0 rfl) ?_
      refine lv_aload_n hx hb dX10_take_131 rfl (lv_at hl 0 rfl) ?_
      refine va_get (ci := 9) (v := .int q_124) (C := RX10) (T := TX10) (N := 56) hx hb hts (fun w h => List.mem_cons_of_mem _ (inX10 w h)) hown hK hP 0 rfl rfl 37 (by decide) hk_173 (fun _ h9 => h9) rfl dX10_take_132 ?_
      refine lv_if_ge (tgt := 143) hx hb dX10_take_135 (by decide) (fun c_135 => ?_) (fun c_135 => ?_)
      · have hf := op_pos c_135 hf
        refine lv_iconst (v := 1) hx hb dX10_take_143 (by decide) ?_
        exact b_X10_take_L144 l D cy h0 a0 fu out C hA hK (sF u0 37 q_124) 1 hf _ _ ls hP hD hS (lv_sub hl [] rfl)
      · have hf := op_neg c_135 hf
        refine lv_bipush (v := 6) hx hb dX10_take_138 (by decide) ?_
        refine lv_goto (tgt := 144) hx hb dX10_take_140 (by decide) ?_
        exact b_X10_take_L144 l D cy h0 a0 fu out C hA hK (sF u0 37 q_124) 6 hf _ _ ls hP hD hS (lv_sub hl [] rfl)
    · have hf := op_neg c_98 hf
      refine lv_aload_n hx hb dX10_take_101 rfl (lv_at hl 0 rfl) ?_
      refine lv_dup hx hb dX10_take_102 rfl ?_
      refine va_get (ci := 9) (v := .int (u0.1 35)) (C := RX10) (T := TX10) (N := 56) hx hb hts (fun w h => List.mem_cons_of_mem _ (inX10 w h)) hown hK hP 0 rfl rfl 35 (by decide) hk_157 (fun _ h9 => h9) rfl dX10_take_103 ?_
      refine lv_iconst (v := 1) hx hb dX10_take_106 (by decide) ?_
      refine lv_iadd hx hb dX10_take_107 ?_
      refine va_put (ci := 9) (v := .int ((u0.1 35) + 1)) (ty := tyX10 35) (C := RX10) (T := TX10) (N := 56) hx hb hts (fun w h => List.mem_cons_of_mem _ (inX10 w h)) tyX10 tyX10_ok nmX10 hown hK hP hD hS 0 rfl rfl 35 (by decide) hk_157 (fun _ h9 => h9) rfl (tyX10_ok 35 (by decide)) rfl rfl (Nat.le_of_ble_eq_true rfl) dX10_take_108 (fun H locs hP hD hS => ?_)
      have hP : va_P D vwCl (w10 cy h0 a0 (sF u0 35 ((u0.1 35) + 1))) H := pP10_35 hP
      have hD : va_D A (w10 cy h0 a0 (sF u0 35 ((u0.1 35) + 1))) := pD10_35 hD
      refine lv_goto (tgt := 90) hx hb dX10_take_111 (by decide) ?_
      exact ih_90 (sF u0 35 ((u0.1 35) + 1)) hf _ _ ls hP hD hS (lv_sub hl [0] rfl)
def f_X10_take_L219 (k_171 : St → Option (St)) (fu : Nat)  (u0 : St) (t0 : Int32) : Option (St) := k_171 (sF (sF u0 37 t0) 35 ((u0.1 35) + 1))
set_option maxHeartbeats 4000000 in
set_option maxRecDepth 100000 in
theorem b_X10_take_L219 {p : Program} {e : Env} {s : State} {m : MethodId} {args : Array Value} {below : List Frame} {meth : Method} {c : Code} {A : Nat → Prop} (l : Launch) (D : va_G) (cy : Nat → ClassId) (h0 : Nat) (a0 : Nat → Nat) (fu : Nat) (out : St) (C : gC p s m args meth c (WS yX10_take cX10_take 2 none) cX10_take 2 none RX10) (hA : ∀ q : Nat, s.heap.size ≤ q → A q) (hK : va_K D vwCl (TY cy) s) (k_171 : St → Option (St)) (hk_171 : ∀ (u0 : St), k_171 u0 = some out → ∀ (H : Heap) (locs : List Loc) (ls : Array Slot), va_P D vwCl (w10 cy h0 a0 u0) H → va_D A (w10 cy h0 a0 u0) → va_S A s.heap H locs → lv_has ls 2 [(0, .ref h0)] → W p l e ({ frames := 1, cells := 0, slots := 0, locals := 27 } : Room) s m args below meth c H locs 0 0 (MQ below (gQv D cy A (w10 cy h0 a0 out)) args s 0 0 A) (F0 m 171 ls [])) :
    ∀ (u0 : St) (t0 : Int32), f_X10_take_L219 k_171 fu u0 t0 = some out → ∀ (H : Heap) (locs : List Loc) (ls : Array Slot), va_P D vwCl (w10 cy h0 a0 u0) H → va_D A (w10 cy h0 a0 u0) → va_S A s.heap H locs → lv_has ls 2 [(0, .ref h0)] → W p l e ({ frames := 1, cells := 0, slots := 0, locals := 27 } : Room) s m args below meth c H locs 0 0 (MQ below (gQv D cy A (w10 cy h0 a0 out)) args s 0 0 A) (F0 m 219 ls [.int t0, .ref h0]) := by
  obtain ⟨hx, hb, hr, hml, hown, hts, hlk⟩ := id C
  have hown : s.vm.findClass RX10 = some m.cls := hown
  have hk_173 := hts _ (List.mem_cons_of_mem _ fl_RX10_173)
  have hk_157 := hts _ (List.mem_cons_of_mem _ fl_RX10_157)
  intro u0 t0 hf H locs ls hP hD hS hl
  unfold f_X10_take_L219 at hf
  refine va_put (ci := 9) (v := .int t0) (ty := tyX10 37) (C := RX10) (T := TX10) (N := 56) hx hb hts (fun w h => List.mem_cons_of_mem _ (inX10 w h)) tyX10 tyX10_ok nmX10 hown hK hP hD hS 0 rfl rfl 37 (by decide) hk_173 (fun _ h9 => h9) rfl (tyX10_ok 37 (by decide)) rfl rfl (Nat.le_of_ble_eq_true rfl) dX10_take_219 (fun H locs hP hD hS => ?_)
  have hP : va_P D vwCl (w10 cy h0 a0 (sF u0 37 t0)) H := pP10_37 hP
  have hD : va_D A (w10 cy h0 a0 (sF u0 37 t0)) := pD10_37 hD
  refine lv_aload_n hx hb dX10_take_222 rfl (lv_at hl 0 rfl) ?_
  refine lv_dup hx hb dX10_take_223 rfl ?_
  refine va_get (ci := 9) (v := .int (u0.1 35)) (C := RX10) (T := TX10) (N := 56) hx hb hts (fun w h => List.mem_cons_of_mem _ (inX10 w h)) hown hK hP 0 rfl rfl 35 (by decide) hk_157 (fun _ h9 => h9) rfl dX10_take_224 ?_
  refine lv_iconst (v := 1) hx hb dX10_take_227 (by decide) ?_
  refine lv_iadd hx hb dX10_take_228 ?_
  refine va_put (ci := 9) (v := .int ((u0.1 35) + 1)) (ty := tyX10 35) (C := RX10) (T := TX10) (N := 56) hx hb hts (fun w h => List.mem_cons_of_mem _ (inX10 w h)) tyX10 tyX10_ok nmX10 hown hK hP hD hS 0 rfl rfl 35 (by decide) hk_157 (fun _ h9 => h9) rfl (tyX10_ok 35 (by decide)) rfl rfl (Nat.le_of_ble_eq_true rfl) dX10_take_229 (fun H locs hP hD hS => ?_)
  have hP : va_P D vwCl (w10 cy h0 a0 (sF (sF u0 37 t0) 35 ((u0.1 35) + 1))) H := pP10_35 hP
  have hD : va_D A (w10 cy h0 a0 (sF (sF u0 37 t0) 35 ((u0.1 35) + 1))) := pD10_35 hD
  refine lv_goto (tgt := 171) hx hb dX10_take_232 (by decide) ?_
  exact hk_171 (sF (sF u0 37 t0) 35 ((u0.1 35) + 1)) hf _ _ ls hP hD hS (lv_sub hl [0] rfl)
def f_X10_take_L171  (fu : Nat)  : Nat → St → Option (St)
  | 0, _ => none
  | n_171 + 1, u0 => (f_X10_isDigit fu u0 (u0.1 35)).bind (fun q_176 => if q_176 = 0 then (some u0) else (if (u0.1 37) ≤ 99999 then (if inb (u0.1 35) 1500 = true then (f_X10_take_L219 (f_X10_take_L171 fu n_171) fu u0 (((10 * (u0.1 37)) + (u0.2 0 (u0.1 35).toNatClampNeg)) - 48)) else none) else (f_X10_take_L219 (f_X10_take_L171 fu n_171) fu u0 (u0.1 37))))
set_option maxHeartbeats 4000000 in
set_option maxRecDepth 100000 in
theorem b_X10_take_L171 {p : Program} {e : Env} {s : State} {m : MethodId} {args : Array Value} {below : List Frame} {meth : Method} {c : Code} {A : Nat → Prop} (l : Launch) (D : va_G) (cy : Nat → ClassId) (h0 : Nat) (a0 : Nat → Nat) (fu : Nat) (out : St) (C : gC p s m args meth c (WS yX10_take cX10_take 2 none) cX10_take 2 none RX10) (hA : ∀ q : Nat, s.heap.size ≤ q → A q) (hK : va_K D vwCl (TY cy) s)  :
    ∀ (n_171 : Nat), ∀ (u0 : St), f_X10_take_L171 fu n_171 u0 = some out → ∀ (H : Heap) (locs : List Loc) (ls : Array Slot), va_P D vwCl (w10 cy h0 a0 u0) H → va_D A (w10 cy h0 a0 u0) → va_S A s.heap H locs → lv_has ls 2 [(0, .ref h0)] → W p l e ({ frames := 1, cells := 0, slots := 0, locals := 27 } : Room) s m args below meth c H locs 0 0 (MQ below (gQv D cy A (w10 cy h0 a0 out)) args s 0 0 A) (F0 m 171 ls []) := by
  obtain ⟨hx, hb, hr, hml, hown, hts, hlk⟩ := id C
  have hown : s.vm.findClass RX10 = some m.cls := hown
  have hk_157 := hts _ (List.mem_cons_of_mem _ fl_RX10_157)
  have hk_173 := hts _ (List.mem_cons_of_mem _ fl_RX10_173)
  have hcn_179 := hts _ (List.mem_cons_of_mem _ cn_RX10_179)
  have hk_7 := hts _ (List.mem_cons_of_mem _ fl_RX10_7)
  intro n_171
  induction n_171 with
  | zero => intro u0 hf; exact op_no hf
  | succ n_171 ih_171 =>
    intro u0 hf H locs ls hP hD hS hl
    rw [f_X10_take_L171] at hf
    refine lv_aload_n hx hb dX10_take_171 rfl (lv_at hl 0 rfl) ?_
    refine lv_aload_n hx hb dX10_take_172 rfl (lv_at hl 0 rfl) ?_
    refine va_get (ci := 9) (v := .int (u0.1 35)) (C := RX10) (T := TX10) (N := 56) hx hb hts (fun w h => List.mem_cons_of_mem _ (inX10 w h)) hown hK hP 0 rfl rfl 35 (by decide) hk_157 (fun _ h9 => h9) rfl dX10_take_173 ?_
    obtain ⟨q_176, hc_176, hf⟩ := op_bind hf
    refine g_callVi (As := [.int (u0.1 35)]) (rest := []) (w2 := w10 cy h0 a0 u0) ⟨hx, hb, hml, hown, hts⟩ (c_X10_isDigit l D cy h0 a0 u0 _ fu (u0.1 35) _ hc_176) (cwV 1 hts (gi_V ml_RX10_176 im_X10_isDigit se_X10_isDigit in_RX10 cd_X10_isDigit) rfl rfl rfl hdX10_isDigit ⟨Nat.le_of_ble_eq_true rfl, Nat.le_of_ble_eq_true rfl⟩) (va_recv hK hP (ci := 9) (q0 := 0) rfl rfl) rfl hl.1 rfl (Nat.le_of_ble_eq_true rfl) dX10_take_176 hK hP hD hS hA [0, 1, 2, 3, 4, 5, 6, 7, 8, 9, 10, 11, 12, 13, 14, 15, 16, 17, 18, 19, 20, 21, 22, 23, 24, 25, 26, 27, 28, 29] [] [0, 1, 2, 3, 4, 5, 6, 7, 8, 9, 10, 11, 12, 13, 14, 15, 16, 17, 18, 19, 20, 21, 22, 23, 24, 25, 26, 27, 28, 29] rfl rfl rfl rfl (by decide) rfl rfl (fun H locs hP hD hS => ?_)
    refine lv_if_eq (tgt := 305) hx hb dX10_take_179 (by decide) (fun c_179 => ?_) (fun c_179 => ?_)
    · have hf := op_pos c_179 hf
      rw [← Option.some.inj hf]
      exact g_vret hx hb hr hlk hK hP hD hS dX10_take_305
    · have hf := op_neg c_179 hf
      refine lv_aload_n hx hb dX10_take_182 rfl (lv_at hl 0 rfl) ?_
      refine lv_aload_n hx hb dX10_take_183 rfl (lv_at hl 0 rfl) ?_
      refine va_get (ci := 9) (v := .int (u0.1 37)) (C := RX10) (T := TX10) (N := 56) hx hb hts (fun w h => List.mem_cons_of_mem _ (inX10 w h)) hown hK hP 0 rfl rfl 37 (by decide) hk_173 (fun _ h9 => h9) rfl dX10_take_184 ?_
      refine lv_ldc (v := 99999) hx hb hown hcn_179 dX10_take_187 ?_
      refine lv_icmp_le (tgt := 199) hx hb dX10_take_189 (by decide) (fun c_189 => ?_) (fun c_189 => ?_)
      · have hf := op_pos c_189 hf
        refine lv_bipush (v := 10) hx hb dX10_take_199 (by decide) ?_
        refine lv_aload_n hx hb dX10_take_201 rfl (lv_at hl 0 rfl) ?_
        refine va_get (ci := 9) (v := .int (u0.1 37)) (C := RX10) (T := TX10) (N := 56) hx hb hts (fun w h => List.mem_cons_of_mem _ (inX10 w h)) hown hK hP 0 rfl rfl 37 (by decide) hk_173 (fun _ h9 => h9) rfl dX10_take_202 ?_
        refine lv_imul hx hb dX10_take_205 ?_
        refine lv_aload_n hx hb dX10_take_206 rfl (lv_at hl 0 rfl) ?_
        refine va_get (ci := 9) (v := .ref (a0 0)) (C := RX10) (T := TX10) (N := 56) hx hb hts (fun w h => List.mem_cons_of_mem _ (inX10 w h)) hown hK hP 0 rfl rfl 0 (by decide) hk_7 (fun _ h9 => h9) rfl dX10_take_207 ?_
        refine lv_aload_n hx hb dX10_take_210 rfl (lv_at hl 0 rfl) ?_
        refine va_get (ci := 9) (v := .int (u0.1 35)) (C := RX10) (T := TX10) (N := 56) hx hb hts (fun w h => List.mem_cons_of_mem _ (inX10 w h)) hown hK hP 0 rfl rfl 35 (by decide) hk_157 (fun _ h9 => h9) rfl dX10_take_211 ?_
        obtain ⟨hg_214, hf⟩ := op_if hf
        refine va_iald (f := u0.2 0) hx hb hK hP 1 0 rfl rfl (inb_in hg_214) dX10_take_214 ?_
        refine lv_iadd hx hb dX10_take_215 ?_
        refine lv_bipush (v := 48) hx hb dX10_take_216 (by decide) ?_
        refine lv_isub hx hb dX10_take_218 ?_
        exact b_X10_take_L219 l D cy h0 a0 fu out C hA hK (f_X10_take_L171 fu n_171) ih_171 u0 (((10 * (u0.1 37)) + (u0.2 0 (u0.1 35).toNatClampNeg)) - 48) hf _ _ ls hP hD hS (lv_sub hl [0] rfl)
      · have hf := op_neg c_189 hf
        refine lv_aload_n hx hb dX10_take_192 rfl (lv_at hl 0 rfl) ?_
        refine va_get (ci := 9) (v := .int (u0.1 37)) (C := RX10) (T := TX10) (N := 56) hx hb hts (fun w h => List.mem_cons_of_mem _ (inX10 w h)) hown hK hP 0 rfl rfl 37 (by decide) hk_173 (fun _ h9 => h9) rfl dX10_take_193 ?_
        refine lv_goto (tgt := 219) hx hb dX10_take_196 (by decide) ?_
        exact b_X10_take_L219 l D cy h0 a0 fu out C hA hK (f_X10_take_L171 fu n_171) ih_171 u0 (u0.1 37) hf _ _ ls hP hD hS (lv_sub hl [0] rfl)
def f_X10_take_L292  (fu : Nat)  (u0 : St) (x1 : Int32) (t0 : Int32) : Option (St) := if x1 = 34 then ((f_X10_string fu (sF u0 36 t0)).bind (fun q_302 => some q_302)) else (some (sF u0 36 t0))
set_option maxHeartbeats 4000000 in
set_option maxRecDepth 100000 in
theorem b_X10_take_L292 {p : Program} {e : Env} {s : State} {m : MethodId} {args : Array Value} {below : List Frame} {meth : Method} {c : Code} {A : Nat → Prop} (l : Launch) (D : va_G) (cy : Nat → ClassId) (h0 : Nat) (a0 : Nat → Nat) (fu : Nat) (out : St) (C : gC p s m args meth c (WS yX10_take cX10_take 2 none) cX10_take 2 none RX10) (hA : ∀ q : Nat, s.heap.size ≤ q → A q) (hK : va_K D vwCl (TY cy) s)  :
    ∀ (u0 : St) (x1 : Int32) (t0 : Int32), f_X10_take_L292 fu u0 x1 t0 = some out → ∀ (H : Heap) (locs : List Loc) (ls : Array Slot), va_P D vwCl (w10 cy h0 a0 u0) H → va_D A (w10 cy h0 a0 u0) → va_S A s.heap H locs → lv_has ls 2 [(0, .ref h0), (1, .int x1)] → W p l e ({ frames := 1, cells := 0, slots := 0, locals := 27 } : Room) s m args below meth c H locs 0 0 (MQ below (gQv D cy A (w10 cy h0 a0 out)) args s 0 0 A) (F0 m 292 ls [.int t0, .ref h0]) := by
  obtain ⟨hx, hb, hr, hml, hown, hts, hlk⟩ := id C
  have hown : s.vm.findClass RX10 = some m.cls := hown
  have hk_163 := hts _ (List.mem_cons_of_mem _ fl_RX10_163)
  intro u0 x1 t0 hf H locs ls hP hD hS hl
  unfold f_X10_take_L292 at hf
  refine va_put (ci := 9) (v := .int t0) (ty := tyX10 36) (C := RX10) (T := TX10) (N := 56) hx hb hts (fun w h => List.mem_cons_of_mem _ (inX10 w h)) tyX10 tyX10_ok nmX10 hown hK hP hD hS 0 rfl rfl 36 (by decide) hk_163 (fun _ h9 => h9) rfl (tyX10_ok 36 (by decide)) rfl rfl (Nat.le_of_ble_eq_true rfl) dX10_take_292 (fun H locs hP hD hS => ?_)
  have hP : va_P D vwCl (w10 cy h0 a0 (sF u0 36 t0)) H := pP10_36 hP
  have hD : va_D A (w10 cy h0 a0 (sF u0 36 t0)) := pD10_36 hD
  refine lv_iload_n hx hb dX10_take_295 rfl (lv_at hl 1 rfl) ?_
  refine lv_bipush (v := 34) hx hb dX10_take_296 (by decide) ?_
  refine lv_icmp_ne (tgt := 305) hx hb dX10_take_298 (by decide) (fun c_298 => ?_) (fun c_298 => ?_)
  · have hf := op_neg c_298 hf
    rw [← Option.some.inj hf]
    exact g_vret hx hb hr hlk hK hP hD hS dX10_take_305
  · have hf := op_pos c_298 hf
    refine lv_aload_n hx hb dX10_take_301 rfl (lv_at hl 0 rfl) ?_
    obtain ⟨q_302, hc_302, hf⟩ := op_bind hf
    refine g_callVv (As := []) (rest := []) (w2 := w10 cy h0 a0 q_302) ⟨hx, hb, hml, hown, hts⟩ (c_X10_string l D cy h0 a0 (sF u0 36 t0) _ fu _ hc_302) (cwV 0 hts (gi_V ml_RX10_180 im_X10_string se_X10_string in_RX10 cd_X10_string) rfl rfl rfl hdX10_string ⟨Nat.le_of_ble_eq_true rfl, Nat.le_of_ble_eq_true rfl⟩) (va_recv hK hP (ci := 9) (q0 := 0) rfl rfl) rfl hl.1 rfl (Nat.le_of_ble_eq_true rfl) dX10_take_302 hK hP hD hS hA [0, 1, 2, 3, 4, 5, 6, 7, 8, 9, 10, 11, 12, 13, 14, 15, 16, 17, 18, 19, 20, 21, 22, 23, 24, 25, 26, 27, 28, 29] [] [0, 1, 2, 3, 4, 5, 6, 7, 8, 9, 10, 11, 12, 13, 14, 15, 16, 17, 18, 19, 20, 21, 22, 23, 24, 25, 26, 27, 28, 29] rfl rfl rfl rfl (by decide) rfl rfl (fun H locs hP hD hS => ?_)
    rw [← Option.some.inj hf]
    exact g_vret hx hb hr hlk hK hP hD hS dX10_take_305
def f_X10_take_L280  (fu : Nat)  (u0 : St) (x1 : Int32) : Option (St) := if x1 = 59 then (f_X10_take_L292 fu u0 x1 5) else (f_X10_take_L292 fu u0 x1 6)
set_option maxHeartbeats 4000000 in
set_option maxRecDepth 100000 in
theorem b_X10_take_L280 {p : Program} {e : Env} {s : State} {m : MethodId} {args : Array Value} {below : List Frame} {meth : Method} {c : Code} {A : Nat → Prop} (l : Launch) (D : va_G) (cy : Nat → ClassId) (h0 : Nat) (a0 : Nat → Nat) (fu : Nat) (out : St) (C : gC p s m args meth c (WS yX10_take cX10_take 2 none) cX10_take 2 none RX10) (hA : ∀ q : Nat, s.heap.size ≤ q → A q) (hK : va_K D vwCl (TY cy) s)  :
    ∀ (u0 : St) (x1 : Int32), f_X10_take_L280 fu u0 x1 = some out → ∀ (H : Heap) (locs : List Loc) (ls : Array Slot), va_P D vwCl (w10 cy h0 a0 u0) H → va_D A (w10 cy h0 a0 u0) → va_S A s.heap H locs → lv_has ls 2 [(0, .ref h0), (1, .int x1)] → W p l e ({ frames := 1, cells := 0, slots := 0, locals := 27 } : Room) s m args below meth c H locs 0 0 (MQ below (gQv D cy A (w10 cy h0 a0 out)) args s 0 0 A) (F0 m 280 ls [.ref h0]) := by
  obtain ⟨hx, hb, hr, hml, hown, hts, hlk⟩ := id C
  have hown : s.vm.findClass RX10 = some m.cls := hown
  intro u0 x1 hf H locs ls hP hD hS hl
  unfold f_X10_take_L280 at hf
  refine lv_iload_n hx hb dX10_take_280 rfl (lv_at hl 1 rfl) ?_
  refine lv_bipush (v := 59) hx hb dX10_take_281 (by decide) ?_
  refine lv_icmp_ne (tgt := 290) hx hb dX10_take_283 (by decide) (fun c_283 => ?_) (fun c_283 => ?_)
  · have hf := op_neg c_283 hf
    refine lv_bipush (v := 6) hx hb dX10_take_290 (by decide) ?_
    exact b_X10_take_L292 l D cy h0 a0 fu out C hA hK u0 x1 6 hf _ _ ls hP hD hS (lv_sub hl [0, 1] rfl)
  · have hf := op_pos c_283 hf
    refine lv_iconst (v := 5) hx hb dX10_take_286 (by decide) ?_
    refine lv_goto (tgt := 292) hx hb dX10_take_287 (by decide) ?_
    exact b_X10_take_L292 l D cy h0 a0 fu out C hA hK u0 x1 5 hf _ _ ls hP hD hS (lv_sub hl [0, 1] rfl)
def f_X10_take_L52  (fu : Nat)  (u0 : St) : Option (St) := if (u0.1 35) = (u0.1 34) then (some (sF (sF u0 38 (u0.1 35)) 36 0)) else ((f_X10_isSmall fu (sF u0 38 (u0.1 35)) (u0.1 35)).bind (fun q_84 => if q_84 = 0 then ((f_X10_isDigit fu (sF u0 38 (u0.1 35)) (u0.1 35)).bind (fun q_155 => if q_155 = 0 then (if inb (u0.1 35) 1500 = true then (if (u0.2 0 (u0.1 35).toNatClampNeg) < 65 then (f_X10_take_L280 fu (sF (sF (sF u0 38 (u0.1 35)) 35 ((u0.1 35) + 1)) 37 ((u0.2 0 (u0.1 35).toNatClampNeg) - 65)) (u0.2 0 (u0.1 35).toNatClampNeg)) else (if 72 < (u0.2 0 (u0.1 35).toNatClampNeg) then (f_X10_take_L280 fu (sF (sF (sF u0 38 (u0.1 35)) 35 ((u0.1 35) + 1)) 37 ((u0.2 0 (u0.1 35).toNatClampNeg) - 65)) (u0.2 0 (u0.1 35).toNatClampNeg)) else (f_X10_take_L292 fu (sF (sF (sF u0 38 (u0.1 35)) 35 ((u0.1 35) + 1)) 37 ((u0.2 0 (u0.1 35).toNatClampNeg) - 65)) (u0.2 0 (u0.1 35).toNatClampNeg) 2))) else none) else (f_X10_take_L171 fu fu (sF (sF (sF u0 38 (u0.1 35)) 36 3) 37 0)))) else (f_X10_take_L90 fu fu (sF u0 38 (u0.1 35)))))
set_option maxHeartbeats 4000000 in
set_option maxRecDepth 100000 in
theorem b_X10_take_L52 {p : Program} {e : Env} {s : State} {m : MethodId} {args : Array Value} {below : List Frame} {meth : Method} {c : Code} {A : Nat → Prop} (l : Launch) (D : va_G) (cy : Nat → ClassId) (h0 : Nat) (a0 : Nat → Nat) (fu : Nat) (out : St) (C : gC p s m args meth c (WS yX10_take cX10_take 2 none) cX10_take 2 none RX10) (hA : ∀ q : Nat, s.heap.size ≤ q → A q) (hK : va_K D vwCl (TY cy) s)  :
    ∀ (u0 : St), f_X10_take_L52 fu u0 = some out → ∀ (H : Heap) (locs : List Loc) (ls : Array Slot), va_P D vwCl (w10 cy h0 a0 u0) H → va_D A (w10 cy h0 a0 u0) → va_S A s.heap H locs → lv_has ls 2 [(0, .ref h0)] → W p l e ({ frames := 1, cells := 0, slots := 0, locals := 27 } : Room) s m args below meth c H locs 0 0 (MQ below (gQv D cy A (w10 cy h0 a0 out)) args s 0 0 A) (F0 m 52 ls []) := by
  obtain ⟨hx, hb, hr, hml, hown, hts, hlk⟩ := id C
  have hown : s.vm.findClass RX10 = some m.cls := hown
  have hk_157 := hts _ (List.mem_cons_of_mem _ fl_RX10_157)
  have hk_160 := hts _ (List.mem_cons_of_mem _ fl_RX10_160)
  have hk_154 := hts _ (List.mem_cons_of_mem _ fl_RX10_154)
  have hk_7 := hts _ (List.mem_cons_of_mem _ fl_RX10_7)
  have hk_173 := hts _ (List.mem_cons_of_mem _ fl_RX10_173)
  have hk_163 := hts _ (List.mem_cons_of_mem _ fl_RX10_163)
  intro u0 hf H locs ls hP hD hS hl
  unfold f_X10_take_L52 at hf
  refine lv_aload_n hx hb dX10_take_52 rfl (lv_at hl 0 rfl) ?_
  refine lv_aload_n hx hb dX10_take_53 rfl (lv_at hl 0 rfl) ?_
  refine va_get (ci := 9) (v := .int (u0.1 35)) (C := RX10) (T := TX10) (N := 56) hx hb hts (fun w h => List.mem_cons_of_mem _ (inX10 w h)) hown hK hP 0 rfl rfl 35 (by decide) hk_157 (fun _ h9 => h9) rfl dX10_take_54 ?_
  refine va_put (ci := 9) (v := .int (u0.1 35)) (ty := tyX10 38) (C := RX10) (T := TX10) (N := 56) hx hb hts (fun w h => List.mem_cons_of_mem _ (inX10 w h)) tyX10 tyX10_ok nmX10 hown hK hP hD hS 0 rfl rfl 38 (by decide) hk_160 (fun _ h9 => h9) rfl (tyX10_ok 38 (by decide)) rfl rfl (Nat.le_of_ble_eq_true rfl) dX10_take_57 (fun H locs hP hD hS => ?_)
  have hP : va_P D vwCl (w10 cy h0 a0 (sF u0 38 (u0.1 35))) H := pP10_38 hP
  have hD : va_D A (w10 cy h0 a0 (sF u0 38 (u0.1 35))) := pD10_38 hD
  refine lv_aload_n hx hb dX10_take_60 rfl (lv_at hl 0 rfl) ?_
  refine va_get (ci := 9) (v := .int (u0.1 35)) (C := RX10) (T := TX10) (N := 56) hx hb hts (fun w h => List.mem_cons_of_mem _ (inX10 w h)) hown hK hP 0 rfl rfl 35 (by decide) hk_157 (fun _ h9 => h9) rfl dX10_take_61 ?_
  refine lv_aload_n hx hb dX10_take_64 rfl (lv_at hl 0 rfl) ?_
  refine va_get (ci := 9) (v := .int (u0.1 34)) (C := RX10) (T := TX10) (N := 56) hx hb hts (fun w h => List.mem_cons_of_mem _ (inX10 w h)) hown hK hP 0 rfl rfl 34 (by decide) hk_154 (fun _ h9 => h9) rfl dX10_take_65 ?_
  refine lv_icmp_ne (tgt := 79) hx hb dX10_take_68 (by decide) (fun c_68 => ?_) (fun c_68 => ?_)
  · have hf := op_neg c_68 hf
    refine lv_aload_n hx hb dX10_take_79 rfl (lv_at hl 0 rfl) ?_
    refine lv_aload_n hx hb dX10_take_80 rfl (lv_at hl 0 rfl) ?_
    refine va_get (ci := 9) (v := .int (u0.1 35)) (C := RX10) (T := TX10) (N := 56) hx hb hts (fun w h => List.mem_cons_of_mem _ (inX10 w h)) hown hK hP 0 rfl rfl 35 (by decide) hk_157 (fun _ h9 => h9) rfl dX10_take_81 ?_
    obtain ⟨q_84, hc_84, hf⟩ := op_bind hf
    refine g_callVi (As := [.int (u0.1 35)]) (rest := []) (w2 := w10 cy h0 a0 (sF u0 38 (u0.1 35))) ⟨hx, hb, hml, hown, hts⟩ (c_X10_isSmall l D cy h0 a0 (sF u0 38 (u0.1 35)) _ fu (u0.1 35) _ hc_84) (cwV 1 hts (gi_V ml_RX10_166 im_X10_isSmall se_X10_isSmall in_RX10 cd_X10_isSmall) rfl rfl rfl hdX10_isSmall ⟨Nat.le_of_ble_eq_true rfl, Nat.le_of_ble_eq_true rfl⟩) (va_recv hK hP (ci := 9) (q0 := 0) rfl rfl) rfl hl.1 rfl (Nat.le_of_ble_eq_true rfl) dX10_take_84 hK hP hD hS hA [0, 1, 2, 3, 4, 5, 6, 7, 8, 9, 10, 11, 12, 13, 14, 15, 16, 17, 18, 19, 20, 21, 22, 23, 24, 25, 26, 27, 28, 29] [] [0, 1, 2, 3, 4, 5, 6, 7, 8, 9, 10, 11, 12, 13, 14, 15, 16, 17, 18, 19, 20, 21, 22, 23, 24, 25, 26, 27, 28, 29] rfl rfl rfl rfl (by decide) rfl rfl (fun H locs hP hD hS => ?_)
    refine lv_if_eq (tgt := 150) hx hb dX10_take_87 (by decide) (fun c_87 => ?_) (fun c_87 => ?_)
    · have hf := op_pos c_87 hf
      refine lv_aload_n hx hb dX10_take_150 rfl (lv_at hl 0 rfl) ?_
      refine lv_aload_n hx hb dX10_take_151 rfl (lv_at hl 0 rfl) ?_
      refine va_get (ci := 9) (v := .int (u0.1 35)) (C := RX10) (T := TX10) (N := 56) hx hb hts (fun w h => List.mem_cons_of_mem _ (inX10 w h)) hown hK hP 0 rfl rfl 35 (by decide) hk_157 (fun _ h9 => h9) rfl dX10_take_152 ?_
      obtain ⟨q_155, hc_155, hf⟩ := op_bind hf
      refine g_callVi (As := [.int (u0.1 35)]) (rest := []) (w2 := w10 cy h0 a0 (sF u0 38 (u0.1 35))) ⟨hx, hb, hml, hown, hts⟩ (c_X10_isDigit l D cy h0 a0 (sF u0 38 (u0.1 35)) _ fu (u0.1 35) _ hc_155) (cwV 1 hts (gi_V ml_RX10_176 im_X10_isDigit se_X10_isDigit in_RX10 cd_X10_isDigit) rfl rfl rfl hdX10_isDigit ⟨Nat.le_of_ble_eq_true rfl, Nat.le_of_ble_eq_true rfl⟩) (va_recv hK hP (ci := 9) (q0 := 0) rfl rfl) rfl hl.1 rfl (Nat.le_of_ble_eq_true rfl) dX10_take_155 hK hP hD hS hA [0, 1, 2, 3, 4, 5, 6, 7, 8, 9, 10, 11, 12, 13, 14, 15, 16, 17, 18, 19, 20, 21, 22, 23, 24, 25, 26, 27, 28, 29] [] [0, 1, 2, 3, 4, 5, 6, 7, 8, 9, 10, 11, 12, 13, 14, 15, 16, 17, 18, 19, 20, 21, 22, 23, 24, 25, 26, 27, 28, 29] rfl rfl rfl rfl (by decide) rfl rfl (fun H locs hP hD hS => ?_)
      refine lv_if_eq (tgt := 235) hx hb dX10_take_158 (by decide) (fun c_158 => ?_) (fun c_158 => ?_)
      · have hf := op_pos c_158 hf
        refine lv_aload_n hx hb dX10_take_235 rfl (lv_at hl 0 rfl) ?_
        refine va_get (ci := 9) (v := .ref (a0 0)) (C := RX10) (T := TX10) (N := 56) hx hb hts (fun w h => List.mem_cons_of_mem _ (inX10 w h)) hown hK hP 0 rfl rfl 0 (by decide) hk_7 (fun _ h9 => h9) rfl dX10_take_236 ?_
        refine lv_aload_n hx hb dX10_take_239 rfl (lv_at hl 0 rfl) ?_
        refine va_get (ci := 9) (v := .int (u0.1 35)) (C := RX10) (T := TX10) (N := 56) hx hb hts (fun w h => List.mem_cons_of_mem _ (inX10 w h)) hown hK hP 0 rfl rfl 35 (by decide) hk_157 (fun _ h9 => h9) rfl dX10_take_240 ?_
        obtain ⟨hg_243, hf⟩ := op_if hf
        refine va_iald (f := u0.2 0) hx hb hK hP 1 0 rfl rfl (inb_in hg_243) dX10_take_243 ?_
        refine lv_istore_n (lv' := [(1, .int (u0.2 0 (u0.1 35).toNatClampNeg)), (0, .ref h0)]) hx hb dX10_take_244 rfl hl (by decide) rfl (fun ls hl => ?_)
        refine lv_aload_n hx hb dX10_take_245 rfl (lv_at hl 1 rfl) ?_
        refine lv_dup hx hb dX10_take_246 rfl ?_
        refine va_get (ci := 9) (v := .int (u0.1 35)) (C := RX10) (T := TX10) (N := 56) hx hb hts (fun w h => List.mem_cons_of_mem _ (inX10 w h)) hown hK hP 0 rfl rfl 35 (by decide) hk_157 (fun _ h9 => h9) rfl dX10_take_247 ?_
        refine lv_iconst (v := 1) hx hb dX10_take_250 (by decide) ?_
        refine lv_iadd hx hb dX10_take_251 ?_
        refine va_put (ci := 9) (v := .int ((u0.1 35) + 1)) (ty := tyX10 35) (C := RX10) (T := TX10) (N := 56) hx hb hts (fun w h => List.mem_cons_of_mem _ (inX10 w h)) tyX10 tyX10_ok nmX10 hown hK hP hD hS 0 rfl rfl 35 (by decide) hk_157 (fun _ h9 => h9) rfl (tyX10_ok 35 (by decide)) rfl rfl (Nat.le_of_ble_eq_true rfl) dX10_take_252 (fun H locs hP hD hS => ?_)
        have hP : va_P D vwCl (w10 cy h0 a0 (sF (sF u0 38 (u0.1 35)) 35 ((u0.1 35) + 1))) H := pP10_35 hP
        have hD : va_D A (w10 cy h0 a0 (sF (sF u0 38 (u0.1 35)) 35 ((u0.1 35) + 1))) := pD10_35 hD
        refine lv_aload_n hx hb dX10_take_255 rfl (lv_at hl 1 rfl) ?_
        refine lv_iload_n hx hb dX10_take_256 rfl (lv_at hl 0 rfl) ?_
        refine lv_bipush (v := 65) hx hb dX10_take_257 (by decide) ?_
        refine lv_isub hx hb dX10_take_259 ?_
        refine va_put (ci := 9) (v := .int ((u0.2 0 (u0.1 35).toNatClampNeg) - 65)) (ty := tyX10 37) (C := RX10) (T := TX10) (N := 56) hx hb hts (fun w h => List.mem_cons_of_mem _ (inX10 w h)) tyX10 tyX10_ok nmX10 hown hK hP hD hS 0 rfl rfl 37 (by decide) hk_173 (fun _ h9 => h9) rfl (tyX10_ok 37 (by decide)) rfl rfl (Nat.le_of_ble_eq_true rfl) dX10_take_260 (fun H locs hP hD hS => ?_)
        have hP : va_P D vwCl (w10 cy h0 a0 (sF (sF (sF u0 38 (u0.1 35)) 35 ((u0.1 35) + 1)) 37 ((u0.2 0 (u0.1 35).toNatClampNeg) - 65))) H := pP10_37 hP
        have hD : va_D A (w10 cy h0 a0 (sF (sF (sF u0 38 (u0.1 35)) 35 ((u0.1 35) + 1)) 37 ((u0.2 0 (u0.1 35).toNatClampNeg) - 65))) := pD10_37 hD
        refine lv_aload_n hx hb dX10_take_263 rfl (lv_at hl 1 rfl) ?_
        refine lv_iload_n hx hb dX10_take_264 rfl (lv_at hl 0 rfl) ?_
        refine lv_bipush (v := 65) hx hb dX10_take_265 (by decide) ?_
        refine lv_icmp_lt (tgt := 280) hx hb dX10_take_267 (by decide) (fun c_267 => ?_) (fun c_267 => ?_)
        · have hf := op_pos c_267 hf
          exact b_X10_take_L280 l D cy h0 a0 fu out C hA hK (sF (sF (sF u0 38 (u0.1 35)) 35 ((u0.1 35) + 1)) 37 ((u0.2 0 (u0.1 35).toNatClampNeg) - 65)) (u0.2 0 (u0.1 35).toNatClampNeg) hf _ _ ls hP hD hS (lv_sub hl [1, 0] rfl)
        · have hf := op_neg c_267 hf
          refine lv_iload_n hx hb dX10_take_270 rfl (lv_at hl 0 rfl) ?_
          refine lv_bipush (v := 72) hx hb dX10_take_271 (by decide) ?_
          refine lv_icmp_gt (tgt := 280) hx hb dX10_take_273 (by decide) (fun c_273 => ?_) (fun c_273 => ?_)
          · have hf := op_pos c_273 hf
            exact b_X10_take_L280 l D cy h0 a0 fu out C hA hK (sF (sF (sF u0 38 (u0.1 35)) 35 ((u0.1 35) + 1)) 37 ((u0.2 0 (u0.1 35).toNatClampNeg) - 65)) (u0.2 0 (u0.1 35).toNatClampNeg) hf _ _ ls hP hD hS (lv_sub hl [1, 0] rfl)
          · have hf := op_neg c_273 hf
            refine lv_iconst (v := 2) hx hb dX10_take_276 (by decide) ?_
            refine lv_goto (tgt := 292) hx hb dX10_take_277 (by decide) ?_
            exact b_X10_take_L292 l D cy h0 a0 fu out C hA hK (sF (sF (sF u0 38 (u0.1 35)) 35 ((u0.1 35) + 1)) 37 ((u0.2 0 (u0.1 35).toNatClampNeg) - 65)) (u0.2 0 (u0.1 35).toNatClampNeg) 2 hf _ _ ls hP hD hS (lv_sub hl [1, 0] rfl)
      · have hf := op_neg c_158 hf
        refine lv_aload_n hx hb dX10_take_161 rfl (lv_at hl 0 rfl) ?_
        refine lv_iconst (v := 3) hx hb dX10_take_162 (by decide) ?_
        refine va_put (ci := 9) (v := .int 3) (ty := tyX10 36) (C := RX10) (T := TX10) (N := 56) hx hb hts (fun w h => List.mem_cons_of_mem _ (inX10 w h)) tyX10 tyX10_ok nmX10 hown hK hP hD hS 0 rfl rfl 36 (by decide) hk_163 (fun _ h9 => h9) rfl (tyX10_ok 36 (by decide)) rfl rfl (Nat.le_of_ble_eq_true rfl) dX10_take_163 (fun H locs hP hD hS => ?_)
        have hP : va_P D vwCl (w10 cy h0 a0 (sF (sF u0 38 (u0.1 35)) 36 3)) H := pP10_36 hP
        have hD : va_D A (w10 cy h0 a0 (sF (sF u0 38 (u0.1 35)) 36 3)) := pD10_36 hD
        refine lv_aload_n hx hb dX10_take_166 rfl (lv_at hl 0 rfl) ?_
        refine lv_iconst (v := 0) hx hb dX10_take_167 (by decide) ?_
        refine va_put (ci := 9) (v := .int 0) (ty := tyX10 37) (C := RX10) (T := TX10) (N := 56) hx hb hts (fun w h => List.mem_cons_of_mem _ (inX10 w h)) tyX10 tyX10_ok nmX10 hown hK hP hD hS 0 rfl rfl 37 (by decide) hk_173 (fun _ h9 => h9) rfl (tyX10_ok 37 (by decide)) rfl rfl (Nat.le_of_ble_eq_true rfl) dX10_take_168 (fun H locs hP hD hS => ?_)
        have hP : va_P D vwCl (w10 cy h0 a0 (sF (sF (sF u0 38 (u0.1 35)) 36 3) 37 0)) H := pP10_37 hP
        have hD : va_D A (w10 cy h0 a0 (sF (sF (sF u0 38 (u0.1 35)) 36 3) 37 0)) := pD10_37 hD
        exact b_X10_take_L171 l D cy h0 a0 fu out C hA hK fu (sF (sF (sF u0 38 (u0.1 35)) 36 3) 37 0) hf _ _ ls hP hD hS (lv_sub hl [0] rfl)
    · have hf := op_neg c_87 hf
      exact b_X10_take_L90 l D cy h0 a0 fu out C hA hK fu (sF u0 38 (u0.1 35)) hf _ _ ls hP hD hS (lv_sub hl [0] rfl)
  · have hf := op_pos c_68 hf
    refine lv_aload_n hx hb dX10_take_71 rfl (lv_at hl 0 rfl) ?_
    refine lv_iconst (v := 0) hx hb dX10_take_72 (by decide) ?_
    refine va_put (ci := 9) (v := .int 0) (ty := tyX10 36) (C := RX10) (T := TX10) (N := 56) hx hb hts (fun w h => List.mem_cons_of_mem _ (inX10 w h)) tyX10 tyX10_ok nmX10 hown hK hP hD hS 0 rfl rfl 36 (by decide) hk_163 (fun _ h9 => h9) rfl (tyX10_ok 36 (by decide)) rfl rfl (Nat.le_of_ble_eq_true rfl) dX10_take_73 (fun H locs hP hD hS => ?_)
    have hP : va_P D vwCl (w10 cy h0 a0 (sF (sF u0 38 (u0.1 35)) 36 0)) H := pP10_36 hP
    have hD : va_D A (w10 cy h0 a0 (sF (sF u0 38 (u0.1 35)) 36 0)) := pD10_36 hD
    refine lv_goto (tgt := 305) hx hb dX10_take_76 (by decide) ?_
    rw [← Option.some.inj hf]
    exact g_vret hx hb hr hlk hK hP hD hS dX10_take_305
def f_X10_take_L0  (fu : Nat)  : Nat → St → Option (St)
  | 0, _ => none
  | n_0 + 1, u0 => if (u0.1 34) ≤ (u0.1 35) then (f_X10_take_L52 fu u0) else (if inb (u0.1 35) 1500 = true then (if (u0.2 0 (u0.1 35).toNatClampNeg) = 10 then (f_X10_take_L39 (f_X10_take_L0 fu n_0) fu u0) else (if inb (u0.1 35) 1500 = true then (if (u0.2 0 (u0.1 35).toNatClampNeg) = 32 then (f_X10_take_L39 (f_X10_take_L0 fu n_0) fu u0) else (f_X10_take_L52 fu u0)) else none)) else none)
set_option maxHeartbeats 4000000 in
set_option maxRecDepth 100000 in
theorem b_X10_take_L0 {p : Program} {e : Env} {s : State} {m : MethodId} {args : Array Value} {below : List Frame} {meth : Method} {c : Code} {A : Nat → Prop} (l : Launch) (D : va_G) (cy : Nat → ClassId) (h0 : Nat) (a0 : Nat → Nat) (fu : Nat) (out : St) (C : gC p s m args meth c (WS yX10_take cX10_take 2 none) cX10_take 2 none RX10) (hA : ∀ q : Nat, s.heap.size ≤ q → A q) (hK : va_K D vwCl (TY cy) s)  :
    ∀ (n_0 : Nat), ∀ (u0 : St), f_X10_take_L0 fu n_0 u0 = some out → ∀ (H : Heap) (locs : List Loc) (ls : Array Slot), va_P D vwCl (w10 cy h0 a0 u0) H → va_D A (w10 cy h0 a0 u0) → va_S A s.heap H locs → lv_has ls 2 [(0, .ref h0)] → W p l e ({ frames := 1, cells := 0, slots := 0, locals := 27 } : Room) s m args below meth c H locs 0 0 (MQ below (gQv D cy A (w10 cy h0 a0 out)) args s 0 0 A) (F0 m 0 ls []) := by
  obtain ⟨hx, hb, hr, hml, hown, hts, hlk⟩ := id C
  have hown : s.vm.findClass RX10 = some m.cls := hown
  have hk_157 := hts _ (List.mem_cons_of_mem _ fl_RX10_157)
  have hk_154 := hts _ (List.mem_cons_of_mem _ fl_RX10_154)
  have hk_7 := hts _ (List.mem_cons_of_mem _ fl_RX10_7)
  intro n_0
  induction n_0 with
  | zero => intro u0 hf; exact op_no hf
  | succ n_0 ih_0 =>
    intro u0 hf H locs ls hP hD hS hl
    rw [f_X10_take_L0] at hf
    refine lv_aload_n hx hb dX10_take_0 rfl (lv_at hl 0 rfl) ?_
    refine va_get (ci := 9) (v := .int (u0.1 35)) (C := RX10) (T := TX10) (N := 56) hx hb hts (fun w h => List.mem_cons_of_mem _ (inX10 w h)) hown hK hP 0 rfl rfl 35 (by decide) hk_157 (fun _ h9 => h9) rfl dX10_take_1 ?_
    refine lv_aload_n hx hb dX10_take_4 rfl (lv_at hl 0 rfl) ?_
    refine va_get (ci := 9) (v := .int (u0.1 34)) (C := RX10) (T := TX10) (N := 56) hx hb hts (fun w h => List.mem_cons_of_mem _ (inX10 w h)) hown hK hP 0 rfl rfl 34 (by decide) hk_154 (fun _ h9 => h9) rfl dX10_take_5 ?_
    refine lv_icmp_ge (tgt := 52) hx hb dX10_take_8 (by decide) (fun c_8 => ?_) (fun c_8 => ?_)
    · have hf := op_pos c_8 hf
      exact b_X10_take_L52 l D cy h0 a0 fu out C hA hK u0 hf _ _ ls hP hD hS (lv_sub hl [0] rfl)
    · have hf := op_neg c_8 hf
      refine lv_aload_n hx hb dX10_take_11 rfl (lv_at hl 0 rfl) ?_
      refine va_get (ci := 9) (v := .ref (a0 0)) (C := RX10) (T := TX10) (N := 56) hx hb hts (fun w h => List.mem_cons_of_mem _ (inX10 w h)) hown hK hP 0 rfl rfl 0 (by decide) hk_7 (fun _ h9 => h9) rfl dX10_take_12 ?_
      refine lv_aload_n hx hb dX10_take_15 rfl (lv_at hl 0 rfl) ?_
      refine va_get (ci := 9) (v := .int (u0.1 35)) (C := RX10) (T := TX10) (N := 56) hx hb hts (fun w h => List.mem_cons_of_mem _ (inX10 w h)) hown hK hP 0 rfl rfl 35 (by decide) hk_157 (fun _ h9 => h9) rfl dX10_take_16 ?_
      obtain ⟨hg_19, hf⟩ := op_if hf
      refine va_iald (f := u0.2 0) hx hb hK hP 1 0 rfl rfl (inb_in hg_19) dX10_take_19 ?_
      refine lv_bipush (v := 10) hx hb dX10_take_20 (by decide) ?_
      refine lv_icmp_eq (tgt := 39) hx hb dX10_take_22 (by decide) (fun c_22 => ?_) (fun c_22 => ?_)
      · have hf := op_pos c_22 hf
        exact b_X10_take_L39 l D cy h0 a0 fu out C hA hK (f_X10_take_L0 fu n_0) ih_0 u0 hf _ _ ls hP hD hS (lv_sub hl [0] rfl)
      · have hf := op_neg c_22 hf
        refine lv_aload_n hx hb dX10_take_25 rfl (lv_at hl 0 rfl) ?_
        refine va_get (ci := 9) (v := .ref (a0 0)) (C := RX10) (T := TX10) (N := 56) hx hb hts (fun w h => List.mem_cons_of_mem _ (inX10 w h)) hown hK hP 0 rfl rfl 0 (by decide) hk_7 (fun _ h9 => h9) rfl dX10_take_26 ?_
        refine lv_aload_n hx hb dX10_take_29 rfl (lv_at hl 0 rfl) ?_
        refine va_get (ci := 9) (v := .int (u0.1 35)) (C := RX10) (T := TX10) (N := 56) hx hb hts (fun w h => List.mem_cons_of_mem _ (inX10 w h)) hown hK hP 0 rfl rfl 35 (by decide) hk_157 (fun _ h9 => h9) rfl dX10_take_30 ?_
        obtain ⟨hg_33, hf⟩ := op_if hf
        refine va_iald (f := u0.2 0) hx hb hK hP 1 0 rfl rfl (inb_in hg_33) dX10_take_33 ?_
        refine lv_bipush (v := 32) hx hb dX10_take_34 (by decide) ?_
        refine lv_icmp_ne (tgt := 52) hx hb dX10_take_36 (by decide) (fun c_36 => ?_) (fun c_36 => ?_)
        · have hf := op_neg c_36 hf
          exact b_X10_take_L52 l D cy h0 a0 fu out C hA hK u0 hf _ _ ls hP hD hS (lv_sub hl [0] rfl)
        · have hf := op_pos c_36 hf
          exact b_X10_take_L39 l D cy h0 a0 fu out C hA hK (f_X10_take_L0 fu n_0) ih_0 u0 hf _ _ ls hP hD hS (lv_sub hl [0] rfl)
def f_X10_take (fu : Nat)  (s0 : St)  : Option (St) := f_X10_take_L0 fu fu s0
theorem hdX10_take : yX10_take.cls = RX10 ∧ yX10_take.cls ≠ "java/lang/invoke/MethodHandle" ∧ yX10_take.cls ≠ "java/lang/invoke/VarHandle" ∧ (parseMethodDescriptor yX10_take.desc).map (fun d => d.parameters.length) = some 0 := by decide +kernel
set_option maxHeartbeats 4000000 in
set_option maxRecDepth 100000 in
theorem c_X10_take (l : Launch) (D : va_G) (cy : Nat → ClassId) (h0 : Nat) (a0 : Nat → Nat) (s0 : St) (sz fu : Nat)  (out : St) (hf : f_X10_take fu s0 = some out) :
    Met l yX10_take (WS yX10_take cX10_take 2 none) ({ frames := 1, cells := 0, slots := 0, locals := 27 } : Room) (va_Pc [.ref h0] (gP D cy sz (w10 cy h0 a0 s0))) ((fun A : Nat → Prop => gQv D cy A (w10 cy h0 a0 out)) (va_A (w10 cy h0 a0 s0) sz)) 0 0 (va_A (w10 cy h0 a0 s0) sz) := by
  refine g_met (cc := cX10_take) (maxL := 2) (ret := none) (fun A : Nat → Prop => gQv D cy A (w10 cy h0 a0 out)) (by decide +kernel) rfl (Nat.le_of_ble_eq_true rfl) ?_
  intro p e s m below meth c A C hA hK hP hD ls hl
  obtain ⟨hx, hb, hr, hml, hown, hts, hlk⟩ := id C
  have hown : s.vm.findClass RX10 = some m.cls := hown
  have hS : va_S A s.heap s.heap [] := va_S.rf
  have hl : lv_has ls 2 [(0, .ref h0)] := hl
  unfold f_X10_take at hf
  exact b_X10_take_L0 l D cy h0 a0 fu out C hA hK fu s0 hf _ _ ls hP hD hS (lv_sub hl [0] rfl)
def f_X10_number_L34  (fu : Nat)  (u0 : St) : Option (Int32 × St) := (f_X10_wrong fu u0 2 (u0.1 38)).bind (fun q_40 => if isB q_40.1 = true then (some (q_40.1, q_40.2)) else none)
set_option maxHeartbeats 4000000 in
set_option maxRecDepth 100000 in
theorem b_X10_number_L34 {p : Program} {e : Env} {s : State} {m : MethodId} {args : Array Value} {below : List Frame} {meth : Method} {c : Code} {A : Nat → Prop} (l : Launch) (D : va_G) (cy : Nat → ClassId) (h0 : Nat) (a0 : Nat → Nat) (fu : Nat) (out : Int32 × St) (C : gC p s m args meth c (WS yX10_number cX10_number 3 (some .boolean)) cX10_number 3 (some .boolean) RX10) (hA : ∀ q : Nat, s.heap.size ≤ q → A q) (hK : va_K D vwCl (TY cy) s)  :
    ∀ (u0 : St), f_X10_number_L34 fu u0 = some out → ∀ (H : Heap) (locs : List Loc) (ls : Array Slot), va_P D vwCl (w10 cy h0 a0 u0) H → va_D A (w10 cy h0 a0 u0) → va_S A s.heap H locs → lv_has ls 3 [(0, .ref h0)] → W p l e ({ frames := 2, cells := 0, slots := 0, locals := 48 } : Room) s m args below meth c H locs 0 0 (MQ below (gQi D cy A out.1 (w10 cy h0 a0 out.2)) args s 0 0 A) (F0 m 34 ls []) := by
  obtain ⟨hx, hb, hr, hml, hown, hts, hlk⟩ := id C
  have hown : s.vm.findClass RX10 = some m.cls := hown
  have hk_160 := hts _ (List.mem_cons_of_mem _ fl_RX10_160)
  intro u0 hf H locs ls hP hD hS hl
  unfold f_X10_number_L34 at hf
  refine lv_aload_n hx hb dX10_number_34 rfl (lv_at hl 0 rfl) ?_
  refine lv_iconst (v := 2) hx hb dX10_number_35 (by decide) ?_
  refine lv_aload_n hx hb dX10_number_36 rfl (lv_at hl 0 rfl) ?_
  refine va_get (ci := 9) (v := .int (u0.1 38)) (C := RX10) (T := TX10) (N := 56) hx hb hts (fun w h => List.mem_cons_of_mem _ (inX10 w h)) hown hK hP 0 rfl rfl 38 (by decide) hk_160 (fun _ h9 => h9) rfl dX10_number_37 ?_
  obtain ⟨q_40, hc_40, hf⟩ := op_bind hf
  refine g_callVi (As := [.int 2, .int (u0.1 38)]) (rest := []) (w2 := w10 cy h0 a0 q_40.2) ⟨hx, hb, hml, hown, hts⟩ (c_X10_wrong l D cy h0 a0 u0 _ fu 2 (u0.1 38) _ hc_40) (cwV 2 hts (gi_V ml_RX10_183 im_X10_wrong se_X10_wrong in_RX10 cd_X10_wrong) rfl rfl rfl hdX10_wrong ⟨Nat.le_of_ble_eq_true rfl, Nat.le_of_ble_eq_true rfl⟩) (va_recv hK hP (ci := 9) (q0 := 0) rfl rfl) rfl hl.1 rfl (Nat.le_of_ble_eq_true rfl) dX10_number_40 hK hP hD hS hA [0, 1, 2, 3, 4, 5, 6, 7, 8, 9, 10, 11, 12, 13, 14, 15, 16, 17, 18, 19, 20, 21, 22, 23, 24, 25, 26, 27, 28, 29] [] [0, 1, 2, 3, 4, 5, 6, 7, 8, 9, 10, 11, 12, 13, 14, 15, 16, 17, 18, 19, 20, 21, 22, 23, 24, 25, 26, 27, 28, 29] rfl rfl rfl rfl (by decide) rfl rfl (fun H locs hP hD hS => ?_)
  obtain ⟨hg_43, hf⟩ := op_if hf
  rw [← Option.some.inj hf]
  exact g_zret hx hb hr hlk hg_43 hK hP hD hS dX10_number_43
def f_X10_number (fu : Nat)  (s0 : St) (p1 : Int32) (p2 : Int32) : Option (Int32 × St) := if (s0.1 36) = 3 then (if (s0.1 37) < p1 then (f_X10_number_L34 fu s0) else (if (s0.1 37) ≤ p2 then ((f_X10_take fu (sF s0 55 (s0.1 37))).bind (fun q_53 => some (1, q_53))) else (f_X10_number_L34 fu s0))) else ((f_X10_wrong fu s0 1 (s0.1 38)).bind (fun q_14 => if isB q_14.1 = true then (some (q_14.1, q_14.2)) else none))
theorem hdX10_number : yX10_number.cls = RX10 ∧ yX10_number.cls ≠ "java/lang/invoke/MethodHandle" ∧ yX10_number.cls ≠ "java/lang/invoke/VarHandle" ∧ (parseMethodDescriptor yX10_number.desc).map (fun d => d.parameters.length) = some 2 := by decide +kernel
set_option maxHeartbeats 4000000 in
set_option maxRecDepth 100000 in
theorem c_X10_number (l : Launch) (D : va_G) (cy : Nat → ClassId) (h0 : Nat) (a0 : Nat → Nat) (s0 : St) (sz fu : Nat) (p1 : Int32) (p2 : Int32) (out : Int32 × St) (hf : f_X10_number fu s0 p1 p2 = some out) :
    Met l yX10_number (WS yX10_number cX10_number 3 (some .boolean)) ({ frames := 2, cells := 0, slots := 0, locals := 48 } : Room) (va_Pc [.ref h0, .int p1, .int p2] (gP D cy sz (w10 cy h0 a0 s0))) ((fun A : Nat → Prop => gQi D cy A out.1 (w10 cy h0 a0 out.2)) (va_A (w10 cy h0 a0 s0) sz)) 0 0 (va_A (w10 cy h0 a0 s0) sz) := by
  refine g_met (cc := cX10_number) (maxL := 3) (ret := (some .boolean)) (fun A : Nat → Prop => gQi D cy A out.1 (w10 cy h0 a0 out.2)) (by decide +kernel) rfl (Nat.le_of_ble_eq_true rfl) ?_
  intro p e s m below meth c A C hA hK hP hD ls hl
  obtain ⟨hx, hb, hr, hml, hown, hts, hlk⟩ := id C
  have hown : s.vm.findClass RX10 = some m.cls := hown
  have hS : va_S A s.heap s.heap [] := va_S.rf
  have hl : lv_has ls 3 [(0, .ref h0), (1, .int p1), (2, .int p2)] := hl
  have hk_163 := hts _ (List.mem_cons_of_mem _ fl_RX10_163)
  have hk_173 := hts _ (List.mem_cons_of_mem _ fl_RX10_173)
  have hk_186 := hts _ (List.mem_cons_of_mem _ fl_RX10_186)
  have hk_160 := hts _ (List.mem_cons_of_mem _ fl_RX10_160)
  unfold f_X10_number at hf
  refine lv_aload_n hx hb dX10_number_0 rfl (lv_at hl 0 rfl) ?_
  refine va_get (ci := 9) (v := .int (s0.1 36)) (C := RX10) (T := TX10) (N := 56) hx hb hts (fun w h => List.mem_cons_of_mem _ (inX10 w h)) hown hK hP 0 rfl rfl 36 (by decide) hk_163 (fun _ h9 => h9) rfl dX10_number_1 ?_
  refine lv_iconst (v := 3) hx hb dX10_number_4 (by decide) ?_
  refine lv_icmp_eq (tgt := 18) hx hb dX10_number_5 (by decide) (fun c_5 => ?_) (fun c_5 => ?_)
  · have hf := op_pos c_5 hf
    refine lv_aload_n hx hb dX10_number_18 rfl (lv_at hl 0 rfl) ?_
    refine va_get (ci := 9) (v := .int (s0.1 37)) (C := RX10) (T := TX10) (N := 56) hx hb hts (fun w h => List.mem_cons_of_mem _ (inX10 w h)) hown hK hP 0 rfl rfl 37 (by decide) hk_173 (fun _ h9 => h9) rfl dX10_number_19 ?_
    refine lv_iload_n hx hb dX10_number_22 rfl (lv_at hl 1 rfl) ?_
    refine lv_icmp_lt (tgt := 34) hx hb dX10_number_23 (by decide) (fun c_23 => ?_) (fun c_23 => ?_)
    · have hf := op_pos c_23 hf
      exact b_X10_number_L34 l D cy h0 a0 fu out C hA hK s0 hf _ _ ls hP hD hS (lv_sub hl [0] rfl)
    · have hf := op_neg c_23 hf
      refine lv_aload_n hx hb dX10_number_26 rfl (lv_at hl 0 rfl) ?_
      refine va_get (ci := 9) (v := .int (s0.1 37)) (C := RX10) (T := TX10) (N := 56) hx hb hts (fun w h => List.mem_cons_of_mem _ (inX10 w h)) hown hK hP 0 rfl rfl 37 (by decide) hk_173 (fun _ h9 => h9) rfl dX10_number_27 ?_
      refine lv_iload_n hx hb dX10_number_30 rfl (lv_at hl 2 rfl) ?_
      refine lv_icmp_le (tgt := 44) hx hb dX10_number_31 (by decide) (fun c_31 => ?_) (fun c_31 => ?_)
      · have hf := op_pos c_31 hf
        refine lv_aload_n hx hb dX10_number_44 rfl (lv_at hl 0 rfl) ?_
        refine lv_aload_n hx hb dX10_number_45 rfl (lv_at hl 0 rfl) ?_
        refine va_get (ci := 9) (v := .int (s0.1 37)) (C := RX10) (T := TX10) (N := 56) hx hb hts (fun w h => List.mem_cons_of_mem _ (inX10 w h)) hown hK hP 0 rfl rfl 37 (by decide) hk_173 (fun _ h9 => h9) rfl dX10_number_46 ?_
        refine va_put (ci := 9) (v := .int (s0.1 37)) (ty := tyX10 55) (C := RX10) (T := TX10) (N := 56) hx hb hts (fun w h => List.mem_cons_of_mem _ (inX10 w h)) tyX10 tyX10_ok nmX10 hown hK hP hD hS 0 rfl rfl 55 (by decide) hk_186 (fun _ h9 => h9) rfl (tyX10_ok 55 (by decide)) rfl rfl (Nat.le_of_ble_eq_true rfl) dX10_number_49 (fun H locs hP hD hS => ?_)
        have hP : va_P D vwCl (w10 cy h0 a0 (sF s0 55 (s0.1 37))) H := pP10_55 hP
        have hD : va_D A (w10 cy h0 a0 (sF s0 55 (s0.1 37))) := pD10_55 hD
        refine lv_aload_n hx hb dX10_number_52 rfl (lv_at hl 0 rfl) ?_
        obtain ⟨q_53, hc_53, hf⟩ := op_bind hf
        refine g_callVv (As := []) (rest := []) (w2 := w10 cy h0 a0 q_53) ⟨hx, hb, hml, hown, hts⟩ (c_X10_take l D cy h0 a0 (sF s0 55 (s0.1 37)) _ fu _ hc_53) (cwV 0 hts (gi_V ml_RX10_189 im_X10_take se_X10_take in_RX10 cd_X10_take) rfl rfl rfl hdX10_take ⟨Nat.le_of_ble_eq_true rfl, Nat.le_of_ble_eq_true rfl⟩) (va_recv hK hP (ci := 9) (q0 := 0) rfl rfl) rfl hl.1 rfl (Nat.le_of_ble_eq_true rfl) dX10_number_53 hK hP hD hS hA [0, 1, 2, 3, 4, 5, 6, 7, 8, 9, 10, 11, 12, 13, 14, 15, 16, 17, 18, 19, 20, 21, 22, 23, 24, 25, 26, 27, 28, 29] [] [0, 1, 2, 3, 4, 5, 6, 7, 8, 9, 10, 11, 12, 13, 14, 15, 16, 17, 18, 19, 20, 21, 22, 23, 24, 25, 26, 27, 28, 29] rfl rfl rfl rfl (by decide) rfl rfl (fun H locs hP hD hS => ?_)
        refine lv_iconst (v := 1) hx hb dX10_number_56 (by decide) ?_
        rw [← Option.some.inj hf]
        exact g_zret hx hb hr hlk (show isB 1 = true by decide) hK hP hD hS dX10_number_57
      · have hf := op_neg c_31 hf
        exact b_X10_number_L34 l D cy h0 a0 fu out C hA hK s0 hf _ _ ls hP hD hS (lv_sub hl [0] rfl)
  · have hf := op_neg c_5 hf
    refine lv_aload_n hx hb dX10_number_8 rfl (lv_at hl 0 rfl) ?_
    refine lv_iconst (v := 1) hx hb dX10_number_9 (by decide) ?_
    refine lv_aload_n hx hb dX10_number_10 rfl (lv_at hl 0 rfl) ?_
    refine va_get (ci := 9) (v := .int (s0.1 38)) (C := RX10) (T := TX10) (N := 56) hx hb hts (fun w h => List.mem_cons_of_mem _ (inX10 w h)) hown hK hP 0 rfl rfl 38 (by decide) hk_160 (fun _ h9 => h9) rfl dX10_number_11 ?_
    obtain ⟨q_14, hc_14, hf⟩ := op_bind hf
    refine g_callVi (As := [.int 1, .int (s0.1 38)]) (rest := []) (w2 := w10 cy h0 a0 q_14.2) ⟨hx, hb, hml, hown, hts⟩ (c_X10_wrong l D cy h0 a0 s0 _ fu 1 (s0.1 38) _ hc_14) (cwV 2 hts (gi_V ml_RX10_183 im_X10_wrong se_X10_wrong in_RX10 cd_X10_wrong) rfl rfl rfl hdX10_wrong ⟨Nat.le_of_ble_eq_true rfl, Nat.le_of_ble_eq_true rfl⟩) (va_recv hK hP (ci := 9) (q0 := 0) rfl rfl) rfl hl.1 rfl (Nat.le_of_ble_eq_true rfl) dX10_number_14 hK hP hD hS hA [0, 1, 2, 3, 4, 5, 6, 7, 8, 9, 10, 11, 12, 13, 14, 15, 16, 17, 18, 19, 20, 21, 22, 23, 24, 25, 26, 27, 28, 29] [] [0, 1, 2, 3, 4, 5, 6, 7, 8, 9, 10, 11, 12, 13, 14, 15, 16, 17, 18, 19, 20, 21, 22, 23, 24, 25, 26, 27, 28, 29] rfl rfl rfl rfl (by decide) rfl rfl (fun H locs hP hD hS => ?_)
    obtain ⟨hg_17, hf⟩ := op_if hf
    rw [← Option.some.inj hf]
    exact g_zret hx hb hr hlk hg_17 hK hP hD hS dX10_number_17
def f_X10_semi (fu : Nat)  (s0 : St)  : Option (Int32 × St) := if (s0.1 36) = 5 then ((f_X10_take fu s0).bind (fun q_19 => some (1, q_19))) else ((f_X10_wrong fu s0 1 (s0.1 38)).bind (fun q_14 => if isB q_14.1 = true then (some (q_14.1, q_14.2)) else none))
theorem hdX10_semi : yX10_semi.cls = RX10 ∧ yX10_semi.cls ≠ "java/lang/invoke/MethodHandle" ∧ yX10_semi.cls ≠ "java/lang/invoke/VarHandle" ∧ (parseMethodDescriptor yX10_semi.desc).map (fun d => d.parameters.length) = some 0 := by decide +kernel
set_option maxHeartbeats 4000000 in
set_option maxRecDepth 100000 in
theorem c_X10_semi (l : Launch) (D : va_G) (cy : Nat → ClassId) (h0 : Nat) (a0 : Nat → Nat) (s0 : St) (sz fu : Nat)  (out : Int32 × St) (hf : f_X10_semi fu s0 = some out) :
    Met l yX10_semi (WS yX10_semi cX10_semi 1 (some .boolean)) ({ frames := 2, cells := 0, slots := 0, locals := 48 } : Room) (va_Pc [.ref h0] (gP D cy sz (w10 cy h0 a0 s0))) ((fun A : Nat → Prop => gQi D cy A out.1 (w10 cy h0 a0 out.2)) (va_A (w10 cy h0 a0 s0) sz)) 0 0 (va_A (w10 cy h0 a0 s0) sz) := by
  refine g_met (cc := cX10_semi) (maxL := 1) (ret := (some .boolean)) (fun A : Nat → Prop => gQi D cy A out.1 (w10 cy h0 a0 out.2)) (by decide +kernel) rfl (Nat.le_of_ble_eq_true rfl) ?_
  intro p e s m below meth c A C hA hK hP hD ls hl
  obtain ⟨hx, hb, hr, hml, hown, hts, hlk⟩ := id C
  have hown : s.vm.findClass RX10 = some m.cls := hown
  have hS : va_S A s.heap s.heap [] := va_S.rf
  have hl : lv_has ls 1 [(0, .ref h0)] := hl
  have hk_163 := hts _ (List.mem_cons_of_mem _ fl_RX10_163)
  have hk_160 := hts _ (List.mem_cons_of_mem _ fl_RX10_160)
  unfold f_X10_semi at hf
  refine lv_aload_n hx hb dX10_semi_0 rfl (lv_at hl 0 rfl) ?_
  refine va_get (ci := 9) (v := .int (s0.1 36)) (C := RX10) (T := TX10) (N := 56) hx hb hts (fun w h => List.mem_cons_of_mem _ (inX10 w h)) hown hK hP 0 rfl rfl 36 (by decide) hk_163 (fun _ h9 => h9) rfl dX10_semi_1 ?_
  refine lv_iconst (v := 5) hx hb dX10_semi_4 (by decide) ?_
  refine lv_icmp_eq (tgt := 18) hx hb dX10_semi_5 (by decide) (fun c_5 => ?_) (fun c_5 => ?_)
  · have hf := op_pos c_5 hf
    refine lv_aload_n hx hb dX10_semi_18 rfl (lv_at hl 0 rfl) ?_
    obtain ⟨q_19, hc_19, hf⟩ := op_bind hf
    refine g_callVv (As := []) (rest := []) (w2 := w10 cy h0 a0 q_19) ⟨hx, hb, hml, hown, hts⟩ (c_X10_take l D cy h0 a0 s0 _ fu _ hc_19) (cwV 0 hts (gi_V ml_RX10_189 im_X10_take se_X10_take in_RX10 cd_X10_take) rfl rfl rfl hdX10_take ⟨Nat.le_of_ble_eq_true rfl, Nat.le_of_ble_eq_true rfl⟩) (va_recv hK hP (ci := 9) (q0 := 0) rfl rfl) rfl hl.1 rfl (Nat.le_of_ble_eq_true rfl) dX10_semi_19 hK hP hD hS hA [0, 1, 2, 3, 4, 5, 6, 7, 8, 9, 10, 11, 12, 13, 14, 15, 16, 17, 18, 19, 20, 21, 22, 23, 24, 25, 26, 27, 28, 29] [] [0, 1, 2, 3, 4, 5, 6, 7, 8, 9, 10, 11, 12, 13, 14, 15, 16, 17, 18, 19, 20, 21, 22, 23, 24, 25, 26, 27, 28, 29] rfl rfl rfl rfl (by decide) rfl rfl (fun H locs hP hD hS => ?_)
    refine lv_iconst (v := 1) hx hb dX10_semi_22 (by decide) ?_
    rw [← Option.some.inj hf]
    exact g_zret hx hb hr hlk (show isB 1 = true by decide) hK hP hD hS dX10_semi_23
  · have hf := op_neg c_5 hf
    refine lv_aload_n hx hb dX10_semi_8 rfl (lv_at hl 0 rfl) ?_
    refine lv_iconst (v := 1) hx hb dX10_semi_9 (by decide) ?_
    refine lv_aload_n hx hb dX10_semi_10 rfl (lv_at hl 0 rfl) ?_
    refine va_get (ci := 9) (v := .int (s0.1 38)) (C := RX10) (T := TX10) (N := 56) hx hb hts (fun w h => List.mem_cons_of_mem _ (inX10 w h)) hown hK hP 0 rfl rfl 38 (by decide) hk_160 (fun _ h9 => h9) rfl dX10_semi_11 ?_
    obtain ⟨q_14, hc_14, hf⟩ := op_bind hf
    refine g_callVi (As := [.int 1, .int (s0.1 38)]) (rest := []) (w2 := w10 cy h0 a0 q_14.2) ⟨hx, hb, hml, hown, hts⟩ (c_X10_wrong l D cy h0 a0 s0 _ fu 1 (s0.1 38) _ hc_14) (cwV 2 hts (gi_V ml_RX10_183 im_X10_wrong se_X10_wrong in_RX10 cd_X10_wrong) rfl rfl rfl hdX10_wrong ⟨Nat.le_of_ble_eq_true rfl, Nat.le_of_ble_eq_true rfl⟩) (va_recv hK hP (ci := 9) (q0 := 0) rfl rfl) rfl hl.1 rfl (Nat.le_of_ble_eq_true rfl) dX10_semi_14 hK hP hD hS hA [0, 1, 2, 3, 4, 5, 6, 7, 8, 9, 10, 11, 12, 13, 14, 15, 16, 17, 18, 19, 20, 21, 22, 23, 24, 25, 26, 27, 28, 29] [] [0, 1, 2, 3, 4, 5, 6, 7, 8, 9, 10, 11, 12, 13, 14, 15, 16, 17, 18, 19, 20, 21, 22, 23, 24, 25, 26, 27, 28, 29] rfl rfl rfl rfl (by decide) rfl rfl (fun H locs hP hD hS => ?_)
    obtain ⟨hg_17, hf⟩ := op_if hf
    rw [← Option.some.inj hf]
    exact g_zret hx hb hr hlk hg_17 hK hP hD hS dX10_semi_17
def f_X10_areWords_L2  (fu : Nat) (s0 : St) : Nat → Int32 → Int32 → Int32 → Option (Int32)
  | 0, _, _, _ => none
  | n_2 + 1, x1, x2, x3 => if (x1 + x2) ≤ x3 then (some 1) else (if inb x3 1500 = true then (if (s0.2 0 x3.toNatClampNeg) = 32 then (if x3 = x1 then (some 0) else (if x3 = ((x1 + x2) - 1) then (some 0) else (if inb (x3 + 1) 1500 = true then (if (s0.2 0 (x3 + 1).toNatClampNeg) = 32 then (some 0) else (f_X10_areWords_L2 fu s0 n_2 x1 x2 (x3 + 1))) else none))) else (f_X10_areWords_L2 fu s0 n_2 x1 x2 (x3 + 1))) else none)
set_option maxHeartbeats 4000000 in
set_option maxRecDepth 100000 in
theorem b_X10_areWords_L2 {p : Program} {e : Env} {s : State} {m : MethodId} {args : Array Value} {below : List Frame} {meth : Method} {c : Code} {A : Nat → Prop} (l : Launch) (D : va_G) (cy : Nat → ClassId) (h0 : Nat) (a0 : Nat → Nat) (s0 : St) (fu : Nat) (out : Int32) (C : gC p s m args meth c (WS yX10_areWords cX10_areWords 4 (some .boolean)) cX10_areWords 4 (some .boolean) RX10) (hA : ∀ q : Nat, s.heap.size ≤ q → A q) (hK : va_K D vwCl (TY cy) s)  :
    ∀ (n_2 : Nat), ∀ (x1 : Int32) (x2 : Int32) (x3 : Int32), f_X10_areWords_L2 fu s0 n_2 x1 x2 x3 = some out → ∀ (H : Heap) (locs : List Loc) (ls : Array Slot), va_P D vwCl (w10 cy h0 a0 s0) H → va_D A (w10 cy h0 a0 s0) → va_S A s.heap H locs → lv_has ls 4 [(0, .ref h0), (1, .int x1), (2, .int x2), (3, .int x3)] → W p l e ({ frames := 0, cells := 0, slots := 0, locals := 0 } : Room) s m args below meth c H locs 0 0 (MQ below (gQi D cy A out (w10 cy h0 a0 s0)) args s 0 0 A) (F0 m 2 ls []) := by
  obtain ⟨hx, hb, hr, hml, hown, hts, hlk⟩ := id C
  have hown : s.vm.findClass RX10 = some m.cls := hown
  have hk_7 := hts _ (List.mem_cons_of_mem _ fl_RX10_7)
  intro n_2
  induction n_2 with
  | zero => intro x1 x2 x3 hf; exact op_no hf
  | succ n_2 ih_2 =>
    intro x1 x2 x3 hf H locs ls hP hD hS hl
    rw [f_X10_areWords_L2] at hf
    refine lv_iload_n hx hb dX10_areWords_2 rfl (lv_at hl 3 rfl) ?_
    refine lv_iload_n hx hb dX10_areWords_3 rfl (lv_at hl 1 rfl) ?_
    refine lv_iload_n hx hb dX10_areWords_4 rfl (lv_at hl 2 rfl) ?_
    refine lv_iadd hx hb dX10_areWords_5 ?_
    refine lv_icmp_ge (tgt := 58) hx hb dX10_areWords_6 (by decide) (fun c_6 => ?_) (fun c_6 => ?_)
    · have hf := op_pos c_6 hf
      refine lv_iconst (v := 1) hx hb dX10_areWords_58 (by decide) ?_
      rw [← Option.some.inj hf]
      exact g_zret hx hb hr hlk (show isB 1 = true by decide) hK hP hD hS dX10_areWords_59
    · have hf := op_neg c_6 hf
      refine lv_aload_n hx hb dX10_areWords_9 rfl (lv_at hl 0 rfl) ?_
      refine va_get (ci := 9) (v := .ref (a0 0)) (C := RX10) (T := TX10) (N := 56) hx hb hts (fun w h => List.mem_cons_of_mem _ (inX10 w h)) hown hK hP 0 rfl rfl 0 (by decide) hk_7 (fun _ h9 => h9) rfl dX10_areWords_10 ?_
      refine lv_iload_n hx hb dX10_areWords_13 rfl (lv_at hl 3 rfl) ?_
      obtain ⟨hg_14, hf⟩ := op_if hf
      refine va_iald (f := s0.2 0) hx hb hK hP 1 0 rfl rfl (inb_in hg_14) dX10_areWords_14 ?_
      refine lv_bipush (v := 32) hx hb dX10_areWords_15 (by decide) ?_
      refine lv_icmp_eq (tgt := 23) hx hb dX10_areWords_17 (by decide) (fun c_17 => ?_) (fun c_17 => ?_)
      · have hf := op_pos c_17 hf
        refine lv_iload_n hx hb dX10_areWords_23 rfl (lv_at hl 3 rfl) ?_
        refine lv_iload_n hx hb dX10_areWords_24 rfl (lv_at hl 1 rfl) ?_
        refine lv_icmp_eq (tgt := 50) hx hb dX10_areWords_25 (by decide) (fun c_25 => ?_) (fun c_25 => ?_)
        · have hf := op_pos c_25 hf
          refine lv_iconst (v := 0) hx hb dX10_areWords_50 (by decide) ?_
          rw [← Option.some.inj hf]
          exact g_zret hx hb hr hlk (show isB 0 = true by decide) hK hP hD hS dX10_areWords_51
        · have hf := op_neg c_25 hf
          refine lv_iload_n hx hb dX10_areWords_28 rfl (lv_at hl 3 rfl) ?_
          refine lv_iload_n hx hb dX10_areWords_29 rfl (lv_at hl 1 rfl) ?_
          refine lv_iload_n hx hb dX10_areWords_30 rfl (lv_at hl 2 rfl) ?_
          refine lv_iadd hx hb dX10_areWords_31 ?_
          refine lv_iconst (v := 1) hx hb dX10_areWords_32 (by decide) ?_
          refine lv_isub hx hb dX10_areWords_33 ?_
          refine lv_icmp_eq (tgt := 50) hx hb dX10_areWords_34 (by decide) (fun c_34 => ?_) (fun c_34 => ?_)
          · have hf := op_pos c_34 hf
            refine lv_iconst (v := 0) hx hb dX10_areWords_50 (by decide) ?_
            rw [← Option.some.inj hf]
            exact g_zret hx hb hr hlk (show isB 0 = true by decide) hK hP hD hS dX10_areWords_51
          · have hf := op_neg c_34 hf
            refine lv_aload_n hx hb dX10_areWords_37 rfl (lv_at hl 0 rfl) ?_
            refine va_get (ci := 9) (v := .ref (a0 0)) (C := RX10) (T := TX10) (N := 56) hx hb hts (fun w h => List.mem_cons_of_mem _ (inX10 w h)) hown hK hP 0 rfl rfl 0 (by decide) hk_7 (fun _ h9 => h9) rfl dX10_areWords_38 ?_
            refine lv_iload_n hx hb dX10_areWords_41 rfl (lv_at hl 3 rfl) ?_
            refine lv_iconst (v := 1) hx hb dX10_areWords_42 (by decide) ?_
            refine lv_iadd hx hb dX10_areWords_43 ?_
            obtain ⟨hg_44, hf⟩ := op_if hf
            refine va_iald (f := s0.2 0) hx hb hK hP 1 0 rfl rfl (inb_in hg_44) dX10_areWords_44 ?_
            refine lv_bipush (v := 32) hx hb dX10_areWords_45 (by decide) ?_
            refine lv_icmp_ne (tgt := 52) hx hb dX10_areWords_47 (by decide) (fun c_47 => ?_) (fun c_47 => ?_)
            · have hf := op_neg c_47 hf
              refine lv_iinc (v := x3 + 1) (lv' := [(3, .int (x3 + 1)), (0, .ref h0), (1, .int x1), (2, .int x2)]) hx hb dX10_areWords_52 hl (k := 3) rfl rfl (by decide) rfl (fun ls hl => ?_)
              refine lv_goto (tgt := 2) hx hb dX10_areWords_55 (by decide) ?_
              exact ih_2 x1 x2 (x3 + 1) hf _ _ ls hP hD hS (lv_sub hl [1, 2, 3, 0] rfl)
            · have hf := op_pos c_47 hf
              refine lv_iconst (v := 0) hx hb dX10_areWords_50 (by decide) ?_
              rw [← Option.some.inj hf]
              exact g_zret hx hb hr hlk (show isB 0 = true by decide) hK hP hD hS dX10_areWords_51
      · have hf := op_neg c_17 hf
        refine lv_goto (tgt := 52) hx hb dX10_areWords_20 (by decide) ?_
        refine lv_iinc (v := x3 + 1) (lv' := [(3, .int (x3 + 1)), (0, .ref h0), (1, .int x1), (2, .int x2)]) hx hb dX10_areWords_52 hl (k := 3) rfl rfl (by decide) rfl (fun ls hl => ?_)
        refine lv_goto (tgt := 2) hx hb dX10_areWords_55 (by decide) ?_
        exact ih_2 x1 x2 (x3 + 1) hf _ _ ls hP hD hS (lv_sub hl [1, 2, 3, 0] rfl)
def f_X10_areWords (fu : Nat) (s0 : St)  (p1 : Int32) (p2 : Int32) : Option (Int32) := f_X10_areWords_L2 fu s0 fu p1 p2 p1
theorem hdX10_areWords : yX10_areWords.cls = RX10 ∧ yX10_areWords.cls ≠ "java/lang/invoke/MethodHandle" ∧ yX10_areWords.cls ≠ "java/lang/invoke/VarHandle" ∧ (parseMethodDescriptor yX10_areWords.desc).map (fun d => d.parameters.length) = some 2 := by decide +kernel
set_option maxHeartbeats 4000000 in
set_option maxRecDepth 100000 in
theorem c_X10_areWords (l : Launch) (D : va_G) (cy : Nat → ClassId) (h0 : Nat) (a0 : Nat → Nat) (s0 : St) (sz fu : Nat) (p1 : Int32) (p2 : Int32) (out : Int32) (hf : f_X10_areWords fu s0 p1 p2 = some out) :
    Met l yX10_areWords (WS yX10_areWords cX10_areWords 4 (some .boolean)) ({ frames := 0, cells := 0, slots := 0, locals := 0 } : Room) (va_Pc [.ref h0, .int p1, .int p2] (gP D cy sz (w10 cy h0 a0 s0))) ((fun A : Nat → Prop => gQi D cy A out (w10 cy h0 a0 s0)) (va_A (w10 cy h0 a0 s0) sz)) 0 0 (va_A (w10 cy h0 a0 s0) sz) := by
  refine g_met (cc := cX10_areWords) (maxL := 4) (ret := (some .boolean)) (fun A : Nat → Prop => gQi D cy A out (w10 cy h0 a0 s0)) (by decide +kernel) rfl (Nat.le_of_ble_eq_true rfl) ?_
  intro p e s m below meth c A C hA hK hP hD ls hl
  obtain ⟨hx, hb, hr, hml, hown, hts, hlk⟩ := id C
  have hown : s.vm.findClass RX10 = some m.cls := hown
  have hS : va_S A s.heap s.heap [] := va_S.rf
  have hl : lv_has ls 4 [(0, .ref h0), (1, .int p1), (2, .int p2)] := hl
  unfold f_X10_areWords at hf
  refine lv_iload_n hx hb dX10_areWords_0 rfl (lv_at hl 1 rfl) ?_
  refine lv_istore_n (lv' := [(3, .int p1), (0, .ref h0), (1, .int p1), (2, .int p2)]) hx hb dX10_areWords_1 rfl hl (by decide) rfl (fun ls hl => ?_)
  exact b_X10_areWords_L2 l D cy h0 a0 s0 fu out C hA hK fu p1 p2 p1 hf _ _ ls hP hD hS (lv_sub hl [1, 2, 3, 0] rfl)
def f_X10_setting_L168  (fu : Nat)  (u0 : St) : Option (Int32 × St) := (f_X10_semi fu u0).bind (fun q_169 => if isB q_169.1 = true then (some (q_169.1, q_169.2)) else none)
set_option maxHeartbeats 4000000 in
set_option maxRecDepth 100000 in
theorem b_X10_setting_L168 {p : Program} {e : Env} {s : State} {m : MethodId} {args : Array Value} {below : List Frame} {meth : Method} {c : Code} {A : Nat → Prop} (l : Launch) (D : va_G) (cy : Nat → ClassId) (h0 : Nat) (a0 : Nat → Nat) (fu : Nat) (out : Int32 × St) (C : gC p s m args meth c (WS yX10_setting cX10_setting 4 (some .boolean)) cX10_setting 4 (some .boolean) RX10) (hA : ∀ q : Nat, s.heap.size ≤ q → A q) (hK : va_K D vwCl (TY cy) s)  :
    ∀ (u0 : St), f_X10_setting_L168 fu u0 = some out → ∀ (H : Heap) (locs : List Loc) (ls : Array Slot), va_P D vwCl (w10 cy h0 a0 u0) H → va_D A (w10 cy h0 a0 u0) → va_S A s.heap H locs → lv_has ls 4 [(0, .ref h0)] → W p l e ({ frames := 3, cells := 0, slots := 0, locals := 70 } : Room) s m args below meth c H locs 0 0 (MQ below (gQi D cy A out.1 (w10 cy h0 a0 out.2)) args s 0 0 A) (F0 m 168 ls []) := by
  obtain ⟨hx, hb, hr, hml, hown, hts, hlk⟩ := id C
  have hown : s.vm.findClass RX10 = some m.cls := hown
  intro u0 hf H locs ls hP hD hS hl
  unfold f_X10_setting_L168 at hf
  refine lv_aload_n hx hb dX10_setting_168 rfl (lv_at hl 0 rfl) ?_
  obtain ⟨q_169, hc_169, hf⟩ := op_bind hf
  refine g_callVi (As := []) (rest := []) (w2 := w10 cy h0 a0 q_169.2) ⟨hx, hb, hml, hown, hts⟩ (c_X10_semi l D cy h0 a0 u0 _ fu _ hc_169) (cwV 0 hts (gi_V ml_RX10_198 im_X10_semi se_X10_semi in_RX10 cd_X10_semi) rfl rfl rfl hdX10_semi ⟨Nat.le_of_ble_eq_true rfl, Nat.le_of_ble_eq_true rfl⟩) (va_recv hK hP (ci := 9) (q0 := 0) rfl rfl) rfl hl.1 rfl (Nat.le_of_ble_eq_true rfl) dX10_setting_169 hK hP hD hS hA [0, 1, 2, 3, 4, 5, 6, 7, 8, 9, 10, 11, 12, 13, 14, 15, 16, 17, 18, 19, 20, 21, 22, 23, 24, 25, 26, 27, 28, 29] [] [0, 1, 2, 3, 4, 5, 6, 7, 8, 9, 10, 11, 12, 13, 14, 15, 16, 17, 18, 19, 20, 21, 22, 23, 24, 25, 26, 27, 28, 29] rfl rfl rfl rfl (by decide) rfl rfl (fun H locs hP hD hS => ?_)
  obtain ⟨hg_172, hf⟩ := op_if hf
  rw [← Option.some.inj hf]
  exact g_zret hx hb hr hlk hg_172 hK hP hD hS dX10_setting_172
def f_X10_setting_L132  (fu : Nat)  (u0 : St) (x2 : Int32) (x3 : Int32) (t0 : Int32) (t1 : Int32) : Option (Int32 × St) := (f_X10_number fu u0 t1 t0).bind (fun q_132 => if q_132.1 = 0 then (some (0, q_132.2)) else (if x2 = 2 then (if inb x3 4 = true then (f_X10_setting_L168 fu (sA q_132.2 42 x3.toNatClampNeg (q_132.2.1 55))) else none) else (if inb x3 4 = true then (f_X10_setting_L168 fu (sA q_132.2 43 x3.toNatClampNeg (q_132.2.1 55))) else none)))
set_option maxHeartbeats 4000000 in
set_option maxRecDepth 100000 in
theorem b_X10_setting_L132 {p : Program} {e : Env} {s : State} {m : MethodId} {args : Array Value} {below : List Frame} {meth : Method} {c : Code} {A : Nat → Prop} (l : Launch) (D : va_G) (cy : Nat → ClassId) (h0 : Nat) (a0 : Nat → Nat) (fu : Nat) (out : Int32 × St) (C : gC p s m args meth c (WS yX10_setting cX10_setting 4 (some .boolean)) cX10_setting 4 (some .boolean) RX10) (hA : ∀ q : Nat, s.heap.size ≤ q → A q) (hK : va_K D vwCl (TY cy) s)  :
    ∀ (u0 : St) (x2 : Int32) (x3 : Int32) (t0 : Int32) (t1 : Int32), f_X10_setting_L132 fu u0 x2 x3 t0 t1 = some out → ∀ (H : Heap) (locs : List Loc) (ls : Array Slot), va_P D vwCl (w10 cy h0 a0 u0) H → va_D A (w10 cy h0 a0 u0) → va_S A s.heap H locs → lv_has ls 4 [(0, .ref h0), (2, .int x2), (3, .int x3)] → W p l e ({ frames := 3, cells := 0, slots := 0, locals := 70 } : Room) s m args below meth c H locs 0 0 (MQ below (gQi D cy A out.1 (w10 cy h0 a0 out.2)) args s 0 0 A) (F0 m 132 ls [.int t0, .int t1, .ref h0]) := by
  obtain ⟨hx, hb, hr, hml, hown, hts, hlk⟩ := id C
  have hown : s.vm.findClass RX10 = some m.cls := hown
  have hk_89 := hts _ (List.mem_cons_of_mem _ fl_RX10_89)
  have hk_186 := hts _ (List.mem_cons_of_mem _ fl_RX10_186)
  have hk_86 := hts _ (List.mem_cons_of_mem _ fl_RX10_86)
  intro u0 x2 x3 t0 t1 hf H locs ls hP hD hS hl
  unfold f_X10_setting_L132 at hf
  obtain ⟨q_132, hc_132, hf⟩ := op_bind hf
  refine g_callVi (As := [.int t1, .int t0]) (rest := []) (w2 := w10 cy h0 a0 q_132.2) ⟨hx, hb, hml, hown, hts⟩ (c_X10_number l D cy h0 a0 u0 _ fu t1 t0 _ hc_132) (cwV 2 hts (gi_V ml_RX10_195 im_X10_number se_X10_number in_RX10 cd_X10_number) rfl rfl rfl hdX10_number ⟨Nat.le_of_ble_eq_true rfl, Nat.le_of_ble_eq_true rfl⟩) (va_recv hK hP (ci := 9) (q0 := 0) rfl rfl) rfl hl.1 rfl (Nat.le_of_ble_eq_true rfl) dX10_setting_132 hK hP hD hS hA [0, 1, 2, 3, 4, 5, 6, 7, 8, 9, 10, 11, 12, 13, 14, 15, 16, 17, 18, 19, 20, 21, 22, 23, 24, 25, 26, 27, 28, 29] [] [0, 1, 2, 3, 4, 5, 6, 7, 8, 9, 10, 11, 12, 13, 14, 15, 16, 17, 18, 19, 20, 21, 22, 23, 24, 25, 26, 27, 28, 29] rfl rfl rfl rfl (by decide) rfl rfl (fun H locs hP hD hS => ?_)
  refine lv_if_ne (tgt := 140) hx hb dX10_setting_135 (by decide) (fun c_135 => ?_) (fun c_135 => ?_)
  · have hf := op_neg c_135 hf
    refine lv_iload_n hx hb dX10_setting_140 rfl (lv_at hl 1 rfl) ?_
    refine lv_iconst (v := 2) hx hb dX10_setting_141 (by decide) ?_
    refine lv_icmp_ne (tgt := 158) hx hb dX10_setting_142 (by decide) (fun c_142 => ?_) (fun c_142 => ?_)
    · have hf := op_neg c_142 hf
      refine lv_aload_n hx hb dX10_setting_158 rfl (lv_at hl 0 rfl) ?_
      refine va_get (ci := 9) (v := .ref (a0 43)) (C := RX10) (T := TX10) (N := 56) hx hb hts (fun w h => List.mem_cons_of_mem _ (inX10 w h)) hown hK hP 0 rfl rfl 43 (by decide) hk_89 (fun _ h9 => h9) rfl dX10_setting_159 ?_
      refine lv_iload_n hx hb dX10_setting_162 rfl (lv_at hl 2 rfl) ?_
      refine lv_aload_n hx hb dX10_setting_163 rfl (lv_at hl 0 rfl) ?_
      refine va_get (ci := 9) (v := .int (q_132.2.1 55)) (C := RX10) (T := TX10) (N := 56) hx hb hts (fun w h => List.mem_cons_of_mem _ (inX10 w h)) hown hK hP 0 rfl rfl 55 (by decide) hk_186 (fun _ h9 => h9) rfl dX10_setting_164 ?_
      obtain ⟨hg_167, hf⟩ := op_if hf
      refine va_iast (f := q_132.2.2 43) (x := q_132.2.1 55) hx hb hK hP hD hS 22 0 rfl rfl (inb_in hg_167) dX10_setting_167 (fun H locs hP hD hS => ?_)
      have hP : va_P D vwCl (w10 cy h0 a0 (sA q_132.2 43 x3.toNatClampNeg (q_132.2.1 55))) H := pP10_43 hP
      have hD : va_D A (w10 cy h0 a0 (sA q_132.2 43 x3.toNatClampNeg (q_132.2.1 55))) := pD10_43 hD
      exact b_X10_setting_L168 l D cy h0 a0 fu out C hA hK (sA q_132.2 43 x3.toNatClampNeg (q_132.2.1 55)) hf _ _ ls hP hD hS (lv_sub hl [0] rfl)
    · have hf := op_pos c_142 hf
      refine lv_aload_n hx hb dX10_setting_145 rfl (lv_at hl 0 rfl) ?_
      refine va_get (ci := 9) (v := .ref (a0 42)) (C := RX10) (T := TX10) (N := 56) hx hb hts (fun w h => List.mem_cons_of_mem _ (inX10 w h)) hown hK hP 0 rfl rfl 42 (by decide) hk_86 (fun _ h9 => h9) rfl dX10_setting_146 ?_
      refine lv_iload_n hx hb dX10_setting_149 rfl (lv_at hl 2 rfl) ?_
      refine lv_aload_n hx hb dX10_setting_150 rfl (lv_at hl 0 rfl) ?_
      refine va_get (ci := 9) (v := .int (q_132.2.1 55)) (C := RX10) (T := TX10) (N := 56) hx hb hts (fun w h => List.mem_cons_of_mem _ (inX10 w h)) hown hK hP 0 rfl rfl 55 (by decide) hk_186 (fun _ h9 => h9) rfl dX10_setting_151 ?_
      obtain ⟨hg_154, hf⟩ := op_if hf
      refine va_iast (f := q_132.2.2 42) (x := q_132.2.1 55) hx hb hK hP hD hS 21 0 rfl rfl (inb_in hg_154) dX10_setting_154 (fun H locs hP hD hS => ?_)
      have hP : va_P D vwCl (w10 cy h0 a0 (sA q_132.2 42 x3.toNatClampNeg (q_132.2.1 55))) H := pP10_42 hP
      have hD : va_D A (w10 cy h0 a0 (sA q_132.2 42 x3.toNatClampNeg (q_132.2.1 55))) := pD10_42 hD
      refine lv_goto (tgt := 168) hx hb dX10_setting_155 (by decide) ?_
      exact b_X10_setting_L168 l D cy h0 a0 fu out C hA hK (sA q_132.2 42 x3.toNatClampNeg (q_132.2.1 55)) hf _ _ ls hP hD hS (lv_sub hl [0] rfl)
  · have hf := op_pos c_135 hf
    refine lv_iconst (v := 0) hx hb dX10_setting_138 (by decide) ?_
    rw [← Option.some.inj hf]
    exact g_zret hx hb hr hlk (show isB 0 = true by decide) hK hP hD hS dX10_setting_139
def f_X10_setting_L120  (fu : Nat)  (u0 : St) (x2 : Int32) (x3 : Int32) (t0 : Int32) : Option (Int32 × St) := if x2 = 2 then (f_X10_setting_L132 fu u0 x2 x3 40 t0) else (f_X10_setting_L132 fu u0 x2 x3 20 t0)
set_option maxHeartbeats 4000000 in
set_option maxRecDepth 100000 in
theorem b_X10_setting_L120 {p : Program} {e : Env} {s : State} {m : MethodId} {args : Array Value} {below : List Frame} {meth : Method} {c : Code} {A : Nat → Prop} (l : Launch) (D : va_G) (cy : Nat → ClassId) (h0 : Nat) (a0 : Nat → Nat) (fu : Nat) (out : Int32 × St) (C : gC p s m args meth c (WS yX10_setting cX10_setting 4 (some .boolean)) cX10_setting 4 (some .boolean) RX10) (hA : ∀ q : Nat, s.heap.size ≤ q → A q) (hK : va_K D vwCl (TY cy) s)  :
    ∀ (u0 : St) (x2 : Int32) (x3 : Int32) (t0 : Int32), f_X10_setting_L120 fu u0 x2 x3 t0 = some out → ∀ (H : Heap) (locs : List Loc) (ls : Array Slot), va_P D vwCl (w10 cy h0 a0 u0) H → va_D A (w10 cy h0 a0 u0) → va_S A s.heap H locs → lv_has ls 4 [(0, .ref h0), (2, .int x2), (3, .int x3)] → W p l e ({ frames := 3, cells := 0, slots := 0, locals := 70 } : Room) s m args below meth c H locs 0 0 (MQ below (gQi D cy A out.1 (w10 cy h0 a0 out.2)) args s 0 0 A) (F0 m 120 ls [.int t0, .ref h0]) := by
  obtain ⟨hx, hb, hr, hml, hown, hts, hlk⟩ := id C
  have hown : s.vm.findClass RX10 = some m.cls := hown
  intro u0 x2 x3 t0 hf H locs ls hP hD hS hl
  unfold f_X10_setting_L120 at hf
  refine lv_iload_n hx hb dX10_setting_120 rfl (lv_at hl 1 rfl) ?_
  refine lv_iconst (v := 2) hx hb dX10_setting_121 (by decide) ?_
  refine lv_icmp_ne (tgt := 130) hx hb dX10_setting_122 (by decide) (fun c_122 => ?_) (fun c_122 => ?_)
  · have hf := op_neg c_122 hf
    refine lv_bipush (v := 20) hx hb dX10_setting_130 (by decide) ?_
    exact b_X10_setting_L132 l D cy h0 a0 fu out C hA hK u0 x2 x3 20 t0 hf _ _ ls hP hD hS (lv_sub hl [0, 1, 2] rfl)
  · have hf := op_pos c_122 hf
    refine lv_bipush (v := 40) hx hb dX10_setting_125 (by decide) ?_
    refine lv_goto (tgt := 132) hx hb dX10_setting_127 (by decide) ?_
    exact b_X10_setting_L132 l D cy h0 a0 fu out C hA hK u0 x2 x3 40 t0 hf _ _ ls hP hD hS (lv_sub hl [0, 1, 2] rfl)
def f_X10_setting_L99  (fu : Nat)  (u0 : St) (x1 : Int32) (x2 : Int32) (x3 : Int32) (t0 : Int32) : Option (Int32 × St) := if t0 ≤ 0 then (if x2 = 2 then (f_X10_setting_L120 fu u0 x2 x3 4) else (f_X10_setting_L120 fu u0 x2 x3 1)) else ((f_X10_wrong fu u0 3 x1).bind (fun q_105 => if isB q_105.1 = true then (some (q_105.1, q_105.2)) else none))
set_option maxHeartbeats 4000000 in
set_option maxRecDepth 100000 in
theorem b_X10_setting_L99 {p : Program} {e : Env} {s : State} {m : MethodId} {args : Array Value} {below : List Frame} {meth : Method} {c : Code} {A : Nat → Prop} (l : Launch) (D : va_G) (cy : Nat → ClassId) (h0 : Nat) (a0 : Nat → Nat) (fu : Nat) (out : Int32 × St) (C : gC p s m args meth c (WS yX10_setting cX10_setting 4 (some .boolean)) cX10_setting 4 (some .boolean) RX10) (hA : ∀ q : Nat, s.heap.size ≤ q → A q) (hK : va_K D vwCl (TY cy) s)  :
    ∀ (u0 : St) (x1 : Int32) (x2 : Int32) (x3 : Int32) (t0 : Int32), f_X10_setting_L99 fu u0 x1 x2 x3 t0 = some out → ∀ (H : Heap) (locs : List Loc) (ls : Array Slot), va_P D vwCl (w10 cy h0 a0 u0) H → va_D A (w10 cy h0 a0 u0) → va_S A s.heap H locs → lv_has ls 4 [(0, .ref h0), (1, .int x1), (2, .int x2), (3, .int x3)] → W p l e ({ frames := 3, cells := 0, slots := 0, locals := 70 } : Room) s m args below meth c H locs 0 0 (MQ below (gQi D cy A out.1 (w10 cy h0 a0 out.2)) args s 0 0 A) (F0 m 99 ls [.int t0]) := by
  obtain ⟨hx, hb, hr, hml, hown, hts, hlk⟩ := id C
  have hown : s.vm.findClass RX10 = some m.cls := hown
  intro u0 x1 x2 x3 t0 hf H locs ls hP hD hS hl
  unfold f_X10_setting_L99 at hf
  refine lv_if_le (tgt := 109) hx hb dX10_setting_99 (by decide) (fun c_99 => ?_) (fun c_99 => ?_)
  · have hf := op_pos c_99 hf
    refine lv_aload_n hx hb dX10_setting_109 rfl (lv_at hl 0 rfl) ?_
    refine lv_iload_n hx hb dX10_setting_110 rfl (lv_at hl 2 rfl) ?_
    refine lv_iconst (v := 2) hx hb dX10_setting_111 (by decide) ?_
    refine lv_icmp_ne (tgt := 119) hx hb dX10_setting_112 (by decide) (fun c_112 => ?_) (fun c_112 => ?_)
    · have hf := op_neg c_112 hf
      refine lv_iconst (v := 1) hx hb dX10_setting_119 (by decide) ?_
      exact b_X10_setting_L120 l D cy h0 a0 fu out C hA hK u0 x2 x3 1 hf _ _ ls hP hD hS (lv_sub hl [0, 2, 3] rfl)
    · have hf := op_pos c_112 hf
      refine lv_iconst (v := 4) hx hb dX10_setting_115 (by decide) ?_
      refine lv_goto (tgt := 120) hx hb dX10_setting_116 (by decide) ?_
      exact b_X10_setting_L120 l D cy h0 a0 fu out C hA hK u0 x2 x3 4 hf _ _ ls hP hD hS (lv_sub hl [0, 2, 3] rfl)
  · have hf := op_neg c_99 hf
    refine lv_aload_n hx hb dX10_setting_102 rfl (lv_at hl 0 rfl) ?_
    refine lv_iconst (v := 3) hx hb dX10_setting_103 (by decide) ?_
    refine lv_iload_n hx hb dX10_setting_104 rfl (lv_at hl 1 rfl) ?_
    obtain ⟨q_105, hc_105, hf⟩ := op_bind hf
    refine g_callVi (As := [.int 3, .int x1]) (rest := []) (w2 := w10 cy h0 a0 q_105.2) ⟨hx, hb, hml, hown, hts⟩ (c_X10_wrong l D cy h0 a0 u0 _ fu 3 x1 _ hc_105) (cwV 2 hts (gi_V ml_RX10_183 im_X10_wrong se_X10_wrong in_RX10 cd_X10_wrong) rfl rfl rfl hdX10_wrong ⟨Nat.le_of_ble_eq_true rfl, Nat.le_of_ble_eq_true rfl⟩) (va_recv hK hP (ci := 9) (q0 := 0) rfl rfl) rfl hl.1 rfl (Nat.le_of_ble_eq_true rfl) dX10_setting_105 hK hP hD hS hA [0, 1, 2, 3, 4, 5, 6, 7, 8, 9, 10, 11, 12, 13, 14, 15, 16, 17, 18, 19, 20, 21, 22, 23, 24, 25, 26, 27, 28, 29] [] [0, 1, 2, 3, 4, 5, 6, 7, 8, 9, 10, 11, 12, 13, 14, 15, 16, 17, 18, 19, 20, 21, 22, 23, 24, 25, 26, 27, 28, 29] rfl rfl rfl rfl (by decide) rfl rfl (fun H locs hP hD hS => ?_)
    obtain ⟨hg_108, hf⟩ := op_if hf
    rw [← Option.some.inj hf]
    exact g_zret hx hb hr hlk hg_108 hK hP hD hS dX10_setting_108
def f_X10_setting (fu : Nat)  (s0 : St)  : Option (Int32 × St) := (f_X10_take fu s0).bind (fun q_11 => if (s0.1 37) = 4 then (if (q_11.1 44) ≤ 0 then ((f_X10_number fu q_11 1 8).bind (fun q_37 => if q_37.1 = 0 then (some (0, q_37.2)) else ((f_X10_semi fu (sF q_37.2 44 (q_37.2.1 55))).bind (fun q_54 => if isB q_54.1 = true then (some (q_54.1, q_54.2)) else none)))) else ((f_X10_wrong fu q_11 3 (s0.1 38)).bind (fun q_29 => if isB q_29.1 = true then (some (q_29.1, q_29.2)) else none))) else ((f_X10_number fu q_11 0 ((q_11.1 41) - 1)).bind (fun q_66 => if q_66.1 = 0 then (some (0, q_66.2)) else (if (s0.1 37) = 2 then (if inb (q_66.2.1 55) 4 = true then (f_X10_setting_L99 fu q_66.2 (s0.1 38) (s0.1 37) (q_66.2.1 55) (q_66.2.2 42 (q_66.2.1 55).toNatClampNeg)) else none) else (if inb (q_66.2.1 55) 4 = true then (f_X10_setting_L99 fu q_66.2 (s0.1 38) (s0.1 37) (q_66.2.1 55) (q_66.2.2 43 (q_66.2.1 55).toNatClampNeg)) else none)))))
theorem hdX10_setting : yX10_setting.cls = RX10 ∧ yX10_setting.cls ≠ "java/lang/invoke/MethodHandle" ∧ yX10_setting.cls ≠ "java/lang/invoke/VarHandle" ∧ (parseMethodDescriptor yX10_setting.desc).map (fun d => d.parameters.length) = some 0 := by decide +kernel
set_option maxHeartbeats 4000000 in
set_option maxRecDepth 100000 in
theorem c_X10_setting (l : Launch) (D : va_G) (cy : Nat → ClassId) (h0 : Nat) (a0 : Nat → Nat) (s0 : St) (sz fu : Nat)  (out : Int32 × St) (hf : f_X10_setting fu s0 = some out) :
    Met l yX10_setting (WS yX10_setting cX10_setting 4 (some .boolean)) ({ frames := 3, cells := 0, slots := 0, locals := 70 } : Room) (va_Pc [.ref h0] (gP D cy sz (w10 cy h0 a0 s0))) ((fun A : Nat → Prop => gQi D cy A out.1 (w10 cy h0 a0 out.2)) (va_A (w10 cy h0 a0 s0) sz)) 0 0 (va_A (w10 cy h0 a0 s0) sz) := by
  refine g_met (cc := cX10_setting) (maxL := 4) (ret := (some .boolean)) (fun A : Nat → Prop => gQi D cy A out.1 (w10 cy h0 a0 out.2)) (by decide +kernel) rfl (Nat.le_of_ble_eq_true rfl) ?_
  intro p e s m below meth c A C hA hK hP hD ls hl
  obtain ⟨hx, hb, hr, hml, hown, hts, hlk⟩ := id C
  have hown : s.vm.findClass RX10 = some m.cls := hown
  have hS : va_S A s.heap s.heap [] := va_S.rf
  have hl : lv_has ls 4 [(0, .ref h0)] := hl
  have hk_160 := hts _ (List.mem_cons_of_mem _ fl_RX10_160)
  have hk_173 := hts _ (List.mem_cons_of_mem _ fl_RX10_173)
  have hk_202 := hts _ (List.mem_cons_of_mem _ fl_RX10_202)
  have hk_186 := hts _ (List.mem_cons_of_mem _ fl_RX10_186)
  have hk_89 := hts _ (List.mem_cons_of_mem _ fl_RX10_89)
  have hk_86 := hts _ (List.mem_cons_of_mem _ fl_RX10_86)
  have hk_192 := hts _ (List.mem_cons_of_mem _ fl_RX10_192)
  unfold f_X10_setting at hf
  refine lv_aload_n hx hb dX10_setting_0 rfl (lv_at hl 0 rfl) ?_
  refine va_get (ci := 9) (v := .int (s0.1 38)) (C := RX10) (T := TX10) (N := 56) hx hb hts (fun w h => List.mem_cons_of_mem _ (inX10 w h)) hown hK hP 0 rfl rfl 38 (by decide) hk_160 (fun _ h9 => h9) rfl dX10_setting_1 ?_
  refine lv_istore_n (lv' := [(1, .int (s0.1 38)), (0, .ref h0)]) hx hb dX10_setting_4 rfl hl (by decide) rfl (fun ls hl => ?_)
  refine lv_aload_n hx hb dX10_setting_5 rfl (lv_at hl 1 rfl) ?_
  refine va_get (ci := 9) (v := .int (s0.1 37)) (C := RX10) (T := TX10) (N := 56) hx hb hts (fun w h => List.mem_cons_of_mem _ (inX10 w h)) hown hK hP 0 rfl rfl 37 (by decide) hk_173 (fun _ h9 => h9) rfl dX10_setting_6 ?_
  refine lv_istore_n (lv' := [(2, .int (s0.1 37)), (1, .int (s0.1 38)), (0, .ref h0)]) hx hb dX10_setting_9 rfl hl (by decide) rfl (fun ls hl => ?_)
  refine lv_aload_n hx hb dX10_setting_10 rfl (lv_at hl 2 rfl) ?_
  obtain ⟨q_11, hc_11, hf⟩ := op_bind hf
  refine g_callVv (As := []) (rest := []) (w2 := w10 cy h0 a0 q_11) ⟨hx, hb, hml, hown, hts⟩ (c_X10_take l D cy h0 a0 s0 _ fu _ hc_11) (cwV 0 hts (gi_V ml_RX10_189 im_X10_take se_X10_take in_RX10 cd_X10_take) rfl rfl rfl hdX10_take ⟨Nat.le_of_ble_eq_true rfl, Nat.le_of_ble_eq_true rfl⟩) (va_recv hK hP (ci := 9) (q0 := 0) rfl rfl) rfl hl.1 rfl (Nat.le_of_ble_eq_true rfl) dX10_setting_11 hK hP hD hS hA [0, 1, 2, 3, 4, 5, 6, 7, 8, 9, 10, 11, 12, 13, 14, 15, 16, 17, 18, 19, 20, 21, 22, 23, 24, 25, 26, 27, 28, 29] [] [0, 1, 2, 3, 4, 5, 6, 7, 8, 9, 10, 11, 12, 13, 14, 15, 16, 17, 18, 19, 20, 21, 22, 23, 24, 25, 26, 27, 28, 29] rfl rfl rfl rfl (by decide) rfl rfl (fun H locs hP hD hS => ?_)
  refine lv_iload_n hx hb dX10_setting_14 rfl (lv_at hl 0 rfl) ?_
  refine lv_iconst (v := 4) hx hb dX10_setting_15 (by decide) ?_
  refine lv_icmp_ne (tgt := 58) hx hb dX10_setting_16 (by decide) (fun c_16 => ?_) (fun c_16 => ?_)
  · have hf := op_neg c_16 hf
    refine lv_aload_n hx hb dX10_setting_58 rfl (lv_at hl 2 rfl) ?_
    refine lv_iconst (v := 0) hx hb dX10_setting_59 (by decide) ?_
    refine lv_aload_n hx hb dX10_setting_60 rfl (lv_at hl 2 rfl) ?_
    refine va_get (ci := 9) (v := .int (q_11.1 41)) (C := RX10) (T := TX10) (N := 56) hx hb hts (fun w h => List.mem_cons_of_mem _ (inX10 w h)) hown hK hP 0 rfl rfl 41 (by decide) hk_202 (fun _ h9 => h9) rfl dX10_setting_61 ?_
    refine lv_iconst (v := 1) hx hb dX10_setting_64 (by decide) ?_
    refine lv_isub hx hb dX10_setting_65 ?_
    obtain ⟨q_66, hc_66, hf⟩ := op_bind hf
    refine g_callVi (As := [.int 0, .int ((q_11.1 41) - 1)]) (rest := []) (w2 := w10 cy h0 a0 q_66.2) ⟨hx, hb, hml, hown, hts⟩ (c_X10_number l D cy h0 a0 q_11 _ fu 0 ((q_11.1 41) - 1) _ hc_66) (cwV 2 hts (gi_V ml_RX10_195 im_X10_number se_X10_number in_RX10 cd_X10_number) rfl rfl rfl hdX10_number ⟨Nat.le_of_ble_eq_true rfl, Nat.le_of_ble_eq_true rfl⟩) (va_recv hK hP (ci := 9) (q0 := 0) rfl rfl) rfl hl.1 rfl (Nat.le_of_ble_eq_true rfl) dX10_setting_66 hK hP hD hS hA [0, 1, 2, 3, 4, 5, 6, 7, 8, 9, 10, 11, 12, 13, 14, 15, 16, 17, 18, 19, 20, 21, 22, 23, 24, 25, 26, 27, 28, 29] [] [0, 1, 2, 3, 4, 5, 6, 7, 8, 9, 10, 11, 12, 13, 14, 15, 16, 17, 18, 19, 20, 21, 22, 23, 24, 25, 26, 27, 28, 29] rfl rfl rfl rfl (by decide) rfl rfl (fun H locs hP hD hS => ?_)
    refine lv_if_ne (tgt := 74) hx hb dX10_setting_69 (by decide) (fun c_69 => ?_) (fun c_69 => ?_)
    · have hf := op_neg c_69 hf
      refine lv_aload_n hx hb dX10_setting_74 rfl (lv_at hl 2 rfl) ?_
      refine va_get (ci := 9) (v := .int (q_66.2.1 55)) (C := RX10) (T := TX10) (N := 56) hx hb hts (fun w h => List.mem_cons_of_mem _ (inX10 w h)) hown hK hP 0 rfl rfl 55 (by decide) hk_186 (fun _ h9 => h9) rfl dX10_setting_75 ?_
      refine lv_istore_n (lv' := [(3, .int (q_66.2.1 55)), (2, .int (s0.1 37)), (1, .int (s0.1 38)), (0, .ref h0)]) hx hb dX10_setting_78 rfl hl (by decide) rfl (fun ls hl => ?_)
      refine lv_iload_n hx hb dX10_setting_79 rfl (lv_at hl 1 rfl) ?_
      refine lv_iconst (v := 2) hx hb dX10_setting_80 (by decide) ?_
      refine lv_icmp_ne (tgt := 93) hx hb dX10_setting_81 (by decide) (fun c_81 => ?_) (fun c_81 => ?_)
      · have hf := op_neg c_81 hf
        refine lv_aload_n hx hb dX10_setting_93 rfl (lv_at hl 3 rfl) ?_
        refine va_get (ci := 9) (v := .ref (a0 43)) (C := RX10) (T := TX10) (N := 56) hx hb hts (fun w h => List.mem_cons_of_mem _ (inX10 w h)) hown hK hP 0 rfl rfl 43 (by decide) hk_89 (fun _ h9 => h9) rfl dX10_setting_94 ?_
        refine lv_iload_n hx hb dX10_setting_97 rfl (lv_at hl 0 rfl) ?_
        obtain ⟨hg_98, hf⟩ := op_if hf
        refine va_iald (f := q_66.2.2 43) hx hb hK hP 22 0 rfl rfl (inb_in hg_98) dX10_setting_98 ?_
        exact b_X10_setting_L99 l D cy h0 a0 fu out C hA hK q_66.2 (s0.1 38) (s0.1 37) (q_66.2.1 55) (q_66.2.2 43 (q_66.2.1 55).toNatClampNeg) hf _ _ ls hP hD hS (lv_sub hl [3, 2, 1, 0] rfl)
      · have hf := op_pos c_81 hf
        refine lv_aload_n hx hb dX10_setting_84 rfl (lv_at hl 3 rfl) ?_
        refine va_get (ci := 9) (v := .ref (a0 42)) (C := RX10) (T := TX10) (N := 56) hx hb hts (fun w h => List.mem_cons_of_mem _ (inX10 w h)) hown hK hP 0 rfl rfl 42 (by decide) hk_86 (fun _ h9 => h9) rfl dX10_setting_85 ?_
        refine lv_iload_n hx hb dX10_setting_88 rfl (lv_at hl 0 rfl) ?_
        obtain ⟨hg_89, hf⟩ := op_if hf
        refine va_iald (f := q_66.2.2 42) hx hb hK hP 21 0 rfl rfl (inb_in hg_89) dX10_setting_89 ?_
        refine lv_goto (tgt := 99) hx hb dX10_setting_90 (by decide) ?_
        exact b_X10_setting_L99 l D cy h0 a0 fu out C hA hK q_66.2 (s0.1 38) (s0.1 37) (q_66.2.1 55) (q_66.2.2 42 (q_66.2.1 55).toNatClampNeg) hf _ _ ls hP hD hS (lv_sub hl [3, 2, 1, 0] rfl)
    · have hf := op_pos c_69 hf
      refine lv_iconst (v := 0) hx hb dX10_setting_72 (by decide) ?_
      rw [← Option.some.inj hf]
      exact g_zret hx hb hr hlk (show isB 0 = true by decide) hK hP hD hS dX10_setting_73
  · have hf := op_pos c_16 hf
    refine lv_aload_n hx hb dX10_setting_19 rfl (lv_at hl 2 rfl) ?_
    refine va_get (ci := 9) (v := .int (q_11.1 44)) (C := RX10) (T := TX10) (N := 56) hx hb hts (fun w h => List.mem_cons_of_mem _ (inX10 w h)) hown hK hP 0 rfl rfl 44 (by decide) hk_192 (fun _ h9 => h9) rfl dX10_setting_20 ?_
    refine lv_if_le (tgt := 33) hx hb dX10_setting_23 (by decide) (fun c_23 => ?_) (fun c_23 => ?_)
    · have hf := op_pos c_23 hf
      refine lv_aload_n hx hb dX10_setting_33 rfl (lv_at hl 2 rfl) ?_
      refine lv_iconst (v := 1) hx hb dX10_setting_34 (by decide) ?_
      refine lv_bipush (v := 8) hx hb dX10_setting_35 (by decide) ?_
      obtain ⟨q_37, hc_37, hf⟩ := op_bind hf
      refine g_callVi (As := [.int 1, .int 8]) (rest := []) (w2 := w10 cy h0 a0 q_37.2) ⟨hx, hb, hml, hown, hts⟩ (c_X10_number l D cy h0 a0 q_11 _ fu 1 8 _ hc_37) (cwV 2 hts (gi_V ml_RX10_195 im_X10_number se_X10_number in_RX10 cd_X10_number) rfl rfl rfl hdX10_number ⟨Nat.le_of_ble_eq_true rfl, Nat.le_of_ble_eq_true rfl⟩) (va_recv hK hP (ci := 9) (q0 := 0) rfl rfl) rfl hl.1 rfl (Nat.le_of_ble_eq_true rfl) dX10_setting_37 hK hP hD hS hA [0, 1, 2, 3, 4, 5, 6, 7, 8, 9, 10, 11, 12, 13, 14, 15, 16, 17, 18, 19, 20, 21, 22, 23, 24, 25, 26, 27, 28, 29] [] [0, 1, 2, 3, 4, 5, 6, 7, 8, 9, 10, 11, 12, 13, 14, 15, 16, 17, 18, 19, 20, 21, 22, 23, 24, 25, 26, 27, 28, 29] rfl rfl rfl rfl (by decide) rfl rfl (fun H locs hP hD hS => ?_)
      refine lv_if_ne (tgt := 45) hx hb dX10_setting_40 (by decide) (fun c_40 => ?_) (fun c_40 => ?_)
      · have hf := op_neg c_40 hf
        refine lv_aload_n hx hb dX10_setting_45 rfl (lv_at hl 2 rfl) ?_
        refine lv_aload_n hx hb dX10_setting_46 rfl (lv_at hl 2 rfl) ?_
        refine va_get (ci := 9) (v := .int (q_37.2.1 55)) (C := RX10) (T := TX10) (N := 56) hx hb hts (fun w h => List.mem_cons_of_mem _ (inX10 w h)) hown hK hP 0 rfl rfl 55 (by decide) hk_186 (fun _ h9 => h9) rfl dX10_setting_47 ?_
        refine va_put (ci := 9) (v := .int (q_37.2.1 55)) (ty := tyX10 44) (C := RX10) (T := TX10) (N := 56) hx hb hts (fun w h => List.mem_cons_of_mem _ (inX10 w h)) tyX10 tyX10_ok nmX10 hown hK hP hD hS 0 rfl rfl 44 (by decide) hk_192 (fun _ h9 => h9) rfl (tyX10_ok 44 (by decide)) rfl rfl (Nat.le_of_ble_eq_true rfl) dX10_setting_50 (fun H locs hP hD hS => ?_)
        have hP : va_P D vwCl (w10 cy h0 a0 (sF q_37.2 44 (q_37.2.1 55))) H := pP10_44 hP
        have hD : va_D A (w10 cy h0 a0 (sF q_37.2 44 (q_37.2.1 55))) := pD10_44 hD
        refine lv_aload_n hx hb dX10_setting_53 rfl (lv_at hl 2 rfl) ?_
        obtain ⟨q_54, hc_54, hf⟩ := op_bind hf
        refine g_callVi (As := []) (rest := []) (w2 := w10 cy h0 a0 q_54.2) ⟨hx, hb, hml, hown, hts⟩ (c_X10_semi l D cy h0 a0 (sF q_37.2 44 (q_37.2.1 55)) _ fu _ hc_54) (cwV 0 hts (gi_V ml_RX10_198 im_X10_semi se_X10_semi in_RX10 cd_X10_semi) rfl rfl rfl hdX10_semi ⟨Nat.le_of_ble_eq_true rfl, Nat.le_of_ble_eq_true rfl⟩) (va_recv hK hP (ci := 9) (q0 := 0) rfl rfl) rfl hl.1 rfl (Nat.le_of_ble_eq_true rfl) dX10_setting_54 hK hP hD hS hA [0, 1, 2, 3, 4, 5, 6, 7, 8, 9, 10, 11, 12, 13, 14, 15, 16, 17, 18, 19, 20, 21, 22, 23, 24, 25, 26, 27, 28, 29] [] [0, 1, 2, 3, 4, 5, 6, 7, 8, 9, 10, 11, 12, 13, 14, 15, 16, 17, 18, 19, 20, 21, 22, 23, 24, 25, 26, 27, 28, 29] rfl rfl rfl rfl (by decide) rfl rfl (fun H locs hP hD hS => ?_)
        obtain ⟨hg_57, hf⟩ := op_if hf
        rw [← Option.some.inj hf]
        exact g_zret hx hb hr hlk hg_57 hK hP hD hS dX10_setting_57
      · have hf := op_pos c_40 hf
        refine lv_iconst (v := 0) hx hb dX10_setting_43 (by decide) ?_
        rw [← Option.some.inj hf]
        exact g_zret hx hb hr hlk (show isB 0 = true by decide) hK hP hD hS dX10_setting_44
    · have hf := op_neg c_23 hf
      refine lv_aload_n hx hb dX10_setting_26 rfl (lv_at hl 2 rfl) ?_
      refine lv_iconst (v := 3) hx hb dX10_setting_27 (by decide) ?_
      refine lv_iload_n hx hb dX10_setting_28 rfl (lv_at hl 1 rfl) ?_
      obtain ⟨q_29, hc_29, hf⟩ := op_bind hf
      refine g_callVi (As := [.int 3, .int (s0.1 38)]) (rest := []) (w2 := w10 cy h0 a0 q_29.2) ⟨hx, hb, hml, hown, hts⟩ (c_X10_wrong l D cy h0 a0 q_11 _ fu 3 (s0.1 38) _ hc_29) (cwV 2 hts (gi_V ml_RX10_183 im_X10_wrong se_X10_wrong in_RX10 cd_X10_wrong) rfl rfl rfl hdX10_wrong ⟨Nat.le_of_ble_eq_true rfl, Nat.le_of_ble_eq_true rfl⟩) (va_recv hK hP (ci := 9) (q0 := 0) rfl rfl) rfl hl.1 rfl (Nat.le_of_ble_eq_true rfl) dX10_setting_29 hK hP hD hS hA [0, 1, 2, 3, 4, 5, 6, 7, 8, 9, 10, 11, 12, 13, 14, 15, 16, 17, 18, 19, 20, 21, 22, 23, 24, 25, 26, 27, 28, 29] [] [0, 1, 2, 3, 4, 5, 6, 7, 8, 9, 10, 11, 12, 13, 14, 15, 16, 17, 18, 19, 20, 21, 22, 23, 24, 25, 26, 27, 28, 29] rfl rfl rfl rfl (by decide) rfl rfl (fun H locs hP hD hS => ?_)
      obtain ⟨hg_32, hf⟩ := op_if hf
      rw [← Option.some.inj hf]
      exact g_zret hx hb hr hlk hg_32 hK hP hD hS dX10_setting_32
def f_X10_bar_L50  (fu : Nat)  (u0 : St) : Option (Int32 × St) := if inb (u0.1 45) 40 = true then (some (1, sA u0 47 ((u0.1 45).toNatClampNeg) (u0.1 55))) else none
set_option maxHeartbeats 4000000 in
set_option maxRecDepth 100000 in
theorem b_X10_bar_L50 {p : Program} {e : Env} {s : State} {m : MethodId} {args : Array Value} {below : List Frame} {meth : Method} {c : Code} {A : Nat → Prop} (l : Launch) (D : va_G) (cy : Nat → ClassId) (h0 : Nat) (a0 : Nat → Nat) (fu : Nat) (out : Int32 × St) (C : gC p s m args meth c (WS yX10_bar cX10_bar 2 (some .boolean)) cX10_bar 2 (some .boolean) RX10) (hA : ∀ q : Nat, s.heap.size ≤ q → A q) (hK : va_K D vwCl (TY cy) s)  :
    ∀ (u0 : St), f_X10_bar_L50 fu u0 = some out → ∀ (H : Heap) (locs : List Loc) (ls : Array Slot), va_P D vwCl (w10 cy h0 a0 u0) H → va_D A (w10 cy h0 a0 u0) → va_S A s.heap H locs → lv_has ls 2 [(0, .ref h0)] → W p l e ({ frames := 3, cells := 0, slots := 0, locals := 70 } : Room) s m args below meth c H locs 0 0 (MQ below (gQi D cy A out.1 (w10 cy h0 a0 out.2)) args s 0 0 A) (F0 m 50 ls []) := by
  obtain ⟨hx, hb, hr, hml, hown, hts, hlk⟩ := id C
  have hown : s.vm.findClass RX10 = some m.cls := hown
  have hk_92 := hts _ (List.mem_cons_of_mem _ fl_RX10_92)
  have hk_205 := hts _ (List.mem_cons_of_mem _ fl_RX10_205)
  have hk_186 := hts _ (List.mem_cons_of_mem _ fl_RX10_186)
  intro u0 hf H locs ls hP hD hS hl
  unfold f_X10_bar_L50 at hf
  refine lv_aload_n hx hb dX10_bar_50 rfl (lv_at hl 0 rfl) ?_
  refine va_get (ci := 9) (v := .ref (a0 47)) (C := RX10) (T := TX10) (N := 56) hx hb hts (fun w h => List.mem_cons_of_mem _ (inX10 w h)) hown hK hP 0 rfl rfl 47 (by decide) hk_92 (fun _ h9 => h9) rfl dX10_bar_51 ?_
  refine lv_aload_n hx hb dX10_bar_54 rfl (lv_at hl 0 rfl) ?_
  refine va_get (ci := 9) (v := .int (u0.1 45)) (C := RX10) (T := TX10) (N := 56) hx hb hts (fun w h => List.mem_cons_of_mem _ (inX10 w h)) hown hK hP 0 rfl rfl 45 (by decide) hk_205 (fun _ h9 => h9) rfl dX10_bar_55 ?_
  refine lv_aload_n hx hb dX10_bar_58 rfl (lv_at hl 0 rfl) ?_
  refine va_get (ci := 9) (v := .int (u0.1 55)) (C := RX10) (T := TX10) (N := 56) hx hb hts (fun w h => List.mem_cons_of_mem _ (inX10 w h)) hown hK hP 0 rfl rfl 55 (by decide) hk_186 (fun _ h9 => h9) rfl dX10_bar_59 ?_
  obtain ⟨hg_62, hf⟩ := op_if hf
  refine va_iast (f := u0.2 47) (x := u0.1 55) hx hb hK hP hD hS 23 0 rfl rfl (inb_in hg_62) dX10_bar_62 (fun H locs hP hD hS => ?_)
  have hP : va_P D vwCl (w10 cy h0 a0 (sA u0 47 ((u0.1 45).toNatClampNeg) (u0.1 55))) H := pP10_47 hP
  have hD : va_D A (w10 cy h0 a0 (sA u0 47 ((u0.1 45).toNatClampNeg) (u0.1 55))) := pD10_47 hD
  refine lv_iconst (v := 1) hx hb dX10_bar_63 (by decide) ?_
  rw [← Option.some.inj hf]
  exact g_zret hx hb hr hlk (show isB 1 = true by decide) hK hP hD hS dX10_bar_64
def f_X10_bar (fu : Nat)  (s0 : St)  : Option (Int32 × St) := (f_X10_number fu s0 1 999).bind (fun q_10 => if q_10.1 = 0 then (some (0, q_10.2)) else (if (q_10.2.1 45) ≤ 0 then (f_X10_bar_L50 fu q_10.2) else (if inb ((q_10.2.1 45) - 1) 40 = true then (if (q_10.2.2 47 ((q_10.2.1 45) - 1).toNatClampNeg) < (q_10.2.1 55) then (f_X10_bar_L50 fu q_10.2) else ((f_X10_wrong fu q_10.2 3 (s0.1 38)).bind (fun q_46 => if isB q_46.1 = true then (some (q_46.1, q_46.2)) else none))) else none)))
theorem hdX10_bar : yX10_bar.cls = RX10 ∧ yX10_bar.cls ≠ "java/lang/invoke/MethodHandle" ∧ yX10_bar.cls ≠ "java/lang/invoke/VarHandle" ∧ (parseMethodDescriptor yX10_bar.desc).map (fun d => d.parameters.length) = some 0 := by decide +kernel
set_option maxHeartbeats 4000000 in
set_option maxRecDepth 100000 in
theorem c_X10_bar (l : Launch) (D : va_G) (cy : Nat → ClassId) (h0 : Nat) (a0 : Nat → Nat) (s0 : St) (sz fu : Nat)  (out : Int32 × St) (hf : f_X10_bar fu s0 = some out) :
    Met l yX10_bar (WS yX10_bar cX10_bar 2 (some .boolean)) ({ frames := 3, cells := 0, slots := 0, locals := 70 } : Room) (va_Pc [.ref h0] (gP D cy sz (w10 cy h0 a0 s0))) ((fun A : Nat → Prop => gQi D cy A out.1 (w10 cy h0 a0 out.2)) (va_A (w10 cy h0 a0 s0) sz)) 0 0 (va_A (w10 cy h0 a0 s0) sz) := by
  refine g_met (cc := cX10_bar) (maxL := 2) (ret := (some .boolean)) (fun A : Nat → Prop => gQi D cy A out.1 (w10 cy h0 a0 out.2)) (by decide +kernel) rfl (Nat.le_of_ble_eq_true rfl) ?_
  intro p e s m below meth c A C hA hK hP hD ls hl
  obtain ⟨hx, hb, hr, hml, hown, hts, hlk⟩ := id C
  have hown : s.vm.findClass RX10 = some m.cls := hown
  have hS : va_S A s.heap s.heap [] := va_S.rf
  have hl : lv_has ls 2 [(0, .ref h0)] := hl
  have hk_160 := hts _ (List.mem_cons_of_mem _ fl_RX10_160)
  have hk_205 := hts _ (List.mem_cons_of_mem _ fl_RX10_205)
  have hk_186 := hts _ (List.mem_cons_of_mem _ fl_RX10_186)
  have hk_92 := hts _ (List.mem_cons_of_mem _ fl_RX10_92)
  unfold f_X10_bar at hf
  refine lv_aload_n hx hb dX10_bar_0 rfl (lv_at hl 0 rfl) ?_
  refine va_get (ci := 9) (v := .int (s0.1 38)) (C := RX10) (T := TX10) (N := 56) hx hb hts (fun w h => List.mem_cons_of_mem _ (inX10 w h)) hown hK hP 0 rfl rfl 38 (by decide) hk_160 (fun _ h9 => h9) rfl dX10_bar_1 ?_
  refine lv_istore_n (lv' := [(1, .int (s0.1 38)), (0, .ref h0)]) hx hb dX10_bar_4 rfl hl (by decide) rfl (fun ls hl => ?_)
  refine lv_aload_n hx hb dX10_bar_5 rfl (lv_at hl 1 rfl) ?_
  refine lv_iconst (v := 1) hx hb dX10_bar_6 (by decide) ?_
  refine lv_sipush (v := 999) hx hb dX10_bar_7 (by decide) ?_
  obtain ⟨q_10, hc_10, hf⟩ := op_bind hf
  refine g_callVi (As := [.int 1, .int 999]) (rest := []) (w2 := w10 cy h0 a0 q_10.2) ⟨hx, hb, hml, hown, hts⟩ (c_X10_number l D cy h0 a0 s0 _ fu 1 999 _ hc_10) (cwV 2 hts (gi_V ml_RX10_195 im_X10_number se_X10_number in_RX10 cd_X10_number) rfl rfl rfl hdX10_number ⟨Nat.le_of_ble_eq_true rfl, Nat.le_of_ble_eq_true rfl⟩) (va_recv hK hP (ci := 9) (q0 := 0) rfl rfl) rfl hl.1 rfl (Nat.le_of_ble_eq_true rfl) dX10_bar_10 hK hP hD hS hA [0, 1, 2, 3, 4, 5, 6, 7, 8, 9, 10, 11, 12, 13, 14, 15, 16, 17, 18, 19, 20, 21, 22, 23, 24, 25, 26, 27, 28, 29] [] [0, 1, 2, 3, 4, 5, 6, 7, 8, 9, 10, 11, 12, 13, 14, 15, 16, 17, 18, 19, 20, 21, 22, 23, 24, 25, 26, 27, 28, 29] rfl rfl rfl rfl (by decide) rfl rfl (fun H locs hP hD hS => ?_)
  refine lv_if_ne (tgt := 18) hx hb dX10_bar_13 (by decide) (fun c_13 => ?_) (fun c_13 => ?_)
  · have hf := op_neg c_13 hf
    refine lv_aload_n hx hb dX10_bar_18 rfl (lv_at hl 1 rfl) ?_
    refine va_get (ci := 9) (v := .int (q_10.2.1 45)) (C := RX10) (T := TX10) (N := 56) hx hb hts (fun w h => List.mem_cons_of_mem _ (inX10 w h)) hown hK hP 0 rfl rfl 45 (by decide) hk_205 (fun _ h9 => h9) rfl dX10_bar_19 ?_
    refine lv_if_le (tgt := 50) hx hb dX10_bar_22 (by decide) (fun c_22 => ?_) (fun c_22 => ?_)
    · have hf := op_pos c_22 hf
      exact b_X10_bar_L50 l D cy h0 a0 fu out C hA hK q_10.2 hf _ _ ls hP hD hS (lv_sub hl [1] rfl)
    · have hf := op_neg c_22 hf
      refine lv_aload_n hx hb dX10_bar_25 rfl (lv_at hl 1 rfl) ?_
      refine va_get (ci := 9) (v := .int (q_10.2.1 55)) (C := RX10) (T := TX10) (N := 56) hx hb hts (fun w h => List.mem_cons_of_mem _ (inX10 w h)) hown hK hP 0 rfl rfl 55 (by decide) hk_186 (fun _ h9 => h9) rfl dX10_bar_26 ?_
      refine lv_aload_n hx hb dX10_bar_29 rfl (lv_at hl 1 rfl) ?_
      refine va_get (ci := 9) (v := .ref (a0 47)) (C := RX10) (T := TX10) (N := 56) hx hb hts (fun w h => List.mem_cons_of_mem _ (inX10 w h)) hown hK hP 0 rfl rfl 47 (by decide) hk_92 (fun _ h9 => h9) rfl dX10_bar_30 ?_
      refine lv_aload_n hx hb dX10_bar_33 rfl (lv_at hl 1 rfl) ?_
      refine va_get (ci := 9) (v := .int (q_10.2.1 45)) (C := RX10) (T := TX10) (N := 56) hx hb hts (fun w h => List.mem_cons_of_mem _ (inX10 w h)) hown hK hP 0 rfl rfl 45 (by decide) hk_205 (fun _ h9 => h9) rfl dX10_bar_34 ?_
      refine lv_iconst (v := 1) hx hb dX10_bar_37 (by decide) ?_
      refine lv_isub hx hb dX10_bar_38 ?_
      obtain ⟨hg_39, hf⟩ := op_if hf
      refine va_iald (f := q_10.2.2 47) hx hb hK hP 23 0 rfl rfl (inb_in hg_39) dX10_bar_39 ?_
      refine lv_icmp_gt (tgt := 50) hx hb dX10_bar_40 (by decide) (fun c_40 => ?_) (fun c_40 => ?_)
      · have hf := op_pos c_40 hf
        exact b_X10_bar_L50 l D cy h0 a0 fu out C hA hK q_10.2 hf _ _ ls hP hD hS (lv_sub hl [1] rfl)
      · have hf := op_neg c_40 hf
        refine lv_aload_n hx hb dX10_bar_43 rfl (lv_at hl 1 rfl) ?_
        refine lv_iconst (v := 3) hx hb dX10_bar_44 (by decide) ?_
        refine lv_iload_n hx hb dX10_bar_45 rfl (lv_at hl 0 rfl) ?_
        obtain ⟨q_46, hc_46, hf⟩ := op_bind hf
        refine g_callVi (As := [.int 3, .int (s0.1 38)]) (rest := []) (w2 := w10 cy h0 a0 q_46.2) ⟨hx, hb, hml, hown, hts⟩ (c_X10_wrong l D cy h0 a0 q_10.2 _ fu 3 (s0.1 38) _ hc_46) (cwV 2 hts (gi_V ml_RX10_183 im_X10_wrong se_X10_wrong in_RX10 cd_X10_wrong) rfl rfl rfl hdX10_wrong ⟨Nat.le_of_ble_eq_true rfl, Nat.le_of_ble_eq_true rfl⟩) (va_recv hK hP (ci := 9) (q0 := 0) rfl rfl) rfl hl.1 rfl (Nat.le_of_ble_eq_true rfl) dX10_bar_46 hK hP hD hS hA [0, 1, 2, 3, 4, 5, 6, 7, 8, 9, 10, 11, 12, 13, 14, 15, 16, 17, 18, 19, 20, 21, 22, 23, 24, 25, 26, 27, 28, 29] [] [0, 1, 2, 3, 4, 5, 6, 7, 8, 9, 10, 11, 12, 13, 14, 15, 16, 17, 18, 19, 20, 21, 22, 23, 24, 25, 26, 27, 28, 29] rfl rfl rfl rfl (by decide) rfl rfl (fun H locs hP hD hS => ?_)
        obtain ⟨hg_49, hf⟩ := op_if hf
        rw [← Option.some.inj hf]
        exact g_zret hx hb hr hlk hg_49 hK hP hD hS dX10_bar_49
  · have hf := op_pos c_13 hf
    refine lv_iconst (v := 0) hx hb dX10_bar_16 (by decide) ?_
    rw [← Option.some.inj hf]
    exact g_zret hx hb hr hlk (show isB 0 = true by decide) hK hP hD hS dX10_bar_17
