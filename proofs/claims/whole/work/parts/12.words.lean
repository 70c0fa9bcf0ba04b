def f_X8_areWithin (fu : Nat) (b0 : Nat → Int32)  (p1 : Int32) (p2 : Int32) : Option (Int32) := if p1 < 0 then (some 0) else (if p2 < 0 then (some 0) else (if 1500 < p2 then (some 0) else (if (1500 - p2) < p1 then (some 0) else (some 1))))
theorem hdX8_areWithin : yX8_areWithin.cls ≠ "java/lang/invoke/MethodHandle" ∧ yX8_areWithin.cls ≠ "java/lang/invoke/VarHandle" ∧ (parseMethodDescriptor yX8_areWithin.desc).map (fun d => d.parameters.length) = some 3 := by decide +kernel
set_option maxHeartbeats 4000000 in
set_option maxRecDepth 100000 in
theorem c_X8_areWithin (l : Launch) (D : va_G) (cy : Nat → ClassId) (h0 : Nat) (b0 : Nat → Int32) (sz fu : Nat) (p1 : Int32) (p2 : Int32) (out : Int32) (hf : f_X8_areWithin fu b0 p1 p2 = some out) :
    Met l yX8_areWithin (WS yX8_areWithin cX8_areWithin 3 (some .boolean)) ({ frames := 0, cells := 0, slots := 0, locals := 0 } : Room) (va_Pc [.ref h0, .int p1, .int p2] (gP D cy sz (wB cy h0 b0))) ((fun A : Nat → Prop => gQi D cy A out (wB cy h0 b0)) (va_A (wB cy h0 b0) sz)) 0 0 (va_A (wB cy h0 b0) sz) := by
  refine g_met (cc := cX8_areWithin) (maxL := 3) (ret := (some .boolean)) (fun A : Nat → Prop => gQi D cy A out (wB cy h0 b0)) (by decide +kernel) rfl (Nat.le_of_ble_eq_true rfl) ?_
  intro p e s m below meth c A C hA hK hP hD ls hl
  obtain ⟨hx, hb, hr, hml, hown, hts, hlk⟩ := id C
  have hown : s.vm.findClass RX8 = some m.cls := hown
  have hS : va_S A s.heap s.heap [] := va_S.rf
  have hl : lv_has ls 3 [(0, .ref h0), (1, .int p1), (2, .int p2)] := hl
  unfold f_X8_areWithin at hf
  refine lv_iload_n hx hb dX8_areWithin_0 rfl (lv_at hl 1 rfl) ?_
  refine lv_if_lt (tgt := 26) hx hb dX8_areWithin_1 (by decide) (fun c_1 => ?_) (fun c_1 => ?_)
  · have hf := op_pos c_1 hf
    refine lv_iconst (v := 0) hx hb dX8_areWithin_26 (by decide) ?_
    rw [← Option.some.inj hf]
    exact g_zret hx hb hr hlk (show isB 0 = true by decide) hK hP hD hS dX8_areWithin_27
  · have hf := op_neg c_1 hf
    refine lv_iload_n hx hb dX8_areWithin_4 rfl (lv_at hl 2 rfl) ?_
    refine lv_if_lt (tgt := 26) hx hb dX8_areWithin_5 (by decide) (fun c_5 => ?_) (fun c_5 => ?_)
    · have hf := op_pos c_5 hf
      refine lv_iconst (v := 0) hx hb dX8_areWithin_26 (by decide) ?_
      rw [← Option.some.inj hf]
      exact g_zret hx hb hr hlk (show isB 0 = true by decide) hK hP hD hS dX8_areWithin_27
    · have hf := op_neg c_5 hf
      refine lv_iload_n hx hb dX8_areWithin_8 rfl (lv_at hl 2 rfl) ?_
      refine lv_aload_n hx hb dX8_areWithin_9 rfl (lv_at hl 0 rfl) ?_
      refine va_alen (v := 1500) hx hb hK hP 0 1 rfl rfl rfl dX8_areWithin_10 ?_
      refine lv_icmp_gt (tgt := 26) hx hb dX8_areWithin_11 (by decide) (fun c_11 => ?_) (fun c_11 => ?_)
      · have hf := op_pos c_11 hf
        refine lv_iconst (v := 0) hx hb dX8_areWithin_26 (by decide) ?_
        rw [← Option.some.inj hf]
        exact g_zret hx hb hr hlk (show isB 0 = true by decide) hK hP hD hS dX8_areWithin_27
      · have hf := op_neg c_11 hf
        refine lv_iload_n hx hb dX8_areWithin_14 rfl (lv_at hl 1 rfl) ?_
        refine lv_aload_n hx hb dX8_areWithin_15 rfl (lv_at hl 0 rfl) ?_
        refine va_alen (v := 1500) hx hb hK hP 0 1 rfl rfl rfl dX8_areWithin_16 ?_
        refine lv_iload_n hx hb dX8_areWithin_17 rfl (lv_at hl 2 rfl) ?_
        refine lv_isub hx hb dX8_areWithin_18 ?_
        refine lv_icmp_gt (tgt := 26) hx hb dX8_areWithin_19 (by decide) (fun c_19 => ?_) (fun c_19 => ?_)
        · have hf := op_pos c_19 hf
          refine lv_iconst (v := 0) hx hb dX8_areWithin_26 (by decide) ?_
          rw [← Option.some.inj hf]
          exact g_zret hx hb hr hlk (show isB 0 = true by decide) hK hP hD hS dX8_areWithin_27
        · have hf := op_neg c_19 hf
          refine lv_iconst (v := 1) hx hb dX8_areWithin_22 (by decide) ?_
          refine lv_goto (tgt := 27) hx hb dX8_areWithin_23 (by decide) ?_
          rw [← Option.some.inj hf]
          exact g_zret hx hb hr hlk (show isB 1 = true by decide) hK hP hD hS dX8_areWithin_27
def f_X8_areProper_L67 (k_17 : Int32 → Int32 → Int32 → Int32 → Option (Int32)) (fu : Nat) (b0 : Nat → Int32) (x1 : Int32) (x2 : Int32) (x4 : Int32) (x5 : Int32) : Option (Int32) := k_17 x1 x2 x5 (x4 + 1)
set_option maxHeartbeats 4000000 in
set_option maxRecDepth 100000 in
theorem b_X8_areProper_L67 {p : Program} {e : Env} {s : State} {m : MethodId} {args : Array Value} {below : List Frame} {meth : Method} {c : Code} {A : Nat → Prop} (l : Launch) (D : va_G) (cy : Nat → ClassId) (h0 : Nat) (b0 : Nat → Int32) (fu : Nat) (out : Int32) (C : gC p s m args meth c (WS yX8_areProper cX8_areProper 6 (some .boolean)) cX8_areProper 6 (some .boolean) RX8) (hA : ∀ q : Nat, s.heap.size ≤ q → A q) (hK : va_K D vwCl (TY cy) s) (k_17 : Int32 → Int32 → Int32 → Int32 → Option (Int32)) (hk_17 : ∀ (x1 : Int32) (x2 : Int32) (x3 : Int32) (x4 : Int32), k_17 x1 x2 x3 x4 = some out → ∀ (H : Heap) (locs : List Loc) (ls : Array Slot), va_P D vwCl (wB cy h0 b0) H → va_D A (wB cy h0 b0) → va_S A s.heap H locs → lv_has ls 6 [(0, .ref h0), (1, .int x1), (2, .int x2), (3, .int x3), (4, .int x4)] → W p l e ({ frames := 1, cells := 0, slots := 0, locals := 22 } : Room) s m args below meth c H locs 0 0 (MQ below (gQi D cy A out (wB cy h0 b0)) args s 0 0 A) (F0 m 17 ls [])) :
    ∀ (x1 : Int32) (x2 : Int32) (x4 : Int32) (x5 : Int32), f_X8_areProper_L67 k_17 fu b0 x1 x2 x4 x5 = some out → ∀ (H : Heap) (locs : List Loc) (ls : Array Slot), va_P D vwCl (wB cy h0 b0) H → va_D A (wB cy h0 b0) → va_S A s.heap H locs → lv_has ls 6 [(0, .ref h0), (1, .int x1), (2, .int x2), (4, .int x4), (5, .int x5)] → W p l e ({ frames := 1, cells := 0, slots := 0, locals := 22 } : Room) s m args below meth c H locs 0 0 (MQ below (gQi D cy A out (wB cy h0 b0)) args s 0 0 A) (F0 m 67 ls []) := by
  obtain ⟨hx, hb, hr, hml, hown, hts, hlk⟩ := id C
  have hown : s.vm.findClass RX8 = some m.cls := hown
  intro x1 x2 x4 x5 hf H locs ls hP hD hS hl
  unfold f_X8_areProper_L67 at hf
  refine lv_iload hx hb dX8_areProper_67 (lv_at hl 4 rfl) ?_
  refine lv_istore_n (lv' := [(3, .int x5), (0, .ref h0), (1, .int x1), (2, .int x2), (4, .int x4), (5, .int x5)]) hx hb dX8_areProper_69 rfl hl (by decide) rfl (fun ls hl => ?_)
  refine lv_iinc (v := x4 + 1) (lv' := [(4, .int (x4 + 1)), (3, .int x5), (0, .ref h0), (1, .int x1), (2, .int x2), (5, .int x5)]) hx hb dX8_areProper_70 hl (k := 4) rfl rfl (by decide) rfl (fun ls hl => ?_)
  refine lv_goto (tgt := 17) hx hb dX8_areProper_73 (by decide) ?_
  exact hk_17 x1 x2 x5 (x4 + 1) hf _ _ ls hP hD hS (lv_sub hl [2, 3, 4, 1, 0] rfl)
def f_X8_areProper_L17  (fu : Nat) (b0 : Nat → Int32) : Nat → Int32 → Int32 → Int32 → Int32 → Option (Int32)
  | 0, _, _, _, _ => none
  | n_17 + 1, x1, x2, x3, x4 => if (x1 + x2) ≤ x4 then (if x3 = 32 then (some 0) else (some 1)) else (if inb x4 1500 = true then (if (b0 x4.toNatClampNeg) < 32 then (some 0) else (if 126 < (b0 x4.toNatClampNeg) then (some 0) else (if (b0 x4.toNatClampNeg) = 34 then (some 0) else (if (b0 x4.toNatClampNeg) = 32 then (if x3 = 32 then (some 0) else (f_X8_areProper_L67 (f_X8_areProper_L17 fu b0 n_17) fu b0 x1 x2 x4 (b0 x4.toNatClampNeg))) else (f_X8_areProper_L67 (f_X8_areProper_L17 fu b0 n_17) fu b0 x1 x2 x4 (b0 x4.toNatClampNeg)))))) else none)
set_option maxHeartbeats 4000000 in
set_option maxRecDepth 100000 in
theorem b_X8_areProper_L17 {p : Program} {e : Env} {s : State} {m : MethodId} {args : Array Value} {below : List Frame} {meth : Method} {c : Code} {A : Nat → Prop} (l : Launch) (D : va_G) (cy : Nat → ClassId) (h0 : Nat) (b0 : Nat → Int32) (fu : Nat) (out : Int32) (C : gC p s m args meth c (WS yX8_areProper cX8_areProper 6 (some .boolean)) cX8_areProper 6 (some .boolean) RX8) (hA : ∀ q : Nat, s.heap.size ≤ q → A q) (hK : va_K D vwCl (TY cy) s)  :
    ∀ (n_17 : Nat), ∀ (x1 : Int32) (x2 : Int32) (x3 : Int32) (x4 : Int32), f_X8_areProper_L17 fu b0 n_17 x1 x2 x3 x4 = some out → ∀ (H : Heap) (locs : List Loc) (ls : Array Slot), va_P D vwCl (wB cy h0 b0) H → va_D A (wB cy h0 b0) → va_S A s.heap H locs → lv_has ls 6 [(0, .ref h0), (1, .int x1), (2, .int x2), (3, .int x3), (4, .int x4)] → W p l e ({ frames := 1, cells := 0, slots := 0, locals := 22 } : Room) s m args below meth c H locs 0 0 (MQ below (gQi D cy A out (wB cy h0 b0)) args s 0 0 A) (F0 m 17 ls []) := by
  obtain ⟨hx, hb, hr, hml, hown, hts, hlk⟩ := id C
  have hown : s.vm.findClass RX8 = some m.cls := hown
  intro n_17
  induction n_17 with
  | zero => intro x1 x2 x3 x4 hf; exact op_no hf
  | succ n_17 ih_17 =>
    intro x1 x2 x3 x4 hf H locs ls hP hD hS hl
    rw [f_X8_areProper_L17] at hf
    refine lv_iload hx hb dX8_areProper_17 (lv_at hl 4 rfl) ?_
    refine lv_iload_n hx hb dX8_areProper_19 rfl (lv_at hl 1 rfl) ?_
    refine lv_iload_n hx hb dX8_areProper_20 rfl (lv_at hl 2 rfl) ?_
    refine lv_iadd hx hb dX8_areProper_21 ?_
    refine lv_icmp_ge (tgt := 76) hx hb dX8_areProper_22 (by decide) (fun c_22 => ?_) (fun c_22 => ?_)
    · have hf := op_pos c_22 hf
      refine lv_iload_n hx hb dX8_areProper_76 rfl (lv_at hl 3 rfl) ?_
      refine lv_bipush (v := 32) hx hb dX8_areProper_77 (by decide) ?_
      refine lv_icmp_eq (tgt := 86) hx hb dX8_areProper_79 (by decide) (fun c_79 => ?_) (fun c_79 => ?_)
      · have hf := op_pos c_79 hf
        refine lv_iconst (v := 0) hx hb dX8_areProper_86 (by decide) ?_
        rw [← Option.some.inj hf]
        exact g_zret hx hb hr hlk (show isB 0 = true by decide) hK hP hD hS dX8_areProper_87
      · have hf := op_neg c_79 hf
        refine lv_iconst (v := 1) hx hb dX8_areProper_82 (by decide) ?_
        refine lv_goto (tgt := 87) hx hb dX8_areProper_83 (by decide) ?_
        rw [← Option.some.inj hf]
        exact g_zret hx hb hr hlk (show isB 1 = true by decide) hK hP hD hS dX8_areProper_87
    · have hf := op_neg c_22 hf
      refine lv_aload_n hx hb dX8_areProper_25 rfl (lv_at hl 0 rfl) ?_
      refine lv_iload hx hb dX8_areProper_26 (lv_at hl 4 rfl) ?_
      obtain ⟨hg_28, hf⟩ := op_if hf
      refine va_bald (f := b0) hx hb hK hP 0 1 rfl rfl (inb_in hg_28) dX8_areProper_28 ?_
      refine lv_istore (lv' := [(5, .int (b0 x4.toNatClampNeg)), (0, .ref h0), (1, .int x1), (2, .int x2), (3, .int x3), (4, .int x4)]) hx hb dX8_areProper_29 hl (by decide) rfl (fun ls hl => ?_)
      refine lv_iload hx hb dX8_areProper_31 (lv_at hl 0 rfl) ?_
      refine lv_bipush (v := 32) hx hb dX8_areProper_33 (by decide) ?_
      refine lv_icmp_lt (tgt := 65) hx hb dX8_areProper_35 (by decide) (fun c_35 => ?_) (fun c_35 => ?_)
      · have hf := op_pos c_35 hf
        refine lv_iconst (v := 0) hx hb dX8_areProper_65 (by decide) ?_
        rw [← Option.some.inj hf]
        exact g_zret hx hb hr hlk (show isB 0 = true by decide) hK hP hD hS dX8_areProper_66
      · have hf := op_neg c_35 hf
        refine lv_iload hx hb dX8_areProper_38 (lv_at hl 0 rfl) ?_
        refine lv_bipush (v := 126) hx hb dX8_areProper_40 (by decide) ?_
        refine lv_icmp_gt (tgt := 65) hx hb dX8_areProper_42 (by decide) (fun c_42 => ?_) (fun c_42 => ?_)
        · have hf := op_pos c_42 hf
          refine lv_iconst (v := 0) hx hb dX8_areProper_65 (by decide) ?_
          rw [← Option.some.inj hf]
          exact g_zret hx hb hr hlk (show isB 0 = true by decide) hK hP hD hS dX8_areProper_66
        · have hf := op_neg c_42 hf
          refine lv_iload hx hb dX8_areProper_45 (lv_at hl 0 rfl) ?_
          refine lv_bipush (v := 34) hx hb dX8_areProper_47 (by decide) ?_
          refine lv_icmp_eq (tgt := 65) hx hb dX8_areProper_49 (by decide) (fun c_49 => ?_) (fun c_49 => ?_)
          · have hf := op_pos c_49 hf
            refine lv_iconst (v := 0) hx hb dX8_areProper_65 (by decide) ?_
            rw [← Option.some.inj hf]
            exact g_zret hx hb hr hlk (show isB 0 = true by decide) hK hP hD hS dX8_areProper_66
          · have hf := op_neg c_49 hf
            refine lv_iload hx hb dX8_areProper_52 (lv_at hl 0 rfl) ?_
            refine lv_bipush (v := 32) hx hb dX8_areProper_54 (by decide) ?_
            refine lv_icmp_ne (tgt := 67) hx hb dX8_areProper_56 (by decide) (fun c_56 => ?_) (fun c_56 => ?_)
            · have hf := op_neg c_56 hf
              exact b_X8_areProper_L67 l D cy h0 b0 fu out C hA hK (f_X8_areProper_L17 fu b0 n_17) ih_17 x1 x2 x4 (b0 x4.toNatClampNeg) hf _ _ ls hP hD hS (lv_sub hl [1, 2, 3, 5, 0] rfl)
            · have hf := op_pos c_56 hf
              refine lv_iload_n hx hb dX8_areProper_59 rfl (lv_at hl 4 rfl) ?_
              refine lv_bipush (v := 32) hx hb dX8_areProper_60 (by decide) ?_
              refine lv_icmp_ne (tgt := 67) hx hb dX8_areProper_62 (by decide) (fun c_62 => ?_) (fun c_62 => ?_)
              · have hf := op_neg c_62 hf
                exact b_X8_areProper_L67 l D cy h0 b0 fu out C hA hK (f_X8_areProper_L17 fu b0 n_17) ih_17 x1 x2 x4 (b0 x4.toNatClampNeg) hf _ _ ls hP hD hS (lv_sub hl [1, 2, 3, 5, 0] rfl)
              · have hf := op_pos c_62 hf
                refine lv_iconst (v := 0) hx hb dX8_areProper_65 (by decide) ?_
                rw [← Option.some.inj hf]
                exact g_zret hx hb hr hlk (show isB 0 = true by decide) hK hP hD hS dX8_areProper_66
def f_X8_areProper (fu : Nat) (b0 : Nat → Int32)  (p1 : Int32) (p2 : Int32) : Option (Int32) := (f_X8_areWithin fu b0 p1 p2).bind (fun q_3 => if q_3 = 0 then (some 0) else (f_X8_areProper_L17 fu b0 fu p1 p2 32 p1))
theorem hdX8_areProper : yX8_areProper.cls ≠ "java/lang/invoke/MethodHandle" ∧ yX8_areProper.cls ≠ "java/lang/invoke/VarHandle" ∧ (parseMethodDescriptor yX8_areProper.desc).map (fun d => d.parameters.length) = some 3 := by decide +kernel
set_option maxHeartbeats 4000000 in
set_option maxRecDepth 100000 in
theorem c_X8_areProper (l : Launch) (D : va_G) (cy : Nat → ClassId) (h0 : Nat) (b0 : Nat → Int32) (sz fu : Nat) (p1 : Int32) (p2 : Int32) (out : Int32) (hf : f_X8_areProper fu b0 p1 p2 = some out) :
    Met l yX8_areProper (WS yX8_areProper cX8_areProper 6 (some .boolean)) ({ frames := 1, cells := 0, slots := 0, locals := 22 } : Room) (va_Pc [.ref h0, .int p1, .int p2] (gP D cy sz (wB cy h0 b0))) ((fun A : Nat → Prop => gQi D cy A out (wB cy h0 b0)) (va_A (wB cy h0 b0) sz)) 0 0 (va_A (wB cy h0 b0) sz) := by
  refine g_met (cc := cX8_areProper) (maxL := 6) (ret := (some .boolean)) (fun A : Nat → Prop => gQi D cy A out (wB cy h0 b0)) (by decide +kernel) rfl (Nat.le_of_ble_eq_true rfl) ?_
  intro p e s m below meth c A C hA hK hP hD ls hl
  obtain ⟨hx, hb, hr, hml, hown, hts, hlk⟩ := id C
  have hown : s.vm.findClass RX8 = some m.cls := hown
  have hS : va_S A s.heap s.heap [] := va_S.rf
  have hl : lv_has ls 6 [(0, .ref h0), (1, .int p1), (2, .int p2)] := hl
  unfold f_X8_areProper at hf
  refine lv_aload_n hx hb dX8_areProper_0 rfl (lv_at hl 0 rfl) ?_
  refine lv_iload_n hx hb dX8_areProper_1 rfl (lv_at hl 1 rfl) ?_
  refine lv_iload_n hx hb dX8_areProper_2 rfl (lv_at hl 2 rfl) ?_
  obtain ⟨q_3, hc_3, hf⟩ := op_bind hf
  refine g_callSi (As := [.ref h0, .int p1, .int p2]) (rest := []) (w2 := wB cy h0 b0) ⟨hx, hb, hml, hown, hts⟩ (c_X8_areWithin l D cy h0 b0 _ fu p1 p2 _ hc_3) (va_cwS 3 hts (gi_S ml_RX8_9 sm_X8_areWithin in_RX8 cd_X8_areWithin) rfl rfl rfl hdX8_areWithin ⟨Nat.le_of_ble_eq_true rfl, Nat.le_of_ble_eq_true rfl⟩) rfl hl.1 rfl (Nat.le_of_ble_eq_true rfl) dX8_areProper_3 hK hP hD hS hA [0] [] [0] rfl rfl rfl rfl (by decide) rfl rfl (fun H locs hP hD hS => ?_)
  refine lv_if_ne (tgt := 11) hx hb dX8_areProper_6 (by decide) (fun c_6 => ?_) (fun c_6 => ?_)
  · have hf := op_neg c_6 hf
    refine lv_bipush (v := 32) hx hb dX8_areProper_11 (by decide) ?_
    refine lv_istore_n (lv' := [(3, .int 32), (0, .ref h0), (1, .int p1), (2, .int p2)]) hx hb dX8_areProper_13 rfl hl (by decide) rfl (fun ls hl => ?_)
    refine lv_iload_n hx hb dX8_areProper_14 rfl (lv_at hl 2 rfl) ?_
    refine lv_istore (lv' := [(4, .int p1), (3, .int 32), (0, .ref h0), (1, .int p1), (2, .int p2)]) hx hb dX8_areProper_15 hl (by decide) rfl (fun ls hl => ?_)
    exact b_X8_areProper_L17 l D cy h0 b0 fu out C hA hK fu p1 p2 32 p1 hf _ _ ls hP hD hS (lv_sub hl [2, 3, 4, 1, 0] rfl)
  · have hf := op_pos c_6 hf
    refine lv_iconst (v := 0) hx hb dX8_areProper_9 (by decide) ?_
    rw [← Option.some.inj hf]
    exact g_zret hx hb hr hlk (show isB 0 = true by decide) hK hP hD hS dX8_areProper_10
def f_X8_leastRows_L84 (k_23 : Int32 → Int32 → Int32 → Int32 → Int32 → Int32 → Int32 → Option (Int32)) (fu : Nat) (b0 : Nat → Int32) (x1 : Int32) (x2 : Int32) (x3 : Int32) (x4 : Int32) (x5 : Int32) (x7 : Int32) : Option (Int32) := k_23 x1 x2 x3 x4 x5 0 (x7 + 1)
set_option maxHeartbeats 4000000 in
set_option maxRecDepth 100000 in
theorem b_X8_leastRows_L84 {p : Program} {e : Env} {s : State} {m : MethodId} {args : Array Value} {below : List Frame} {meth : Method} {c : Code} {A : Nat → Prop} (l : Launch) (D : va_G) (cy : Nat → ClassId) (h0 : Nat) (b0 : Nat → Int32) (fu : Nat) (out : Int32) (C : gC p s m args meth c (WS yX8_leastRows cX8_leastRows 8 (some .int)) cX8_leastRows 8 (some .int) RX8) (hA : ∀ q : Nat, s.heap.size ≤ q → A q) (hK : va_K D vwCl (TY cy) s) (k_23 : Int32 → Int32 → Int32 → Int32 → Int32 → Int32 → Int32 → Option (Int32)) (hk_23 : ∀ (x1 : Int32) (x2 : Int32) (x3 : Int32) (x4 : Int32) (x5 : Int32) (x6 : Int32) (x7 : Int32), k_23 x1 x2 x3 x4 x5 x6 x7 = some out → ∀ (H : Heap) (locs : List Loc) (ls : Array Slot), va_P D vwCl (wB cy h0 b0) H → va_D A (wB cy h0 b0) → va_S A s.heap H locs → lv_has ls 8 [(0, .ref h0), (1, .int x1), (2, .int x2), (3, .int x3), (4, .int x4), (5, .int x5), (6, .int x6), (7, .int x7)] → W p l e ({ frames := 1, cells := 0, slots := 0, locals := 22 } : Room) s m args below meth c H locs 0 0 (MQ below (gQi D cy A out (wB cy h0 b0)) args s 0 0 A) (F0 m 23 ls [])) :
    ∀ (x1 : Int32) (x2 : Int32) (x3 : Int32) (x4 : Int32) (x5 : Int32) (x7 : Int32), f_X8_leastRows_L84 k_23 fu b0 x1 x2 x3 x4 x5 x7 = some out → ∀ (H : Heap) (locs : List Loc) (ls : Array Slot), va_P D vwCl (wB cy h0 b0) H → va_D A (wB cy h0 b0) → va_S A s.heap H locs → lv_has ls 8 [(0, .ref h0), (1, .int x1), (2, .int x2), (3, .int x3), (4, .int x4), (5, .int x5), (7, .int x7)] → W p l e ({ frames := 1, cells := 0, slots := 0, locals := 22 } : Room) s m args below meth c H locs 0 0 (MQ below (gQi D cy A out (wB cy h0 b0)) args s 0 0 A) (F0 m 84 ls []) := by
  obtain ⟨hx, hb, hr, hml, hown, hts, hlk⟩ := id C
  have hown : s.vm.findClass RX8 = some m.cls := hown
  intro x1 x2 x3 x4 x5 x7 hf H locs ls hP hD hS hl
  unfold f_X8_leastRows_L84 at hf
  refine lv_iconst (v := 0) hx hb dX8_leastRows_84 (by decide) ?_
  refine lv_istore (lv' := [(6, .int 0), (0, .ref h0), (1, .int x1), (2, .int x2), (3, .int x3), (4, .int x4), (5, .int x5), (7, .int x7)]) hx hb dX8_leastRows_85 hl (by decide) rfl (fun ls hl => ?_)
  refine lv_iinc (v := x7 + 1) (lv' := [(7, .int (x7 + 1)), (6, .int 0), (0, .ref h0), (1, .int x1), (2, .int x2), (3, .int x3), (4, .int x4), (5, .int x5)]) hx hb dX8_leastRows_87 hl (k := 7) rfl rfl (by decide) rfl (fun ls hl => ?_)
  refine lv_goto (tgt := 23) hx hb dX8_leastRows_90 (by decide) ?_
  exact hk_23 x1 x2 x3 x4 x5 0 (x7 + 1) hf _ _ ls hP hD hS (lv_sub hl [2, 3, 4, 5, 6, 7, 1, 0] rfl)
def f_X8_leastRows_L54 (k_23 : Int32 → Int32 → Int32 → Int32 → Int32 → Int32 → Int32 → Option (Int32)) (fu : Nat) (b0 : Nat → Int32) (x1 : Int32) (x2 : Int32) (x3 : Int32) (x4 : Int32) (x5 : Int32) (x6 : Int32) (x7 : Int32) : Option (Int32) := if x6 ≤ x3 then (if (x5 + (1 + x6)) ≤ x3 then (f_X8_leastRows_L84 k_23 fu b0 x1 x2 x3 x4 (x5 + (1 + x6)) x7) else (f_X8_leastRows_L84 k_23 fu b0 x1 x2 x3 (x4 + 1) x6 x7)) else (some (-1))
set_option maxHeartbeats 4000000 in
set_option maxRecDepth 100000 in
theorem b_X8_leastRows_L54 {p : Program} {e : Env} {s : State} {m : MethodId} {args : Array Value} {below : List Frame} {meth : Method} {c : Code} {A : Nat → Prop} (l : Launch) (D : va_G) (cy : Nat → ClassId) (h0 : Nat) (b0 : Nat → Int32) (fu : Nat) (out : Int32) (C : gC p s m args meth c (WS yX8_leastRows cX8_leastRows 8 (some .int)) cX8_leastRows 8 (some .int) RX8) (hA : ∀ q : Nat, s.heap.size ≤ q → A q) (hK : va_K D vwCl (TY cy) s) (k_23 : Int32 → Int32 → Int32 → Int32 → Int32 → Int32 → Int32 → Option (Int32)) (hk_23 : ∀ (x1 : Int32) (x2 : Int32) (x3 : Int32) (x4 : Int32) (x5 : Int32) (x6 : Int32) (x7 : Int32), k_23 x1 x2 x3 x4 x5 x6 x7 = some out → ∀ (H : Heap) (locs : List Loc) (ls : Array Slot), va_P D vwCl (wB cy h0 b0) H → va_D A (wB cy h0 b0) → va_S A s.heap H locs → lv_has ls 8 [(0, .ref h0), (1, .int x1), (2, .int x2), (3, .int x3), (4, .int x4), (5, .int x5), (6, .int x6), (7, .int x7)] → W p l e ({ frames := 1, cells := 0, slots := 0, locals := 22 } : Room) s m args below meth c H locs 0 0 (MQ below (gQi D cy A out (wB cy h0 b0)) args s 0 0 A) (F0 m 23 ls [])) :
    ∀ (x1 : Int32) (x2 : Int32) (x3 : Int32) (x4 : Int32) (x5 : Int32) (x6 : Int32) (x7 : Int32), f_X8_leastRows_L54 k_23 fu b0 x1 x2 x3 x4 x5 x6 x7 = some out → ∀ (H : Heap) (locs : List Loc) (ls : Array Slot), va_P D vwCl (wB cy h0 b0) H → va_D A (wB cy h0 b0) → va_S A s.heap H locs → lv_has ls 8 [(0, .ref h0), (1, .int x1), (2, .int x2), (3, .int x3), (4, .int x4), (5, .int x5), (6, .int x6), (7, .int x7)] → W p l e ({ frames := 1, cells := 0, slots := 0, locals := 22 } : Room) s m args below meth c H locs 0 0 (MQ below (gQi D cy A out (wB cy h0 b0)) args s 0 0 A) (F0 m 54 ls []) := by
  obtain ⟨hx, hb, hr, hml, hown, hts, hlk⟩ := id C
  have hown : s.vm.findClass RX8 = some m.cls := hown
  intro x1 x2 x3 x4 x5 x6 x7 hf H locs ls hP hD hS hl
  unfold f_X8_leastRows_L54 at hf
  refine lv_iload hx hb dX8_leastRows_54 (lv_at hl 6 rfl) ?_
  refine lv_iload_n hx hb dX8_leastRows_56 rfl (lv_at hl 3 rfl) ?_
  refine lv_icmp_le (tgt := 62) hx hb dX8_leastRows_57 (by decide) (fun c_57 => ?_) (fun c_57 => ?_)
  · have hf := op_pos c_57 hf
    refine lv_iload hx hb dX8_leastRows_62 (lv_at hl 5 rfl) ?_
    refine lv_iconst (v := 1) hx hb dX8_leastRows_64 (by decide) ?_
    refine lv_iload hx hb dX8_leastRows_65 (lv_at hl 6 rfl) ?_
    refine lv_iadd hx hb dX8_leastRows_67 ?_
    refine lv_iadd hx hb dX8_leastRows_68 ?_
    refine lv_istore (lv' := [(5, .int (x5 + (1 + x6))), (0, .ref h0), (1, .int x1), (2, .int x2), (3, .int x3), (4, .int x4), (6, .int x6), (7, .int x7)]) hx hb dX8_leastRows_69 hl (by decide) rfl (fun ls hl => ?_)
    refine lv_iload hx hb dX8_leastRows_71 (lv_at hl 0 rfl) ?_
    refine lv_iload_n hx hb dX8_leastRows_73 rfl (lv_at hl 4 rfl) ?_
    refine lv_icmp_le (tgt := 84) hx hb dX8_leastRows_74 (by decide) (fun c_74 => ?_) (fun c_74 => ?_)
    · have hf := op_pos c_74 hf
      exact b_X8_leastRows_L84 l D cy h0 b0 fu out C hA hK k_23 hk_23 x1 x2 x3 x4 (x5 + (1 + x6)) x7 hf _ _ ls hP hD hS (lv_sub hl [1, 2, 3, 4, 5, 0, 7] rfl)
    · have hf := op_neg c_74 hf
      refine lv_iinc (v := x4 + 1) (lv' := [(4, .int (x4 + 1)), (5, .int (x5 + (1 + x6))), (0, .ref h0), (1, .int x1), (2, .int x2), (3, .int x3), (6, .int x6), (7, .int x7)]) hx hb dX8_leastRows_77 hl (k := 5) rfl rfl (by decide) rfl (fun ls hl => ?_)
      refine lv_iload hx hb dX8_leastRows_80 (lv_at hl 6 rfl) ?_
      refine lv_istore (lv' := [(5, .int x6), (4, .int (x4 + 1)), (0, .ref h0), (1, .int x1), (2, .int x2), (3, .int x3), (6, .int x6), (7, .int x7)]) hx hb dX8_leastRows_82 hl (by decide) rfl (fun ls hl => ?_)
      exact b_X8_leastRows_L84 l D cy h0 b0 fu out C hA hK k_23 hk_23 x1 x2 x3 (x4 + 1) x6 x7 hf _ _ ls hP hD hS (lv_sub hl [2, 3, 4, 5, 1, 0, 7] rfl)
  · have hf := op_neg c_57 hf
    refine lv_iconst (v := (-1)) hx hb dX8_leastRows_60 (by decide) ?_
    rw [← Option.some.inj hf]
    exact g_iret hx hb hr hlk hK hP hD hS dX8_leastRows_61
def f_X8_leastRows_L23  (fu : Nat) (b0 : Nat → Int32) : Nat → Int32 → Int32 → Int32 → Int32 → Int32 → Int32 → Int32 → Option (Int32)
  | 0, _, _, _, _, _, _, _ => none
  | n_23 + 1, x1, x2, x3, x4, x5, x6, x7 => if (x1 + x2) < x7 then (some x4) else (if (x1 + x2) ≤ x7 then (f_X8_leastRows_L54 (f_X8_leastRows_L23 fu b0 n_23) fu b0 x1 x2 x3 x4 x5 x6 x7) else (if inb x7 1500 = true then (if (b0 x7.toNatClampNeg) = 32 then (f_X8_leastRows_L54 (f_X8_leastRows_L23 fu b0 n_23) fu b0 x1 x2 x3 x4 x5 x6 x7) else (f_X8_leastRows_L23 fu b0 n_23 x1 x2 x3 x4 x5 (x6 + 1) (x7 + 1))) else none))
set_option maxHeartbeats 4000000 in
set_option maxRecDepth 100000 in
theorem b_X8_leastRows_L23 {p : Program} {e : Env} {s : State} {m : MethodId} {args : Array Value} {below : List Frame} {meth : Method} {c : Code} {A : Nat → Prop} (l : Launch) (D : va_G) (cy : Nat → ClassId) (h0 : Nat) (b0 : Nat → Int32) (fu : Nat) (out : Int32) (C : gC p s m args meth c (WS yX8_leastRows cX8_leastRows 8 (some .int)) cX8_leastRows 8 (some .int) RX8) (hA : ∀ q : Nat, s.heap.size ≤ q → A q) (hK : va_K D vwCl (TY cy) s)  :
    ∀ (n_23 : Nat), ∀ (x1 : Int32) (x2 : Int32) (x3 : Int32) (x4 : Int32) (x5 : Int32) (x6 : Int32) (x7 : Int32), f_X8_leastRows_L23 fu b0 n_23 x1 x2 x3 x4 x5 x6 x7 = some out → ∀ (H : Heap) (locs : List Loc) (ls : Array Slot), va_P D vwCl (wB cy h0 b0) H → va_D A (wB cy h0 b0) → va_S A s.heap H locs → lv_has ls 8 [(0, .ref h0), (1, .int x1), (2, .int x2), (3, .int x3), (4, .int x4), (5, .int x5), (6, .int x6), (7, .int x7)] → W p l e ({ frames := 1, cells := 0, slots := 0, locals := 22 } : Room) s m args below meth c H locs 0 0 (MQ below (gQi D cy A out (wB cy h0 b0)) args s 0 0 A) (F0 m 23 ls []) := by
  obtain ⟨hx, hb, hr, hml, hown, hts, hlk⟩ := id C
  have hown : s.vm.findClass RX8 = some m.cls := hown
  intro n_23
  induction n_23 with
  | zero => intro x1 x2 x3 x4 x5 x6 x7 hf; exact op_no hf
  | succ n_23 ih_23 =>
    intro x1 x2 x3 x4 x5 x6 x7 hf H locs ls hP hD hS hl
    rw [f_X8_leastRows_L23] at hf
    refine lv_iload hx hb dX8_leastRows_23 (lv_at hl 7 rfl) ?_
    refine lv_iload_n hx hb dX8_leastRows_25 rfl (lv_at hl 1 rfl) ?_
    refine lv_iload_n hx hb dX8_leastRows_26 rfl (lv_at hl 2 rfl) ?_
    refine lv_iadd hx hb dX8_leastRows_27 ?_
    refine lv_icmp_gt (tgt := 93) hx hb dX8_leastRows_28 (by decide) (fun c_28 => ?_) (fun c_28 => ?_)
    · have hf := op_pos c_28 hf
      refine lv_iload hx hb dX8_leastRows_93 (lv_at hl 4 rfl) ?_
      rw [← Option.some.inj hf]
      exact g_iret hx hb hr hlk hK hP hD hS dX8_leastRows_95
    · have hf := op_neg c_28 hf
      refine lv_iload hx hb dX8_leastRows_31 (lv_at hl 7 rfl) ?_
      refine lv_iload_n hx hb dX8_leastRows_33 rfl (lv_at hl 1 rfl) ?_
      refine lv_iload_n hx hb dX8_leastRows_34 rfl (lv_at hl 2 rfl) ?_
      refine lv_iadd hx hb dX8_leastRows_35 ?_
      refine lv_icmp_ge (tgt := 54) hx hb dX8_leastRows_36 (by decide) (fun c_36 => ?_) (fun c_36 => ?_)
      · have hf := op_pos c_36 hf
        exact b_X8_leastRows_L54 l D cy h0 b0 fu out C hA hK (f_X8_leastRows_L23 fu b0 n_23) ih_23 x1 x2 x3 x4 x5 x6 x7 hf _ _ ls hP hD hS (lv_sub hl [0, 1, 2, 3, 4, 5, 6, 7] rfl)
      · have hf := op_neg c_36 hf
        refine lv_aload_n hx hb dX8_leastRows_39 rfl (lv_at hl 0 rfl) ?_
        refine lv_iload hx hb dX8_leastRows_40 (lv_at hl 7 rfl) ?_
        obtain ⟨hg_42, hf⟩ := op_if hf
        refine va_bald (f := b0) hx hb hK hP 0 1 rfl rfl (inb_in hg_42) dX8_leastRows_42 ?_
        refine lv_bipush (v := 32) hx hb dX8_leastRows_43 (by decide) ?_
        refine lv_icmp_eq (tgt := 54) hx hb dX8_leastRows_45 (by decide) (fun c_45 => ?_) (fun c_45 => ?_)
        · have hf := op_pos c_45 hf
          exact b_X8_leastRows_L54 l D cy h0 b0 fu out C hA hK (f_X8_leastRows_L23 fu b0 n_23) ih_23 x1 x2 x3 x4 x5 x6 x7 hf _ _ ls hP hD hS (lv_sub hl [0, 1, 2, 3, 4, 5, 6, 7] rfl)
        · have hf := op_neg c_45 hf
          refine lv_iinc (v := x6 + 1) (lv' := [(6, .int (x6 + 1)), (0, .ref h0), (1, .int x1), (2, .int x2), (3, .int x3), (4, .int x4), (5, .int x5), (7, .int x7)]) hx hb dX8_leastRows_48 hl (k := 6) rfl rfl (by decide) rfl (fun ls hl => ?_)
          refine lv_goto (tgt := 87) hx hb dX8_leastRows_51 (by decide) ?_
          refine lv_iinc (v := x7 + 1) (lv' := [(7, .int (x7 + 1)), (6, .int (x6 + 1)), (0, .ref h0), (1, .int x1), (2, .int x2), (3, .int x3), (4, .int x4), (5, .int x5)]) hx hb dX8_leastRows_87 hl (k := 7) rfl rfl (by decide) rfl (fun ls hl => ?_)
          refine lv_goto (tgt := 23) hx hb dX8_leastRows_90 (by decide) ?_
          exact ih_23 x1 x2 x3 x4 x5 (x6 + 1) (x7 + 1) hf _ _ ls hP hD hS (lv_sub hl [2, 3, 4, 5, 6, 7, 1, 0] rfl)
def f_X8_leastRows (fu : Nat) (b0 : Nat → Int32)  (p1 : Int32) (p2 : Int32) (p3 : Int32) : Option (Int32) := (f_X8_areWithin fu b0 p1 p2).bind (fun q_3 => if q_3 = 0 then (some (-1)) else (f_X8_leastRows_L23 fu b0 fu p1 p2 p3 0 p3 0 p1))
theorem hdX8_leastRows : yX8_leastRows.cls ≠ "java/lang/invoke/MethodHandle" ∧ yX8_leastRows.cls ≠ "java/lang/invoke/VarHandle" ∧ (parseMethodDescriptor yX8_leastRows.desc).map (fun d => d.parameters.length) = some 4 := by decide +kernel
set_option maxHeartbeats 4000000 in
set_option maxRecDepth 100000 in
theorem c_X8_leastRows (l : Launch) (D : va_G) (cy : Nat → ClassId) (h0 : Nat) (b0 : Nat → Int32) (sz fu : Nat) (p1 : Int32) (p2 : Int32) (p3 : Int32) (out : Int32) (hf : f_X8_leastRows fu b0 p1 p2 p3 = some out) :
    Met l yX8_leastRows (WS yX8_leastRows cX8_leastRows 8 (some .int)) ({ frames := 1, cells := 0, slots := 0, locals := 22 } : Room) (va_Pc [.ref h0, .int p1, .int p2, .int p3] (gP D cy sz (wB cy h0 b0))) ((fun A : Nat → Prop => gQi D cy A out (wB cy h0 b0)) (va_A (wB cy h0 b0) sz)) 0 0 (va_A (wB cy h0 b0) sz) := by
  refine g_met (cc := cX8_leastRows) (maxL := 8) (ret := (some .int)) (fun A : Nat → Prop => gQi D cy A out (wB cy h0 b0)) (by decide +kernel) rfl (Nat.le_of_ble_eq_true rfl) ?_
  intro p e s m below meth c A C hA hK hP hD ls hl
  obtain ⟨hx, hb, hr, hml, hown, hts, hlk⟩ := id C
  have hown : s.vm.findClass RX8 = some m.cls := hown
  have hS : va_S A s.heap s.heap [] := va_S.rf
  have hl : lv_has ls 8 [(0, .ref h0), (1, .int p1), (2, .int p2), (3, .int p3)] := hl
  unfold f_X8_leastRows at hf
  refine lv_aload_n hx hb dX8_leastRows_0 rfl (lv_at hl 0 rfl) ?_
  refine lv_iload_n hx hb dX8_leastRows_1 rfl (lv_at hl 1 rfl) ?_
  refine lv_iload_n hx hb dX8_leastRows_2 rfl (lv_at hl 2 rfl) ?_
  obtain ⟨q_3, hc_3, hf⟩ := op_bind hf
  refine g_callSi (As := [.ref h0, .int p1, .int p2]) (rest := []) (w2 := wB cy h0 b0) ⟨hx, hb, hml, hown, hts⟩ (c_X8_areWithin l D cy h0 b0 _ fu p1 p2 _ hc_3) (va_cwS 3 hts (gi_S ml_RX8_9 sm_X8_areWithin in_RX8 cd_X8_areWithin) rfl rfl rfl hdX8_areWithin ⟨Nat.le_of_ble_eq_true rfl, Nat.le_of_ble_eq_true rfl⟩) rfl hl.1 rfl (Nat.le_of_ble_eq_true rfl) dX8_leastRows_3 hK hP hD hS hA [0] [] [0] rfl rfl rfl rfl (by decide) rfl rfl (fun H locs hP hD hS => ?_)
  refine lv_if_ne (tgt := 11) hx hb dX8_leastRows_6 (by decide) (fun c_6 => ?_) (fun c_6 => ?_)
  · have hf := op_neg c_6 hf
    refine lv_iconst (v := 0) hx hb dX8_leastRows_11 (by decide) ?_
    refine lv_istore (lv' := [(4, .int 0), (0, .ref h0), (1, .int p1), (2, .int p2), (3, .int p3)]) hx hb dX8_leastRows_12 hl (by decide) rfl (fun ls hl => ?_)
    refine lv_iload_n hx hb dX8_leastRows_14 rfl (lv_at hl 4 rfl) ?_
    refine lv_istore (lv' := [(5, .int p3), (4, .int 0), (0, .ref h0), (1, .int p1), (2, .int p2), (3, .int p3)]) hx hb dX8_leastRows_15 hl (by decide) rfl (fun ls hl => ?_)
    refine lv_iconst (v := 0) hx hb dX8_leastRows_17 (by decide) ?_
    refine lv_istore (lv' := [(6, .int 0), (5, .int p3), (4, .int 0), (0, .ref h0), (1, .int p1), (2, .int p2), (3, .int p3)]) hx hb dX8_leastRows_18 hl (by decide) rfl (fun ls hl => ?_)
    refine lv_iload_n hx hb dX8_leastRows_20 rfl (lv_at hl 4 rfl) ?_
    refine lv_istore (lv' := [(7, .int p1), (6, .int 0), (5, .int p3), (4, .int 0), (0, .ref h0), (1, .int p1), (2, .int p2), (3, .int p3)]) hx hb dX8_leastRows_21 hl (by decide) rfl (fun ls hl => ?_)
    exact b_X8_leastRows_L23 l D cy h0 b0 fu out C hA hK fu p1 p2 p3 0 p3 0 p1 hf _ _ ls hP hD hS (lv_sub hl [4, 5, 6, 7, 3, 2, 1, 0] rfl)
  · have hf := op_pos c_6 hf
    refine lv_iconst (v := (-1)) hx hb dX8_leastRows_9 (by decide) ?_
    rw [← Option.some.inj hf]
    exact g_iret hx hb hr hlk hK hP hD hS dX8_leastRows_10
def f_X8_fit (fu : Nat) (b0 : Nat → Int32)  (p1 : Int32) (p2 : Int32) (p3 : Int32) : Option (Int32) := (f_X8_leastRows fu b0 p1 p2 p3).bind (fun q_4 => if q_4 = (-1) then (some 0) else (if 12 < q_4 then (some 0) else (some 1)))
theorem hdX8_fit : yX8_fit.cls ≠ "java/lang/invoke/MethodHandle" ∧ yX8_fit.cls ≠ "java/lang/invoke/VarHandle" ∧ (parseMethodDescriptor yX8_fit.desc).map (fun d => d.parameters.length) = some 4 := by decide +kernel
set_option maxHeartbeats 4000000 in
set_option maxRecDepth 100000 in
theorem c_X8_fit (l : Launch) (D : va_G) (cy : Nat → ClassId) (h0 : Nat) (b0 : Nat → Int32) (sz fu : Nat) (p1 : Int32) (p2 : Int32) (p3 : Int32) (out : Int32) (hf : f_X8_fit fu b0 p1 p2 p3 = some out) :
    Met l yX8_fit (WS yX8_fit cX8_fit 5 (some .boolean)) ({ frames := 2, cells := 0, slots := 0, locals := 49 } : Room) (va_Pc [.ref h0, .int p1, .int p2, .int p3] (gP D cy sz (wB cy h0 b0))) ((fun A : Nat → Prop => gQi D cy A out (wB cy h0 b0)) (va_A (wB cy h0 b0) sz)) 0 0 (va_A (wB cy h0 b0) sz) := by
  refine g_met (cc := cX8_fit) (maxL := 5) (ret := (some .boolean)) (fun A : Nat → Prop => gQi D cy A out (wB cy h0 b0)) (by decide +kernel) rfl (Nat.le_of_ble_eq_true rfl) ?_
  intro p e s m below meth c A C hA hK hP hD ls hl
  obtain ⟨hx, hb, hr, hml, hown, hts, hlk⟩ := id C
  have hown : s.vm.findClass RX8 = some m.cls := hown
  have hS : va_S A s.heap s.heap [] := va_S.rf
  have hl : lv_has ls 5 [(0, .ref h0), (1, .int p1), (2, .int p2), (3, .int p3)] := hl
  unfold f_X8_fit at hf
  refine lv_aload_n hx hb dX8_fit_0 rfl (lv_at hl 0 rfl) ?_
  refine lv_iload_n hx hb dX8_fit_1 rfl (lv_at hl 1 rfl) ?_
  refine lv_iload_n hx hb dX8_fit_2 rfl (lv_at hl 2 rfl) ?_
  refine lv_iload_n hx hb dX8_fit_3 rfl (lv_at hl 3 rfl) ?_
  obtain ⟨q_4, hc_4, hf⟩ := op_bind hf
  refine g_callSi (As := [.ref h0, .int p1, .int p2, .int p3]) (rest := []) (w2 := wB cy h0 b0) ⟨hx, hb, hml, hown, hts⟩ (c_X8_leastRows l D cy h0 b0 _ fu p1 p2 p3 _ hc_4) (va_cwS 4 hts (gi_S ml_RX8_15 sm_X8_leastRows in_RX8 cd_X8_leastRows) rfl rfl rfl hdX8_leastRows ⟨Nat.le_of_ble_eq_true rfl, Nat.le_of_ble_eq_true rfl⟩) rfl hl.1 rfl (Nat.le_of_ble_eq_true rfl) dX8_fit_4 hK hP hD hS hA [0] [] [0] rfl rfl rfl rfl (by decide) rfl rfl (fun H locs hP hD hS => ?_)
  refine lv_istore (lv' := [(4, .int q_4), (0, .ref h0), (1, .int p1), (2, .int p2), (3, .int p3)]) hx hb dX8_fit_7 hl (by decide) rfl (fun ls hl => ?_)
  refine lv_iload hx hb dX8_fit_9 (lv_at hl 0 rfl) ?_
  refine lv_iconst (v := (-1)) hx hb dX8_fit_11 (by decide) ?_
  refine lv_icmp_eq (tgt := 26) hx hb dX8_fit_12 (by decide) (fun c_12 => ?_) (fun c_12 => ?_)
  · have hf := op_pos c_12 hf
    refine lv_iconst (v := 0) hx hb dX8_fit_26 (by decide) ?_
    rw [← Option.some.inj hf]
    exact g_zret hx hb hr hlk (show isB 0 = true by decide) hK hP hD hS dX8_fit_27
  · have hf := op_neg c_12 hf
    refine lv_iload hx hb dX8_fit_15 (lv_at hl 0 rfl) ?_
    refine lv_bipush (v := 12) hx hb dX8_fit_17 (by decide) ?_
    refine lv_icmp_gt (tgt := 26) hx hb dX8_fit_19 (by decide) (fun c_19 => ?_) (fun c_19 => ?_)
    · have hf := op_pos c_19 hf
      refine lv_iconst (v := 0) hx hb dX8_fit_26 (by decide) ?_
      rw [← Option.some.inj hf]
      exact g_zret hx hb hr hlk (show isB 0 = true by decide) hK hP hD hS dX8_fit_27
    · have hf := op_neg c_19 hf
      refine lv_iconst (v := 1) hx hb dX8_fit_22 (by decide) ?_
      refine lv_goto (tgt := 27) hx hb dX8_fit_23 (by decide) ?_
      rw [← Option.some.inj hf]
      exact g_zret hx hb hr hlk (show isB 1 = true by decide) hK hP hD hS dX8_fit_27
