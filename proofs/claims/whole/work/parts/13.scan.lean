def f_X4_takeWord_L5  (fu : Nat) (b1 : Nat → Int32) : Nat → St → Option (St)
  | 0, _ => none
  | n_5 + 1, u0 => if (u0.1 4) ≤ (u0.1 5) then (some u0) else (if inb (u0.1 5) 1500 = true then (if (b1 (u0.1 5).toNatClampNeg) < 97 then (some u0) else (if inb (u0.1 5) 1500 = true then (if 122 < (b1 (u0.1 5).toNatClampNeg) then (some u0) else (f_X4_takeWord_L5 fu b1 n_5 (sF u0 5 ((u0.1 5) + 1)))) else none)) else none)
set_option maxHeartbeats 4000000 in
set_option maxRecDepth 100000 in
theorem b_X4_takeWord_L5 {p : Program} {e : Env} {s : State} {m : MethodId} {args : Array Value} {below : List Frame} {meth : Method} {c : Code} {A : Nat → Prop} (l : Launch) (D : va_G) (cy : Nat → ClassId) (h0 : Nat) (h1 : Nat) (b1 : Nat → Int32) (fu : Nat) (out : St) (C : gC p s m args meth c (WS yX4_takeWord cX4_takeWord 1 none) cX4_takeWord 1 none RX4) (hA : ∀ q : Nat, s.heap.size ≤ q → A q) (hK : va_K D vwCl (TY cy) s)  :
    ∀ (n_5 : Nat), ∀ (u0 : St), f_X4_takeWord_L5 fu b1 n_5 u0 = some out → ∀ (H : Heap) (locs : List Loc) (ls : Array Slot), va_P D vwCl ((w4 cy h0 h1 u0) ++ (wB cy h1 b1)) H → va_D A ((w4 cy h0 h1 u0) ++ (wB cy h1 b1)) → va_S A s.heap H locs → lv_has ls 1 [(0, .ref h0)] → W p l e ({ frames := 0, cells := 0, slots := 0, locals := 0 } : Room) s m args below meth c H locs 0 0 (MQ below (gQv D cy A ((w4 cy h0 h1 out) ++ (wB cy h1 b1))) args s 0 0 A) (F0 m 5 ls []) := by
  obtain ⟨hx, hb, hr, hml, hown, hts, hlk⟩ := id C
  have hown : s.vm.findClass RX4 = some m.cls := hown
  have hk_28 := hts _ (List.mem_cons_of_mem _ fl_RX4_28)
  have hk_24 := hts _ (List.mem_cons_of_mem _ fl_RX4_24)
  have hk_9 := hts _ (List.mem_cons_of_mem _ fl_RX4_9)
  intro n_5
  induction n_5 with
  | zero => intro u0 hf; exact op_no hf
  | succ n_5 ih_5 =>
    intro u0 hf H locs ls hP hD hS hl
    rw [f_X4_takeWord_L5] at hf
    refine lv_aload_n hx hb dX4_takeWord_5 rfl (lv_at hl 0 rfl) ?_
    refine va_get (ci := 4) (v := .int (u0.1 5)) (C := RX4) (T := TX4) (N := 6) hx hb hts (fun w h => List.mem_cons_of_mem _ (inX4 w h)) hown hK hP 0 rfl rfl 5 (by decide) hk_28 (fun _ h9 => h9) rfl dX4_takeWord_6 ?_
    refine lv_aload_n hx hb dX4_takeWord_9 rfl (lv_at hl 0 rfl) ?_
    refine va_get (ci := 4) (v := .int (u0.1 4)) (C := RX4) (T := TX4) (N := 6) hx hb hts (fun w h => List.mem_cons_of_mem _ (inX4 w h)) hown hK hP 0 rfl rfl 4 (by decide) hk_24 (fun _ h9 => h9) rfl dX4_takeWord_10 ?_
    refine lv_icmp_ge (tgt := 57) hx hb dX4_takeWord_13 (by decide) (fun c_13 => ?_) (fun c_13 => ?_)
    · have hf := op_pos c_13 hf
      rw [← Option.some.inj hf]
      exact g_vret hx hb hr hlk hK hP hD hS dX4_takeWord_57
    · have hf := op_neg c_13 hf
      refine lv_aload_n hx hb dX4_takeWord_16 rfl (lv_at hl 0 rfl) ?_
      refine va_get (ci := 4) (v := .ref h1) (C := RX4) (T := TX4) (N := 6) hx hb hts (fun w h => List.mem_cons_of_mem _ (inX4 w h)) hown hK hP 0 rfl rfl 0 (by decide) hk_9 (fun _ h9 => h9) rfl dX4_takeWord_17 ?_
      refine lv_aload_n hx hb dX4_takeWord_20 rfl (lv_at hl 0 rfl) ?_
      refine va_get (ci := 4) (v := .int (u0.1 5)) (C := RX4) (T := TX4) (N := 6) hx hb hts (fun w h => List.mem_cons_of_mem _ (inX4 w h)) hown hK hP 0 rfl rfl 5 (by decide) hk_28 (fun _ h9 => h9) rfl dX4_takeWord_21 ?_
      obtain ⟨hg_24, hf⟩ := op_if hf
      refine va_bald (f := b1) hx hb hK hP 1 1 rfl rfl (inb_in hg_24) dX4_takeWord_24 ?_
      refine lv_bipush (v := 97) hx hb dX4_takeWord_25 (by decide) ?_
      refine lv_icmp_lt (tgt := 57) hx hb dX4_takeWord_27 (by decide) (fun c_27 => ?_) (fun c_27 => ?_)
      · have hf := op_pos c_27 hf
        rw [← Option.some.inj hf]
        exact g_vret hx hb hr hlk hK hP hD hS dX4_takeWord_57
      · have hf := op_neg c_27 hf
        refine lv_aload_n hx hb dX4_takeWord_30 rfl (lv_at hl 0 rfl) ?_
        refine va_get (ci := 4) (v := .ref h1) (C := RX4) (T := TX4) (N := 6) hx hb hts (fun w h => List.mem_cons_of_mem _ (inX4 w h)) hown hK hP 0 rfl rfl 0 (by decide) hk_9 (fun _ h9 => h9) rfl dX4_takeWord_31 ?_
        refine lv_aload_n hx hb dX4_takeWord_34 rfl (lv_at hl 0 rfl) ?_
        refine va_get (ci := 4) (v := .int (u0.1 5)) (C := RX4) (T := TX4) (N := 6) hx hb hts (fun w h => List.mem_cons_of_mem _ (inX4 w h)) hown hK hP 0 rfl rfl 5 (by decide) hk_28 (fun _ h9 => h9) rfl dX4_takeWord_35 ?_
        obtain ⟨hg_38, hf⟩ := op_if hf
        refine va_bald (f := b1) hx hb hK hP 1 1 rfl rfl (inb_in hg_38) dX4_takeWord_38 ?_
        refine lv_bipush (v := 122) hx hb dX4_takeWord_39 (by decide) ?_
        refine lv_icmp_gt (tgt := 57) hx hb dX4_takeWord_41 (by decide) (fun c_41 => ?_) (fun c_41 => ?_)
        · have hf := op_pos c_41 hf
          rw [← Option.some.inj hf]
          exact g_vret hx hb hr hlk hK hP hD hS dX4_takeWord_57
        · have hf := op_neg c_41 hf
          refine lv_aload_n hx hb dX4_takeWord_44 rfl (lv_at hl 0 rfl) ?_
          refine lv_dup hx hb dX4_takeWord_45 rfl ?_
          refine va_get (ci := 4) (v := .int (u0.1 5)) (C := RX4) (T := TX4) (N := 6) hx hb hts (fun w h => List.mem_cons_of_mem _ (inX4 w h)) hown hK hP 0 rfl rfl 5 (by decide) hk_28 (fun _ h9 => h9) rfl dX4_takeWord_46 ?_
          refine lv_iconst (v := 1) hx hb dX4_takeWord_49 (by decide) ?_
          refine lv_iadd hx hb dX4_takeWord_50 ?_
          refine va_put (ci := 4) (v := .int ((u0.1 5) + 1)) (ty := tyX4 5) (C := RX4) (T := TX4) (N := 6) hx hb hts (fun w h => List.mem_cons_of_mem _ (inX4 w h)) tyX4 tyX4_ok nmX4 hown hK hP hD hS 0 rfl rfl 5 (by decide) hk_28 (fun _ h9 => h9) rfl (tyX4_ok 5 (by decide)) rfl rfl (Nat.le_of_ble_eq_true rfl) dX4_takeWord_51 (fun H locs hP hD hS => ?_)
          have hP : va_P D vwCl ((w4 cy h0 h1 (sF u0 5 ((u0.1 5) + 1))) ++ (wB cy h1 b1)) H := hP
          have hD : va_D A ((w4 cy h0 h1 (sF u0 5 ((u0.1 5) + 1))) ++ (wB cy h1 b1)) := hD
          refine lv_goto (tgt := 5) hx hb dX4_takeWord_54 (by decide) ?_
          exact ih_5 (sF u0 5 ((u0.1 5) + 1)) hf _ _ ls hP hD hS (lv_sub hl [0] rfl)
def f_X4_takeWord (fu : Nat) (b1 : Nat → Int32) (s0 : St)  : Option (St) := f_X4_takeWord_L5 fu b1 fu (sF s0 1 1)
theorem hdX4_takeWord : yX4_takeWord.cls = RX4 ∧ yX4_takeWord.cls ≠ "java/lang/invoke/MethodHandle" ∧ yX4_takeWord.cls ≠ "java/lang/invoke/VarHandle" ∧ (parseMethodDescriptor yX4_takeWord.desc).map (fun d => d.parameters.length) = some 0 := by decide +kernel
set_option maxHeartbeats 4000000 in
set_option maxRecDepth 100000 in
theorem c_X4_takeWord (l : Launch) (D : va_G) (cy : Nat → ClassId) (h0 : Nat) (s0 : St) (h1 : Nat) (b1 : Nat → Int32) (sz fu : Nat)  (out : St) (hf : f_X4_takeWord fu b1 s0 = some out) :
    Met l yX4_takeWord (WS yX4_takeWord cX4_takeWord 1 none) ({ frames := 0, cells := 0, slots := 0, locals := 0 } : Room) (va_Pc [.ref h0] (gP D cy sz ((w4 cy h0 h1 s0) ++ (wB cy h1 b1)))) ((fun A : Nat → Prop => gQv D cy A ((w4 cy h0 h1 out) ++ (wB cy h1 b1))) (va_A ((w4 cy h0 h1 s0) ++ (wB cy h1 b1)) sz)) 0 0 (va_A ((w4 cy h0 h1 s0) ++ (wB cy h1 b1)) sz) := by
  refine g_met (cc := cX4_takeWord) (maxL := 1) (ret := none) (fun A : Nat → Prop => gQv D cy A ((w4 cy h0 h1 out) ++ (wB cy h1 b1))) (by decide +kernel) rfl (Nat.le_of_ble_eq_true rfl) ?_
  intro p e s m below meth c A C hA hK hP hD ls hl
  obtain ⟨hx, hb, hr, hml, hown, hts, hlk⟩ := id C
  have hown : s.vm.findClass RX4 = some m.cls := hown
  have hS : va_S A s.heap s.heap [] := va_S.rf
  have hl : lv_has ls 1 [(0, .ref h0)] := hl
  have hk_37 := hts _ (List.mem_cons_of_mem _ fl_RX4_37)
  unfold f_X4_takeWord at hf
  refine lv_aload_n hx hb dX4_takeWord_0 rfl (lv_at hl 0 rfl) ?_
  refine lv_iconst (v := 1) hx hb dX4_takeWord_1 (by decide) ?_
  refine va_put (ci := 4) (v := .int 1) (ty := tyX4 1) (C := RX4) (T := TX4) (N := 6) hx hb hts (fun w h => List.mem_cons_of_mem _ (inX4 w h)) tyX4 tyX4_ok nmX4 hown hK hP hD hS 0 rfl rfl 1 (by decide) hk_37 (fun _ h9 => h9) rfl (tyX4_ok 1 (by decide)) rfl rfl (Nat.le_of_ble_eq_true rfl) dX4_takeWord_2 (fun H locs hP hD hS => ?_)
  have hP : va_P D vwCl ((w4 cy h0 h1 (sF s0 1 1)) ++ (wB cy h1 b1)) H := hP
  have hD : va_D A ((w4 cy h0 h1 (sF s0 1 1)) ++ (wB cy h1 b1)) := hD
  exact b_X4_takeWord_L5 l D cy h0 h1 b1 fu out C hA hK fu (sF s0 1 1) hf _ _ ls hP hD hS (lv_sub hl [0] rfl)
def f_X4_takeNumber_L10  (fu : Nat) (b1 : Nat → Int32) : Nat → St → Option (St)
  | 0, _ => none
  | n_10 + 1, u0 => if (u0.1 4) ≤ (u0.1 5) then (some u0) else (if inb (u0.1 5) 1500 = true then (if (b1 (u0.1 5).toNatClampNeg) < 48 then (some u0) else (if inb (u0.1 5) 1500 = true then (if 57 < (b1 (u0.1 5).toNatClampNeg) then (some u0) else (if inb (u0.1 5) 1500 = true then (f_X4_takeNumber_L10 fu b1 n_10 (sF (sF u0 3 (if ((((u0.1 3) * 10) + (b1 (u0.1 5).toNatClampNeg)) - 48) < 100000 then ((((u0.1 3) * 10) + (b1 (u0.1 5).toNatClampNeg)) - 48) else 100000)) 5 ((u0.1 5) + 1))) else none)) else none)) else none)
set_option maxHeartbeats 4000000 in
set_option maxRecDepth 100000 in
theorem b_X4_takeNumber_L10 {p : Program} {e : Env} {s : State} {m : MethodId} {args : Array Value} {below : List Frame} {meth : Method} {c : Code} {A : Nat → Prop} (l : Launch) (D : va_G) (cy : Nat → ClassId) (h0 : Nat) (h1 : Nat) (b1 : Nat → Int32) (fu : Nat) (out : St) (C : gC p s m args meth c (WS yX4_takeNumber cX4_takeNumber 1 none) cX4_takeNumber 1 none RX4) (hA : ∀ q : Nat, s.heap.size ≤ q → A q) (hK : va_K D vwCl (TY cy) s)  :
    ∀ (n_10 : Nat), ∀ (u0 : St), f_X4_takeNumber_L10 fu b1 n_10 u0 = some out → ∀ (H : Heap) (locs : List Loc) (ls : Array Slot), va_P D vwCl ((w4 cy h0 h1 u0) ++ (wB cy h1 b1)) H → va_D A ((w4 cy h0 h1 u0) ++ (wB cy h1 b1)) → va_S A s.heap H locs → lv_has ls 1 [(0, .ref h0)] → W p l e ({ frames := 1, cells := 0, slots := 0, locals := 21 } : Room) s m args below meth c H locs 0 0 (MQ below (gQv D cy A ((w4 cy h0 h1 out) ++ (wB cy h1 b1))) args s 0 0 A) (F0 m 10 ls []) := by
  obtain ⟨hx, hb, hr, hml, hown, hts, hlk⟩ := id C
  have hown : s.vm.findClass RX4 = some m.cls := hown
  have hk_28 := hts _ (List.mem_cons_of_mem _ fl_RX4_28)
  have hk_24 := hts _ (List.mem_cons_of_mem _ fl_RX4_24)
  have hk_9 := hts _ (List.mem_cons_of_mem _ fl_RX4_9)
  have hcn_56 := hts _ (List.mem_cons_of_mem _ cn_RX4_56)
  have hk_53 := hts _ (List.mem_cons_of_mem _ fl_RX4_53)
  have hml_15 := hts _ (List.mem_cons_of_mem _ ml_RX4_15)
  have hms_min := hts _ (List.mem_cons_of_mem _ sm_min)
  have hmi_min := hts _ (List.mem_cons_of_mem _ in_Math)
  have hmc_min := hts _ (List.mem_cons_of_mem _ cd_min)
  intro n_10
  induction n_10 with
  | zero => intro u0 hf; exact op_no hf
  | succ n_10 ih_10 =>
    intro u0 hf H locs ls hP hD hS hl
    rw [f_X4_takeNumber_L10] at hf
    refine lv_aload_n hx hb dX4_takeNumber_10 rfl (lv_at hl 0 rfl) ?_
    refine va_get (ci := 4) (v := .int (u0.1 5)) (C := RX4) (T := TX4) (N := 6) hx hb hts (fun w h => List.mem_cons_of_mem _ (inX4 w h)) hown hK hP 0 rfl rfl 5 (by decide) hk_28 (fun _ h9 => h9) rfl dX4_takeNumber_11 ?_
    refine lv_aload_n hx hb dX4_takeNumber_14 rfl (lv_at hl 0 rfl) ?_
    refine va_get (ci := 4) (v := .int (u0.1 4)) (C := RX4) (T := TX4) (N := 6) hx hb hts (fun w h => List.mem_cons_of_mem _ (inX4 w h)) hown hK hP 0 rfl rfl 4 (by decide) hk_24 (fun _ h9 => h9) rfl dX4_takeNumber_15 ?_
    refine lv_icmp_ge (tgt := 91) hx hb dX4_takeNumber_18 (by decide) (fun c_18 => ?_) (fun c_18 => ?_)
    · have hf := op_pos c_18 hf
      rw [← Option.some.inj hf]
      exact g_vret hx hb hr hlk hK hP hD hS dX4_takeNumber_91
    · have hf := op_neg c_18 hf
      refine lv_aload_n hx hb dX4_takeNumber_21 rfl (lv_at hl 0 rfl) ?_
      refine va_get (ci := 4) (v := .ref h1) (C := RX4) (T := TX4) (N := 6) hx hb hts (fun w h => List.mem_cons_of_mem _ (inX4 w h)) hown hK hP 0 rfl rfl 0 (by decide) hk_9 (fun _ h9 => h9) rfl dX4_takeNumber_22 ?_
      refine lv_aload_n hx hb dX4_takeNumber_25 rfl (lv_at hl 0 rfl) ?_
      refine va_get (ci := 4) (v := .int (u0.1 5)) (C := RX4) (T := TX4) (N := 6) hx hb hts (fun w h => List.mem_cons_of_mem _ (inX4 w h)) hown hK hP 0 rfl rfl 5 (by decide) hk_28 (fun _ h9 => h9) rfl dX4_takeNumber_26 ?_
      obtain ⟨hg_29, hf⟩ := op_if hf
      refine va_bald (f := b1) hx hb hK hP 1 1 rfl rfl (inb_in hg_29) dX4_takeNumber_29 ?_
      refine lv_bipush (v := 48) hx hb dX4_takeNumber_30 (by decide) ?_
      refine lv_icmp_lt (tgt := 91) hx hb dX4_takeNumber_32 (by decide) (fun c_32 => ?_) (fun c_32 => ?_)
      · have hf := op_pos c_32 hf
        rw [← Option.some.inj hf]
        exact g_vret hx hb hr hlk hK hP hD hS dX4_takeNumber_91
      · have hf := op_neg c_32 hf
        refine lv_aload_n hx hb dX4_takeNumber_35 rfl (lv_at hl 0 rfl) ?_
        refine va_get (ci := 4) (v := .ref h1) (C := RX4) (T := TX4) (N := 6) hx hb hts (fun w h => List.mem_cons_of_mem _ (inX4 w h)) hown hK hP 0 rfl rfl 0 (by decide) hk_9 (fun _ h9 => h9) rfl dX4_takeNumber_36 ?_
        refine lv_aload_n hx hb dX4_takeNumber_39 rfl (lv_at hl 0 rfl) ?_
        refine va_get (ci := 4) (v := .int (u0.1 5)) (C := RX4) (T := TX4) (N := 6) hx hb hts (fun w h => List.mem_cons_of_mem _ (inX4 w h)) hown hK hP 0 rfl rfl 5 (by decide) hk_28 (fun _ h9 => h9) rfl dX4_takeNumber_40 ?_
        obtain ⟨hg_43, hf⟩ := op_if hf
        refine va_bald (f := b1) hx hb hK hP 1 1 rfl rfl (inb_in hg_43) dX4_takeNumber_43 ?_
        refine lv_bipush (v := 57) hx hb dX4_takeNumber_44 (by decide) ?_
        refine lv_icmp_gt (tgt := 91) hx hb dX4_takeNumber_46 (by decide) (fun c_46 => ?_) (fun c_46 => ?_)
        · have hf := op_pos c_46 hf
          rw [← Option.some.inj hf]
          exact g_vret hx hb hr hlk hK hP hD hS dX4_takeNumber_91
        · have hf := op_neg c_46 hf
          refine lv_aload_n hx hb dX4_takeNumber_49 rfl (lv_at hl 0 rfl) ?_
          refine lv_ldc (v := 100000) hx hb hown hcn_56 dX4_takeNumber_50 ?_
          refine lv_aload_n hx hb dX4_takeNumber_52 rfl (lv_at hl 0 rfl) ?_
          refine va_get (ci := 4) (v := .int (u0.1 3)) (C := RX4) (T := TX4) (N := 6) hx hb hts (fun w h => List.mem_cons_of_mem _ (inX4 w h)) hown hK hP 0 rfl rfl 3 (by decide) hk_53 (fun _ h9 => h9) rfl dX4_takeNumber_53 ?_
          refine lv_bipush (v := 10) hx hb dX4_takeNumber_56 (by decide) ?_
          refine lv_imul hx hb dX4_takeNumber_58 ?_
          refine lv_aload_n hx hb dX4_takeNumber_59 rfl (lv_at hl 0 rfl) ?_
          refine va_get (ci := 4) (v := .ref h1) (C := RX4) (T := TX4) (N := 6) hx hb hts (fun w h => List.mem_cons_of_mem _ (inX4 w h)) hown hK hP 0 rfl rfl 0 (by decide) hk_9 (fun _ h9 => h9) rfl dX4_takeNumber_60 ?_
          refine lv_aload_n hx hb dX4_takeNumber_63 rfl (lv_at hl 0 rfl) ?_
          refine va_get (ci := 4) (v := .int (u0.1 5)) (C := RX4) (T := TX4) (N := 6) hx hb hts (fun w h => List.mem_cons_of_mem _ (inX4 w h)) hown hK hP 0 rfl rfl 5 (by decide) hk_28 (fun _ h9 => h9) rfl dX4_takeNumber_64 ?_
          obtain ⟨hg_67, hf⟩ := op_if hf
          refine va_bald (f := b1) hx hb hK hP 1 1 rfl rfl (inb_in hg_67) dX4_takeNumber_67 ?_
          refine lv_iadd hx hb dX4_takeNumber_68 ?_
          refine lv_bipush (v := 48) hx hb dX4_takeNumber_69 (by decide) ?_
          refine lv_isub hx hb dX4_takeNumber_71 ?_
          refine va_mmin hx hb (hml.trans hl.1.symm) hown hml_15 hms_min hmi_min hmc_min (Nat.le_of_ble_eq_true rfl) (Nat.le_of_ble_eq_true rfl) (Nat.zero_le _) (Nat.zero_le _) dX4_takeNumber_72 ?_
          refine va_put (ci := 4) (v := .int (if ((((u0.1 3) * 10) + (b1 (u0.1 5).toNatClampNeg)) - 48) < 100000 then ((((u0.1 3) * 10) + (b1 (u0.1 5).toNatClampNeg)) - 48) else 100000)) (ty := tyX4 3) (C := RX4) (T := TX4) (N := 6) hx hb hts (fun w h => List.mem_cons_of_mem _ (inX4 w h)) tyX4 tyX4_ok nmX4 hown hK hP hD hS 0 rfl rfl 3 (by decide) hk_53 (fun _ h9 => h9) rfl (tyX4_ok 3 (by decide)) rfl rfl (Nat.le_of_ble_eq_true rfl) dX4_takeNumber_75 (fun H locs hP hD hS => ?_)
          have hP : va_P D vwCl ((w4 cy h0 h1 (sF u0 3 (if ((((u0.1 3) * 10) + (b1 (u0.1 5).toNatClampNeg)) - 48) < 100000 then ((((u0.1 3) * 10) + (b1 (u0.1 5).toNatClampNeg)) - 48) else 100000))) ++ (wB cy h1 b1)) H := hP
          have hD : va_D A ((w4 cy h0 h1 (sF u0 3 (if ((((u0.1 3) * 10) + (b1 (u0.1 5).toNatClampNeg)) - 48) < 100000 then ((((u0.1 3) * 10) + (b1 (u0.1 5).toNatClampNeg)) - 48) else 100000))) ++ (wB cy h1 b1)) := hD
          refine lv_aload_n hx hb dX4_takeNumber_78 rfl (lv_at hl 0 rfl) ?_
          refine lv_dup hx hb dX4_takeNumber_79 rfl ?_
          refine va_get (ci := 4) (v := .int (u0.1 5)) (C := RX4) (T := TX4) (N := 6) hx hb hts (fun w h => List.mem_cons_of_mem _ (inX4 w h)) hown hK hP 0 rfl rfl 5 (by decide) hk_28 (fun _ h9 => h9) rfl dX4_takeNumber_80 ?_
          refine lv_iconst (v := 1) hx hb dX4_takeNumber_83 (by decide) ?_
          refine lv_iadd hx hb dX4_takeNumber_84 ?_
          refine va_put (ci := 4) (v := .int ((u0.1 5) + 1)) (ty := tyX4 5) (C := RX4) (T := TX4) (N := 6) hx hb hts (fun w h => List.mem_cons_of_mem _ (inX4 w h)) tyX4 tyX4_ok nmX4 hown hK hP hD hS 0 rfl rfl 5 (by decide) hk_28 (fun _ h9 => h9) rfl (tyX4_ok 5 (by decide)) rfl rfl (Nat.le_of_ble_eq_true rfl) dX4_takeNumber_85 (fun H locs hP hD hS => ?_)
          have hP : va_P D vwCl ((w4 cy h0 h1 (sF (sF u0 3 (if ((((u0.1 3) * 10) + (b1 (u0.1 5).toNatClampNeg)) - 48) < 100000 then ((((u0.1 3) * 10) + (b1 (u0.1 5).toNatClampNeg)) - 48) else 100000)) 5 ((u0.1 5) + 1))) ++ (wB cy h1 b1)) H := hP
          have hD : va_D A ((w4 cy h0 h1 (sF (sF u0 3 (if ((((u0.1 3) * 10) + (b1 (u0.1 5).toNatClampNeg)) - 48) < 100000 then ((((u0.1 3) * 10) + (b1 (u0.1 5).toNatClampNeg)) - 48) else 100000)) 5 ((u0.1 5) + 1))) ++ (wB cy h1 b1)) := hD
          refine lv_goto (tgt := 10) hx hb dX4_takeNumber_88 (by decide) ?_
          exact ih_10 (sF (sF u0 3 (if ((((u0.1 3) * 10) + (b1 (u0.1 5).toNatClampNeg)) - 48) < 100000 then ((((u0.1 3) * 10) + (b1 (u0.1 5).toNatClampNeg)) - 48) else 100000)) 5 ((u0.1 5) + 1)) hf _ _ ls hP hD hS (lv_sub hl [0] rfl)
def f_X4_takeNumber (fu : Nat) (b1 : Nat → Int32) (s0 : St)  : Option (St) := f_X4_takeNumber_L10 fu b1 fu (sF (sF s0 1 3) 3 0)
theorem hdX4_takeNumber : yX4_takeNumber.cls = RX4 ∧ yX4_takeNumber.cls ≠ "java/lang/invoke/MethodHandle" ∧ yX4_takeNumber.cls ≠ "java/lang/invoke/VarHandle" ∧ (parseMethodDescriptor yX4_takeNumber.desc).map (fun d => d.parameters.length) = some 0 := by decide +kernel
set_option maxHeartbeats 4000000 in
set_option maxRecDepth 100000 in
theorem c_X4_takeNumber (l : Launch) (D : va_G) (cy : Nat → ClassId) (h0 : Nat) (s0 : St) (h1 : Nat) (b1 : Nat → Int32) (sz fu : Nat)  (out : St) (hf : f_X4_takeNumber fu b1 s0 = some out) :
    Met l yX4_takeNumber (WS yX4_takeNumber cX4_takeNumber 1 none) ({ frames := 1, cells := 0, slots := 0, locals := 21 } : Room) (va_Pc [.ref h0] (gP D cy sz ((w4 cy h0 h1 s0) ++ (wB cy h1 b1)))) ((fun A : Nat → Prop => gQv D cy A ((w4 cy h0 h1 out) ++ (wB cy h1 b1))) (va_A ((w4 cy h0 h1 s0) ++ (wB cy h1 b1)) sz)) 0 0 (va_A ((w4 cy h0 h1 s0) ++ (wB cy h1 b1)) sz) := by
  refine g_met (cc := cX4_takeNumber) (maxL := 1) (ret := none) (fun A : Nat → Prop => gQv D cy A ((w4 cy h0 h1 out) ++ (wB cy h1 b1))) (by decide +kernel) rfl (Nat.le_of_ble_eq_true rfl) ?_
  intro p e s m below meth c A C hA hK hP hD ls hl
  obtain ⟨hx, hb, hr, hml, hown, hts, hlk⟩ := id C
  have hown : s.vm.findClass RX4 = some m.cls := hown
  have hS : va_S A s.heap s.heap [] := va_S.rf
  have hl : lv_has ls 1 [(0, .ref h0)] := hl
  have hk_37 := hts _ (List.mem_cons_of_mem _ fl_RX4_37)
  have hk_53 := hts _ (List.mem_cons_of_mem _ fl_RX4_53)
  unfold f_X4_takeNumber at hf
  refine lv_aload_n hx hb dX4_takeNumber_0 rfl (lv_at hl 0 rfl) ?_
  refine lv_iconst (v := 3) hx hb dX4_takeNumber_1 (by decide) ?_
  refine va_put (ci := 4) (v := .int 3) (ty := tyX4 1) (C := RX4) (T := TX4) (N := 6) hx hb hts (fun w h => List.mem_cons_of_mem _ (inX4 w h)) tyX4 tyX4_ok nmX4 hown hK hP hD hS 0 rfl rfl 1 (by decide) hk_37 (fun _ h9 => h9) rfl (tyX4_ok 1 (by decide)) rfl rfl (Nat.le_of_ble_eq_true rfl) dX4_takeNumber_2 (fun H locs hP hD hS => ?_)
  have hP : va_P D vwCl ((w4 cy h0 h1 (sF s0 1 3)) ++ (wB cy h1 b1)) H := hP
  have hD : va_D A ((w4 cy h0 h1 (sF s0 1 3)) ++ (wB cy h1 b1)) := hD
  refine lv_aload_n hx hb dX4_takeNumber_5 rfl (lv_at hl 0 rfl) ?_
  refine lv_iconst (v := 0) hx hb dX4_takeNumber_6 (by decide) ?_
  refine va_put (ci := 4) (v := .int 0) (ty := tyX4 3) (C := RX4) (T := TX4) (N := 6) hx hb hts (fun w h => List.mem_cons_of_mem _ (inX4 w h)) tyX4 tyX4_ok nmX4 hown hK hP hD hS 0 rfl rfl 3 (by decide) hk_53 (fun _ h9 => h9) rfl (tyX4_ok 3 (by decide)) rfl rfl (Nat.le_of_ble_eq_true rfl) dX4_takeNumber_7 (fun H locs hP hD hS => ?_)
  have hP : va_P D vwCl ((w4 cy h0 h1 (sF (sF s0 1 3) 3 0)) ++ (wB cy h1 b1)) H := hP
  have hD : va_D A ((w4 cy h0 h1 (sF (sF s0 1 3) 3 0)) ++ (wB cy h1 b1)) := hD
  exact b_X4_takeNumber_L10 l D cy h0 h1 b1 fu out C hA hK fu (sF (sF s0 1 3) 3 0) hf _ _ ls hP hD hS (lv_sub hl [0] rfl)
def f_X4_takeString_L139  (fu : Nat) (b1 : Nat → Int32) (u0 : St) (t0 : Int32) : Option (St) := some (sF u0 5 t0)
set_option maxHeartbeats 4000000 in
set_option maxRecDepth 100000 in
theorem b_X4_takeString_L139 {p : Program} {e : Env} {s : State} {m : MethodId} {args : Array Value} {below : List Frame} {meth : Method} {c : Code} {A : Nat → Prop} (l : Launch) (D : va_G) (cy : Nat → ClassId) (h0 : Nat) (h1 : Nat) (b1 : Nat → Int32) (fu : Nat) (out : St) (C : gC p s m args meth c (WS yX4_takeString cX4_takeString 2 none) cX4_takeString 2 none RX4) (hA : ∀ q : Nat, s.heap.size ≤ q → A q) (hK : va_K D vwCl (TY cy) s)  :
    ∀ (u0 : St) (t0 : Int32), f_X4_takeString_L139 fu b1 u0 t0 = some out → ∀ (H : Heap) (locs : List Loc) (ls : Array Slot), va_P D vwCl ((w4 cy h0 h1 u0) ++ (wB cy h1 b1)) H → va_D A ((w4 cy h0 h1 u0) ++ (wB cy h1 b1)) → va_S A s.heap H locs → lv_has ls 2 [] → W p l e ({ frames := 0, cells := 0, slots := 0, locals := 0 } : Room) s m args below meth c H locs 0 0 (MQ below (gQv D cy A ((w4 cy h0 h1 out) ++ (wB cy h1 b1))) args s 0 0 A) (F0 m 139 ls [.int t0, .ref h0]) := by
  obtain ⟨hx, hb, hr, hml, hown, hts, hlk⟩ := id C
  have hown : s.vm.findClass RX4 = some m.cls := hown
  have hk_28 := hts _ (List.mem_cons_of_mem _ fl_RX4_28)
  intro u0 t0 hf H locs ls hP hD hS hl
  unfold f_X4_takeString_L139 at hf
  refine va_put (ci := 4) (v := .int t0) (ty := tyX4 5) (C := RX4) (T := TX4) (N := 6) hx hb hts (fun w h => List.mem_cons_of_mem _ (inX4 w h)) tyX4 tyX4_ok nmX4 hown hK hP hD hS 0 rfl rfl 5 (by decide) hk_28 (fun _ h9 => h9) rfl (tyX4_ok 5 (by decide)) rfl rfl (Nat.le_of_ble_eq_true rfl) dX4_takeString_139 (fun H locs hP hD hS => ?_)
  have hP : va_P D vwCl ((w4 cy h0 h1 (sF u0 5 t0)) ++ (wB cy h1 b1)) H := hP
  have hD : va_D A ((w4 cy h0 h1 (sF u0 5 t0)) ++ (wB cy h1 b1)) := hD
  rw [← Option.some.inj hf]
  exact g_vret hx hb hr hlk hK hP hD hS dX4_takeString_142
def f_X4_takeString_L118  (fu : Nat) (b1 : Nat → Int32) (u0 : St) (x1 : Int32) (t0 : Int32) : Option (St) := if x1 = 0 then (f_X4_takeString_L139 fu b1 (sF u0 1 t0) (u0.1 5)) else (f_X4_takeString_L139 fu b1 (sF u0 1 t0) ((u0.1 5) + 1))
set_option maxHeartbeats 4000000 in
set_option maxRecDepth 100000 in
theorem b_X4_takeString_L118 {p : Program} {e : Env} {s : State} {m : MethodId} {args : Array Value} {below : List Frame} {meth : Method} {c : Code} {A : Nat → Prop} (l : Launch) (D : va_G) (cy : Nat → ClassId) (h0 : Nat) (h1 : Nat) (b1 : Nat → Int32) (fu : Nat) (out : St) (C : gC p s m args meth c (WS yX4_takeString cX4_takeString 2 none) cX4_takeString 2 none RX4) (hA : ∀ q : Nat, s.heap.size ≤ q → A q) (hK : va_K D vwCl (TY cy) s)  :
    ∀ (u0 : St) (x1 : Int32) (t0 : Int32), f_X4_takeString_L118 fu b1 u0 x1 t0 = some out → ∀ (H : Heap) (locs : List Loc) (ls : Array Slot), va_P D vwCl ((w4 cy h0 h1 u0) ++ (wB cy h1 b1)) H → va_D A ((w4 cy h0 h1 u0) ++ (wB cy h1 b1)) → va_S A s.heap H locs → lv_has ls 2 [(0, .ref h0), (1, .int x1)] → W p l e ({ frames := 0, cells := 0, slots := 0, locals := 0 } : Room) s m args below meth c H locs 0 0 (MQ below (gQv D cy A ((w4 cy h0 h1 out) ++ (wB cy h1 b1))) args s 0 0 A) (F0 m 118 ls [.int t0, .ref h0]) := by
  obtain ⟨hx, hb, hr, hml, hown, hts, hlk⟩ := id C
  have hown : s.vm.findClass RX4 = some m.cls := hown
  have hk_37 := hts _ (List.mem_cons_of_mem _ fl_RX4_37)
  have hk_28 := hts _ (List.mem_cons_of_mem _ fl_RX4_28)
  intro u0 x1 t0 hf H locs ls hP hD hS hl
  unfold f_X4_takeString_L118 at hf
  refine va_put (ci := 4) (v := .int t0) (ty := tyX4 1) (C := RX4) (T := TX4) (N := 6) hx hb hts (fun w h => List.mem_cons_of_mem _ (inX4 w h)) tyX4 tyX4_ok nmX4 hown hK hP hD hS 0 rfl rfl 1 (by decide) hk_37 (fun _ h9 => h9) rfl (tyX4_ok 1 (by decide)) rfl rfl (Nat.le_of_ble_eq_true rfl) dX4_takeString_118 (fun H locs hP hD hS => ?_)
  have hP : va_P D vwCl ((w4 cy h0 h1 (sF u0 1 t0)) ++ (wB cy h1 b1)) H := hP
  have hD : va_D A ((w4 cy h0 h1 (sF u0 1 t0)) ++ (wB cy h1 b1)) := hD
  refine lv_aload_n hx hb dX4_takeString_121 rfl (lv_at hl 0 rfl) ?_
  refine lv_iload_n hx hb dX4_takeString_122 rfl (lv_at hl 1 rfl) ?_
  refine lv_if_eq (tgt := 135) hx hb dX4_takeString_123 (by decide) (fun c_123 => ?_) (fun c_123 => ?_)
  · have hf := op_pos c_123 hf
    refine lv_aload_n hx hb dX4_takeString_135 rfl (lv_at hl 0 rfl) ?_
    refine va_get (ci := 4) (v := .int (u0.1 5)) (C := RX4) (T := TX4) (N := 6) hx hb hts (fun w h => List.mem_cons_of_mem _ (inX4 w h)) hown hK hP 0 rfl rfl 5 (by decide) hk_28 (fun _ h9 => h9) rfl dX4_takeString_136 ?_
    exact b_X4_takeString_L139 l D cy h0 h1 b1 fu out C hA hK (sF u0 1 t0) (u0.1 5) hf _ _ ls hP hD hS (lv_sub hl [] rfl)
  · have hf := op_neg c_123 hf
    refine lv_aload_n hx hb dX4_takeString_126 rfl (lv_at hl 0 rfl) ?_
    refine va_get (ci := 4) (v := .int (u0.1 5)) (C := RX4) (T := TX4) (N := 6) hx hb hts (fun w h => List.mem_cons_of_mem _ (inX4 w h)) hown hK hP 0 rfl rfl 5 (by decide) hk_28 (fun _ h9 => h9) rfl dX4_takeString_127 ?_
    refine lv_iconst (v := 1) hx hb dX4_takeString_130 (by decide) ?_
    refine lv_iadd hx hb dX4_takeString_131 ?_
    refine lv_goto (tgt := 139) hx hb dX4_takeString_132 (by decide) ?_
    exact b_X4_takeString_L139 l D cy h0 h1 b1 fu out C hA hK (sF u0 1 t0) ((u0.1 5) + 1) hf _ _ ls hP hD hS (lv_sub hl [] rfl)
def f_X4_takeString_L106  (fu : Nat) (b1 : Nat → Int32) (u0 : St) (t0 : Int32) : Option (St) := if t0 = 0 then (f_X4_takeString_L118 fu b1 u0 t0 6) else (f_X4_takeString_L118 fu b1 u0 t0 4)
set_option maxHeartbeats 4000000 in
set_option maxRecDepth 100000 in
theorem b_X4_takeString_L106 {p : Program} {e : Env} {s : State} {m : MethodId} {args : Array Value} {below : List Frame} {meth : Method} {c : Code} {A : Nat → Prop} (l : Launch) (D : va_G) (cy : Nat → ClassId) (h0 : Nat) (h1 : Nat) (b1 : Nat → Int32) (fu : Nat) (out : St) (C : gC p s m args meth c (WS yX4_takeString cX4_takeString 2 none) cX4_takeString 2 none RX4) (hA : ∀ q : Nat, s.heap.size ≤ q → A q) (hK : va_K D vwCl (TY cy) s)  :
    ∀ (u0 : St) (t0 : Int32), f_X4_takeString_L106 fu b1 u0 t0 = some out → ∀ (H : Heap) (locs : List Loc) (ls : Array Slot), va_P D vwCl ((w4 cy h0 h1 u0) ++ (wB cy h1 b1)) H → va_D A ((w4 cy h0 h1 u0) ++ (wB cy h1 b1)) → va_S A s.heap H locs → lv_has ls 2 [(0, .ref h0)] → W p l e ({ frames := 0, cells := 0, slots := 0, locals := 0 } : Room) s m args below meth c H locs 0 0 (MQ below (gQv D cy A ((w4 cy h0 h1 out) ++ (wB cy h1 b1))) args s 0 0 A) (F0 m 106 ls [.int t0]) := by
  obtain ⟨hx, hb, hr, hml, hown, hts, hlk⟩ := id C
  have hown : s.vm.findClass RX4 = some m.cls := hown
  intro u0 t0 hf H locs ls hP hD hS hl
  unfold f_X4_takeString_L106 at hf
  refine lv_istore_n (lv' := [(1, .int t0), (0, .ref h0)]) hx hb dX4_takeString_106 rfl hl (by decide) rfl (fun ls hl => ?_)
  refine lv_aload_n hx hb dX4_takeString_107 rfl (lv_at hl 1 rfl) ?_
  refine lv_iload_n hx hb dX4_takeString_108 rfl (lv_at hl 0 rfl) ?_
  refine lv_if_eq (tgt := 116) hx hb dX4_takeString_109 (by decide) (fun c_109 => ?_) (fun c_109 => ?_)
  · have hf := op_pos c_109 hf
    refine lv_bipush (v := 6) hx hb dX4_takeString_116 (by decide) ?_
    exact b_X4_takeString_L118 l D cy h0 h1 b1 fu out C hA hK u0 t0 6 hf _ _ ls hP hD hS (lv_sub hl [1, 0] rfl)
  · have hf := op_neg c_109 hf
    refine lv_iconst (v := 4) hx hb dX4_takeString_112 (by decide) ?_
    refine lv_goto (tgt := 118) hx hb dX4_takeString_113 (by decide) ?_
    exact b_X4_takeString_L118 l D cy h0 h1 b1 fu out C hA hK u0 t0 4 hf _ _ ls hP hD hS (lv_sub hl [1, 0] rfl)
def f_X4_takeString_L105  (fu : Nat) (b1 : Nat → Int32) (u0 : St) : Option (St) := f_X4_takeString_L106 fu b1 u0 0
set_option maxHeartbeats 4000000 in
set_option maxRecDepth 100000 in
theorem b_X4_takeString_L105 {p : Program} {e : Env} {s : State} {m : MethodId} {args : Array Value} {below : List Frame} {meth : Method} {c : Code} {A : Nat → Prop} (l : Launch) (D : va_G) (cy : Nat → ClassId) (h0 : Nat) (h1 : Nat) (b1 : Nat → Int32) (fu : Nat) (out : St) (C : gC p s m args meth c (WS yX4_takeString cX4_takeString 2 none) cX4_takeString 2 none RX4) (hA : ∀ q : Nat, s.heap.size ≤ q → A q) (hK : va_K D vwCl (TY cy) s)  :
    ∀ (u0 : St), f_X4_takeString_L105 fu b1 u0 = some out → ∀ (H : Heap) (locs : List Loc) (ls : Array Slot), va_P D vwCl ((w4 cy h0 h1 u0) ++ (wB cy h1 b1)) H → va_D A ((w4 cy h0 h1 u0) ++ (wB cy h1 b1)) → va_S A s.heap H locs → lv_has ls 2 [(0, .ref h0)] → W p l e ({ frames := 0, cells := 0, slots := 0, locals := 0 } : Room) s m args below meth c H locs 0 0 (MQ below (gQv D cy A ((w4 cy h0 h1 out) ++ (wB cy h1 b1))) args s 0 0 A) (F0 m 105 ls []) := by
  obtain ⟨hx, hb, hr, hml, hown, hts, hlk⟩ := id C
  have hown : s.vm.findClass RX4 = some m.cls := hown
  intro u0 hf H locs ls hP hD hS hl
  unfold f_X4_takeString_L105 at hf
  refine lv_iconst (v := 0) hx hb dX4_takeString_105 (by decide) ?_
  exact b_X4_takeString_L106 l D cy h0 h1 b1 fu out C hA hK u0 0 hf _ _ ls hP hD hS (lv_sub hl [0] rfl)
def f_X4_takeString_L76  (fu : Nat) (b1 : Nat → Int32) (u0 : St) : Option (St) := if (u0.1 4) ≤ (u0.1 5) then (f_X4_takeString_L105 fu b1 u0) else (if inb (u0.1 5) 1500 = true then (if (b1 (u0.1 5).toNatClampNeg) = 34 then (f_X4_takeString_L106 fu b1 u0 1) else (f_X4_takeString_L105 fu b1 u0)) else none)
set_option maxHeartbeats 4000000 in
set_option maxRecDepth 100000 in
theorem b_X4_takeString_L76 {p : Program} {e : Env} {s : State} {m : MethodId} {args : Array Value} {below : List Frame} {meth : Method} {c : Code} {A : Nat → Prop} (l : Launch) (D : va_G) (cy : Nat → ClassId) (h0 : Nat) (h1 : Nat) (b1 : Nat → Int32) (fu : Nat) (out : St) (C : gC p s m args meth c (WS yX4_takeString cX4_takeString 2 none) cX4_takeString 2 none RX4) (hA : ∀ q : Nat, s.heap.size ≤ q → A q) (hK : va_K D vwCl (TY cy) s)  :
    ∀ (u0 : St), f_X4_takeString_L76 fu b1 u0 = some out → ∀ (H : Heap) (locs : List Loc) (ls : Array Slot), va_P D vwCl ((w4 cy h0 h1 u0) ++ (wB cy h1 b1)) H → va_D A ((w4 cy h0 h1 u0) ++ (wB cy h1 b1)) → va_S A s.heap H locs → lv_has ls 2 [(0, .ref h0)] → W p l e ({ frames := 0, cells := 0, slots := 0, locals := 0 } : Room) s m args below meth c H locs 0 0 (MQ below (gQv D cy A ((w4 cy h0 h1 out) ++ (wB cy h1 b1))) args s 0 0 A) (F0 m 76 ls []) := by
  obtain ⟨hx, hb, hr, hml, hown, hts, hlk⟩ := id C
  have hown : s.vm.findClass RX4 = some m.cls := hown
  have hk_28 := hts _ (List.mem_cons_of_mem _ fl_RX4_28)
  have hk_24 := hts _ (List.mem_cons_of_mem _ fl_RX4_24)
  have hk_9 := hts _ (List.mem_cons_of_mem _ fl_RX4_9)
  intro u0 hf H locs ls hP hD hS hl
  unfold f_X4_takeString_L76 at hf
  refine lv_aload_n hx hb dX4_takeString_76 rfl (lv_at hl 0 rfl) ?_
  refine va_get (ci := 4) (v := .int (u0.1 5)) (C := RX4) (T := TX4) (N := 6) hx hb hts (fun w h => List.mem_cons_of_mem _ (inX4 w h)) hown hK hP 0 rfl rfl 5 (by decide) hk_28 (fun _ h9 => h9) rfl dX4_takeString_77 ?_
  refine lv_aload_n hx hb dX4_takeString_80 rfl (lv_at hl 0 rfl) ?_
  refine va_get (ci := 4) (v := .int (u0.1 4)) (C := RX4) (T := TX4) (N := 6) hx hb hts (fun w h => List.mem_cons_of_mem _ (inX4 w h)) hown hK hP 0 rfl rfl 4 (by decide) hk_24 (fun _ h9 => h9) rfl dX4_takeString_81 ?_
  refine lv_icmp_ge (tgt := 105) hx hb dX4_takeString_84 (by decide) (fun c_84 => ?_) (fun c_84 => ?_)
  · have hf := op_pos c_84 hf
    exact b_X4_takeString_L105 l D cy h0 h1 b1 fu out C hA hK u0 hf _ _ ls hP hD hS (lv_sub hl [0] rfl)
  · have hf := op_neg c_84 hf
    refine lv_aload_n hx hb dX4_takeString_87 rfl (lv_at hl 0 rfl) ?_
    refine va_get (ci := 4) (v := .ref h1) (C := RX4) (T := TX4) (N := 6) hx hb hts (fun w h => List.mem_cons_of_mem _ (inX4 w h)) hown hK hP 0 rfl rfl 0 (by decide) hk_9 (fun _ h9 => h9) rfl dX4_takeString_88 ?_
    refine lv_aload_n hx hb dX4_takeString_91 rfl (lv_at hl 0 rfl) ?_
    refine va_get (ci := 4) (v := .int (u0.1 5)) (C := RX4) (T := TX4) (N := 6) hx hb hts (fun w h => List.mem_cons_of_mem _ (inX4 w h)) hown hK hP 0 rfl rfl 5 (by decide) hk_28 (fun _ h9 => h9) rfl dX4_takeString_92 ?_
    obtain ⟨hg_95, hf⟩ := op_if hf
    refine va_bald (f := b1) hx hb hK hP 1 1 rfl rfl (inb_in hg_95) dX4_takeString_95 ?_
    refine lv_bipush (v := 34) hx hb dX4_takeString_96 (by decide) ?_
    refine lv_icmp_ne (tgt := 105) hx hb dX4_takeString_98 (by decide) (fun c_98 => ?_) (fun c_98 => ?_)
    · have hf := op_neg c_98 hf
      exact b_X4_takeString_L105 l D cy h0 h1 b1 fu out C hA hK u0 hf _ _ ls hP hD hS (lv_sub hl [0] rfl)
    · have hf := op_pos c_98 hf
      refine lv_iconst (v := 1) hx hb dX4_takeString_101 (by decide) ?_
      refine lv_goto (tgt := 106) hx hb dX4_takeString_102 (by decide) ?_
      exact b_X4_takeString_L106 l D cy h0 h1 b1 fu out C hA hK u0 1 hf _ _ ls hP hD hS (lv_sub hl [0] rfl)
def f_X4_takeString_L10  (fu : Nat) (b1 : Nat → Int32) : Nat → St → Option (St)
  | 0, _ => none
  | n_10 + 1, u0 => if (u0.1 4) ≤ (u0.1 5) then (f_X4_takeString_L76 fu b1 u0) else (if inb (u0.1 5) 1500 = true then (if (b1 (u0.1 5).toNatClampNeg) < 32 then (f_X4_takeString_L76 fu b1 u0) else (if inb (u0.1 5) 1500 = true then (if 126 < (b1 (u0.1 5).toNatClampNeg) then (f_X4_takeString_L76 fu b1 u0) else (if inb (u0.1 5) 1500 = true then (if (b1 (u0.1 5).toNatClampNeg) = 34 then (f_X4_takeString_L76 fu b1 u0) else (f_X4_takeString_L10 fu b1 n_10 (sF u0 5 ((u0.1 5) + 1)))) else none)) else none)) else none)
set_option maxHeartbeats 4000000 in
set_option maxRecDepth 100000 in
theorem b_X4_takeString_L10 {p : Program} {e : Env} {s : State} {m : MethodId} {args : Array Value} {below : List Frame} {meth : Method} {c : Code} {A : Nat → Prop} (l : Launch) (D : va_G) (cy : Nat → ClassId) (h0 : Nat) (h1 : Nat) (b1 : Nat → Int32) (fu : Nat) (out : St) (C : gC p s m args meth c (WS yX4_takeString cX4_takeString 2 none) cX4_takeString 2 none RX4) (hA : ∀ q : Nat, s.heap.size ≤ q → A q) (hK : va_K D vwCl (TY cy) s)  :
    ∀ (n_10 : Nat), ∀ (u0 : St), f_X4_takeString_L10 fu b1 n_10 u0 = some out → ∀ (H : Heap) (locs : List Loc) (ls : Array Slot), va_P D vwCl ((w4 cy h0 h1 u0) ++ (wB cy h1 b1)) H → va_D A ((w4 cy h0 h1 u0) ++ (wB cy h1 b1)) → va_S A s.heap H locs → lv_has ls 2 [(0, .ref h0)] → W p l e ({ frames := 0, cells := 0, slots := 0, locals := 0 } : Room) s m args below meth c H locs 0 0 (MQ below (gQv D cy A ((w4 cy h0 h1 out) ++ (wB cy h1 b1))) args s 0 0 A) (F0 m 10 ls []) := by
  obtain ⟨hx, hb, hr, hml, hown, hts, hlk⟩ := id C
  have hown : s.vm.findClass RX4 = some m.cls := hown
  have hk_28 := hts _ (List.mem_cons_of_mem _ fl_RX4_28)
  have hk_24 := hts _ (List.mem_cons_of_mem _ fl_RX4_24)
  have hk_9 := hts _ (List.mem_cons_of_mem _ fl_RX4_9)
  intro n_10
  induction n_10 with
  | zero => intro u0 hf; exact op_no hf
  | succ n_10 ih_10 =>
    intro u0 hf H locs ls hP hD hS hl
    rw [f_X4_takeString_L10] at hf
    refine lv_aload_n hx hb dX4_takeString_10 rfl (lv_at hl 0 rfl) ?_
    refine va_get (ci := 4) (v := .int (u0.1 5)) (C := RX4) (T := TX4) (N := 6) hx hb hts (fun w h => List.mem_cons_of_mem _ (inX4 w h)) hown hK hP 0 rfl rfl 5 (by decide) hk_28 (fun _ h9 => h9) rfl dX4_takeString_11 ?_
    refine lv_aload_n hx hb dX4_takeString_14 rfl (lv_at hl 0 rfl) ?_
    refine va_get (ci := 4) (v := .int (u0.1 4)) (C := RX4) (T := TX4) (N := 6) hx hb hts (fun w h => List.mem_cons_of_mem _ (inX4 w h)) hown hK hP 0 rfl rfl 4 (by decide) hk_24 (fun _ h9 => h9) rfl dX4_takeString_15 ?_
    refine lv_icmp_ge (tgt := 76) hx hb dX4_takeString_18 (by decide) (fun c_18 => ?_) (fun c_18 => ?_)
    · have hf := op_pos c_18 hf
      exact b_X4_takeString_L76 l D cy h0 h1 b1 fu out C hA hK u0 hf _ _ ls hP hD hS (lv_sub hl [0] rfl)
    · have hf := op_neg c_18 hf
      refine lv_aload_n hx hb dX4_takeString_21 rfl (lv_at hl 0 rfl) ?_
      refine va_get (ci := 4) (v := .ref h1) (C := RX4) (T := TX4) (N := 6) hx hb hts (fun w h => List.mem_cons_of_mem _ (inX4 w h)) hown hK hP 0 rfl rfl 0 (by decide) hk_9 (fun _ h9 => h9) rfl dX4_takeString_22 ?_
      refine lv_aload_n hx hb dX4_takeString_25 rfl (lv_at hl 0 rfl) ?_
      refine va_get (ci := 4) (v := .int (u0.1 5)) (C := RX4) (T := TX4) (N := 6) hx hb hts (fun w h => List.mem_cons_of_mem _ (inX4 w h)) hown hK hP 0 rfl rfl 5 (by decide) hk_28 (fun _ h9 => h9) rfl dX4_takeString_26 ?_
      obtain ⟨hg_29, hf⟩ := op_if hf
      refine va_bald (f := b1) hx hb hK hP 1 1 rfl rfl (inb_in hg_29) dX4_takeString_29 ?_
      refine lv_bipush (v := 32) hx hb dX4_takeString_30 (by decide) ?_
      refine lv_icmp_lt (tgt := 76) hx hb dX4_takeString_32 (by decide) (fun c_32 => ?_) (fun c_32 => ?_)
      · have hf := op_pos c_32 hf
        exact b_X4_takeString_L76 l D cy h0 h1 b1 fu out C hA hK u0 hf _ _ ls hP hD hS (lv_sub hl [0] rfl)
      · have hf := op_neg c_32 hf
        refine lv_aload_n hx hb dX4_takeString_35 rfl (lv_at hl 0 rfl) ?_
        refine va_get (ci := 4) (v := .ref h1) (C := RX4) (T := TX4) (N := 6) hx hb hts (fun w h => List.mem_cons_of_mem _ (inX4 w h)) hown hK hP 0 rfl rfl 0 (by decide) hk_9 (fun _ h9 => h9) rfl dX4_takeString_36 ?_
        refine lv_aload_n hx hb dX4_takeString_39 rfl (lv_at hl 0 rfl) ?_
        refine va_get (ci := 4) (v := .int (u0.1 5)) (C := RX4) (T := TX4) (N := 6) hx hb hts (fun w h => List.mem_cons_of_mem _ (inX4 w h)) hown hK hP 0 rfl rfl 5 (by decide) hk_28 (fun _ h9 => h9) rfl dX4_takeString_40 ?_
        obtain ⟨hg_43, hf⟩ := op_if hf
        refine va_bald (f := b1) hx hb hK hP 1 1 rfl rfl (inb_in hg_43) dX4_takeString_43 ?_
        refine lv_bipush (v := 126) hx hb dX4_takeString_44 (by decide) ?_
        refine lv_icmp_gt (tgt := 76) hx hb dX4_takeString_46 (by decide) (fun c_46 => ?_) (fun c_46 => ?_)
        · have hf := op_pos c_46 hf
          exact b_X4_takeString_L76 l D cy h0 h1 b1 fu out C hA hK u0 hf _ _ ls hP hD hS (lv_sub hl [0] rfl)
        · have hf := op_neg c_46 hf
          refine lv_aload_n hx hb dX4_takeString_49 rfl (lv_at hl 0 rfl) ?_
          refine va_get (ci := 4) (v := .ref h1) (C := RX4) (T := TX4) (N := 6) hx hb hts (fun w h => List.mem_cons_of_mem _ (inX4 w h)) hown hK hP 0 rfl rfl 0 (by decide) hk_9 (fun _ h9 => h9) rfl dX4_takeString_50 ?_
          refine lv_aload_n hx hb dX4_takeString_53 rfl (lv_at hl 0 rfl) ?_
          refine va_get (ci := 4) (v := .int (u0.1 5)) (C := RX4) (T := TX4) (N := 6) hx hb hts (fun w h => List.mem_cons_of_mem _ (inX4 w h)) hown hK hP 0 rfl rfl 5 (by decide) hk_28 (fun _ h9 => h9) rfl dX4_takeString_54 ?_
          obtain ⟨hg_57, hf⟩ := op_if hf
          refine va_bald (f := b1) hx hb hK hP 1 1 rfl rfl (inb_in hg_57) dX4_takeString_57 ?_
          refine lv_bipush (v := 34) hx hb dX4_takeString_58 (by decide) ?_
          refine lv_icmp_eq (tgt := 76) hx hb dX4_takeString_60 (by decide) (fun c_60 => ?_) (fun c_60 => ?_)
          · have hf := op_pos c_60 hf
            exact b_X4_takeString_L76 l D cy h0 h1 b1 fu out C hA hK u0 hf _ _ ls hP hD hS (lv_sub hl [0] rfl)
          · have hf := op_neg c_60 hf
            refine lv_aload_n hx hb dX4_takeString_63 rfl (lv_at hl 0 rfl) ?_
            refine lv_dup hx hb dX4_takeString_64 rfl ?_
            refine va_get (ci := 4) (v := .int (u0.1 5)) (C := RX4) (T := TX4) (N := 6) hx hb hts (fun w h => List.mem_cons_of_mem _ (inX4 w h)) hown hK hP 0 rfl rfl 5 (by decide) hk_28 (fun _ h9 => h9) rfl dX4_takeString_65 ?_
            refine lv_iconst (v := 1) hx hb dX4_takeString_68 (by decide) ?_
            refine lv_iadd hx hb dX4_takeString_69 ?_
            refine va_put (ci := 4) (v := .int ((u0.1 5) + 1)) (ty := tyX4 5) (C := RX4) (T := TX4) (N := 6) hx hb hts (fun w h => List.mem_cons_of_mem _ (inX4 w h)) tyX4 tyX4_ok nmX4 hown hK hP hD hS 0 rfl rfl 5 (by decide) hk_28 (fun _ h9 => h9) rfl (tyX4_ok 5 (by decide)) rfl rfl (Nat.le_of_ble_eq_true rfl) dX4_takeString_70 (fun H locs hP hD hS => ?_)
            have hP : va_P D vwCl ((w4 cy h0 h1 (sF u0 5 ((u0.1 5) + 1))) ++ (wB cy h1 b1)) H := hP
            have hD : va_D A ((w4 cy h0 h1 (sF u0 5 ((u0.1 5) + 1))) ++ (wB cy h1 b1)) := hD
            refine lv_goto (tgt := 10) hx hb dX4_takeString_73 (by decide) ?_
            exact ih_10 (sF u0 5 ((u0.1 5) + 1)) hf _ _ ls hP hD hS (lv_sub hl [0] rfl)
def f_X4_takeString (fu : Nat) (b1 : Nat → Int32) (s0 : St)  : Option (St) := f_X4_takeString_L10 fu b1 fu (sF s0 5 ((s0.1 5) + 1))
theorem hdX4_takeString : yX4_takeString.cls = RX4 ∧ yX4_takeString.cls ≠ "java/lang/invoke/MethodHandle" ∧ yX4_takeString.cls ≠ "java/lang/invoke/VarHandle" ∧ (parseMethodDescriptor yX4_takeString.desc).map (fun d => d.parameters.length) = some 0 := by decide +kernel
set_option maxHeartbeats 4000000 in
set_option maxRecDepth 100000 in
theorem c_X4_takeString (l : Launch) (D : va_G) (cy : Nat → ClassId) (h0 : Nat) (s0 : St) (h1 : Nat) (b1 : Nat → Int32) (sz fu : Nat)  (out : St) (hf : f_X4_takeString fu b1 s0 = some out) :
    Met l yX4_takeString (WS yX4_takeString cX4_takeString 2 none) ({ frames := 0, cells := 0, slots := 0, locals := 0 } : Room) (va_Pc [.ref h0] (gP D cy sz ((w4 cy h0 h1 s0) ++ (wB cy h1 b1)))) ((fun A : Nat → Prop => gQv D cy A ((w4 cy h0 h1 out) ++ (wB cy h1 b1))) (va_A ((w4 cy h0 h1 s0) ++ (wB cy h1 b1)) sz)) 0 0 (va_A ((w4 cy h0 h1 s0) ++ (wB cy h1 b1)) sz) := by
  refine g_met (cc := cX4_takeString) (maxL := 2) (ret := none) (fun A : Nat → Prop => gQv D cy A ((w4 cy h0 h1 out) ++ (wB cy h1 b1))) (by decide +kernel) rfl (Nat.le_of_ble_eq_true rfl) ?_
  intro p e s m below meth c A C hA hK hP hD ls hl
  obtain ⟨hx, hb, hr, hml, hown, hts, hlk⟩ := id C
  have hown : s.vm.findClass RX4 = some m.cls := hown
  have hS : va_S A s.heap s.heap [] := va_S.rf
  have hl : lv_has ls 2 [(0, .ref h0)] := hl
  have hk_28 := hts _ (List.mem_cons_of_mem _ fl_RX4_28)
  unfold f_X4_takeString at hf
  refine lv_aload_n hx hb dX4_takeString_0 rfl (lv_at hl 0 rfl) ?_
  refine lv_dup hx hb dX4_takeString_1 rfl ?_
  refine va_get (ci := 4) (v := .int (s0.1 5)) (C := RX4) (T := TX4) (N := 6) hx hb hts (fun w h => List.mem_cons_of_mem _ (inX4 w h)) hown hK hP 0 rfl rfl 5 (by decide) hk_28 (fun _ h9 => h9) rfl dX4_takeString_2 ?_
  refine lv_iconst (v := 1) hx hb dX4_takeString_5 (by decide) ?_
  refine lv_iadd hx hb dX4_takeString_6 ?_
  refine va_put (ci := 4) (v := .int ((s0.1 5) + 1)) (ty := tyX4 5) (C := RX4) (T := TX4) (N := 6) hx hb hts (fun w h => List.mem_cons_of_mem _ (inX4 w h)) tyX4 tyX4_ok nmX4 hown hK hP hD hS 0 rfl rfl 5 (by decide) hk_28 (fun _ h9 => h9) rfl (tyX4_ok 5 (by decide)) rfl rfl (Nat.le_of_ble_eq_true rfl) dX4_takeString_7 (fun H locs hP hD hS => ?_)
  have hP : va_P D vwCl ((w4 cy h0 h1 (sF s0 5 ((s0.1 5) + 1))) ++ (wB cy h1 b1)) H := hP
  have hD : va_D A ((w4 cy h0 h1 (sF s0 5 ((s0.1 5) + 1))) ++ (wB cy h1 b1)) := hD
  exact b_X4_takeString_L10 l D cy h0 h1 b1 fu out C hA hK fu (sF s0 5 ((s0.1 5) + 1)) hf _ _ ls hP hD hS (lv_sub hl [0] rfl)
def f_X4_takeSingle_L55  (fu : Nat)  (u0 : St) (t0 : Int32) : Option (St) := some (sF u0 1 t0)
set_option maxHeartbeats 4000000 in
set_option maxRecDepth 100000 in
theorem b_X4_takeSingle_L55 {p : Program} {e : Env} {s : State} {m : MethodId} {args : Array Value} {below : List Frame} {meth : Method} {c : Code} {A : Nat → Prop} (l : Launch) (D : va_G) (cy : Nat → ClassId) (h0 : Nat) (r0_0 : Nat) (fu : Nat) (out : St) (C : gC p s m args meth c (WS yX4_takeSingle cX4_takeSingle 2 none) cX4_takeSingle 2 none RX4) (hA : ∀ q : Nat, s.heap.size ≤ q → A q) (hK : va_K D vwCl (TY cy) s)  :
    ∀ (u0 : St) (t0 : Int32), f_X4_takeSingle_L55 fu u0 t0 = some out → ∀ (H : Heap) (locs : List Loc) (ls : Array Slot), va_P D vwCl (w4 cy h0 r0_0 u0) H → va_D A (w4 cy h0 r0_0 u0) → va_S A s.heap H locs → lv_has ls 2 [] → W p l e ({ frames := 0, cells := 0, slots := 0, locals := 0 } : Room) s m args below meth c H locs 0 0 (MQ below (gQv D cy A (w4 cy h0 r0_0 out)) args s 0 0 A) (F0 m 55 ls [.int t0, .ref h0]) := by
  obtain ⟨hx, hb, hr, hml, hown, hts, hlk⟩ := id C
  have hown : s.vm.findClass RX4 = some m.cls := hown
  have hk_37 := hts _ (List.mem_cons_of_mem _ fl_RX4_37)
  intro u0 t0 hf H locs ls hP hD hS hl
  unfold f_X4_takeSingle_L55 at hf
  refine va_put (ci := 4) (v := .int t0) (ty := tyX4 1) (C := RX4) (T := TX4) (N := 6) hx hb hts (fun w h => List.mem_cons_of_mem _ (inX4 w h)) tyX4 tyX4_ok nmX4 hown hK hP hD hS 0 rfl rfl 1 (by decide) hk_37 (fun _ h9 => h9) rfl (tyX4_ok 1 (by decide)) rfl rfl (Nat.le_of_ble_eq_true rfl) dX4_takeSingle_55 (fun H locs hP hD hS => ?_)
  have hP : va_P D vwCl (w4 cy h0 r0_0 (sF u0 1 t0)) H := pP4_1 hP
  have hD : va_D A (w4 cy h0 r0_0 (sF u0 1 t0)) := pD4_1 hD
  rw [← Option.some.inj hf]
  exact g_vret hx hb hr hlk hK hP hD hS dX4_takeSingle_58
def f_X4_takeSingle_L53  (fu : Nat)  (u0 : St) : Option (St) := f_X4_takeSingle_L55 fu u0 6
set_option maxHeartbeats 4000000 in
set_option maxRecDepth 100000 in
theorem b_X4_takeSingle_L53 {p : Program} {e : Env} {s : State} {m : MethodId} {args : Array Value} {below : List Frame} {meth : Method} {c : Code} {A : Nat → Prop} (l : Launch) (D : va_G) (cy : Nat → ClassId) (h0 : Nat) (r0_0 : Nat) (fu : Nat) (out : St) (C : gC p s m args meth c (WS yX4_takeSingle cX4_takeSingle 2 none) cX4_takeSingle 2 none RX4) (hA : ∀ q : Nat, s.heap.size ≤ q → A q) (hK : va_K D vwCl (TY cy) s)  :
    ∀ (u0 : St), f_X4_takeSingle_L53 fu u0 = some out → ∀ (H : Heap) (locs : List Loc) (ls : Array Slot), va_P D vwCl (w4 cy h0 r0_0 u0) H → va_D A (w4 cy h0 r0_0 u0) → va_S A s.heap H locs → lv_has ls 2 [] → W p l e ({ frames := 0, cells := 0, slots := 0, locals := 0 } : Room) s m args below meth c H locs 0 0 (MQ below (gQv D cy A (w4 cy h0 r0_0 out)) args s 0 0 A) (F0 m 53 ls [.ref h0]) := by
  obtain ⟨hx, hb, hr, hml, hown, hts, hlk⟩ := id C
  have hown : s.vm.findClass RX4 = some m.cls := hown
  intro u0 hf H locs ls hP hD hS hl
  unfold f_X4_takeSingle_L53 at hf
  refine lv_bipush (v := 6) hx hb dX4_takeSingle_53 (by decide) ?_
  exact b_X4_takeSingle_L55 l D cy h0 r0_0 fu out C hA hK u0 6 hf _ _ ls hP hD hS (lv_sub hl [] rfl)
def f_X4_takeSingle (fu : Nat)  (s0 : St) (p1 : Int32) : Option (St) := if p1 = 59 then (some (sF (sF (sF s0 5 ((s0.1 5) + 1)) 3 (p1 - 65)) 1 5)) else (if (p1 - 65) < 0 then (f_X4_takeSingle_L53 fu (sF (sF s0 5 ((s0.1 5) + 1)) 3 (p1 - 65))) else (if 8 ≤ (p1 - 65) then (f_X4_takeSingle_L53 fu (sF (sF s0 5 ((s0.1 5) + 1)) 3 (p1 - 65))) else (f_X4_takeSingle_L55 fu (sF (sF s0 5 ((s0.1 5) + 1)) 3 (p1 - 65)) 2)))
theorem hdX4_takeSingle : yX4_takeSingle.cls = RX4 ∧ yX4_takeSingle.cls ≠ "java/lang/invoke/MethodHandle" ∧ yX4_takeSingle.cls ≠ "java/lang/invoke/VarHandle" ∧ (parseMethodDescriptor yX4_takeSingle.desc).map (fun d => d.parameters.length) = some 1 := by decide +kernel
set_option maxHeartbeats 4000000 in
set_option maxRecDepth 100000 in
theorem c_X4_takeSingle (l : Launch) (D : va_G) (cy : Nat → ClassId) (h0 : Nat) (r0_0 : Nat) (s0 : St) (sz fu : Nat) (p1 : Int32) (out : St) (hf : f_X4_takeSingle fu s0 p1 = some out) :
    Met l yX4_takeSingle (WS yX4_takeSingle cX4_takeSingle 2 none) ({ frames := 0, cells := 0, slots := 0, locals := 0 } : Room) (va_Pc [.ref h0, .int p1] (gP D cy sz (w4 cy h0 r0_0 s0))) ((fun A : Nat → Prop => gQv D cy A (w4 cy h0 r0_0 out)) (va_A (w4 cy h0 r0_0 s0) sz)) 0 0 (va_A (w4 cy h0 r0_0 s0) sz) := by
  refine g_met (cc := cX4_takeSingle) (maxL := 2) (ret := none) (fun A : Nat → Prop => gQv D cy A (w4 cy h0 r0_0 out)) (by decide +kernel) rfl (Nat.le_of_ble_eq_true rfl) ?_
  intro p e s m below meth c A C hA hK hP hD ls hl
  obtain ⟨hx, hb, hr, hml, hown, hts, hlk⟩ := id C
  have hown : s.vm.findClass RX4 = some m.cls := hown
  have hS : va_S A s.heap s.heap [] := va_S.rf
  have hl : lv_has ls 2 [(0, .ref h0), (1, .int p1)] := hl
  have hk_28 := hts _ (List.mem_cons_of_mem _ fl_RX4_28)
  have hk_53 := hts _ (List.mem_cons_of_mem _ fl_RX4_53)
  have hk_37 := hts _ (List.mem_cons_of_mem _ fl_RX4_37)
  unfold f_X4_takeSingle at hf
  refine lv_aload_n hx hb dX4_takeSingle_0 rfl (lv_at hl 0 rfl) ?_
  refine lv_dup hx hb dX4_takeSingle_1 rfl ?_
  refine va_get (ci := 4) (v := .int (s0.1 5)) (C := RX4) (T := TX4) (N := 6) hx hb hts (fun w h => List.mem_cons_of_mem _ (inX4 w h)) hown hK hP 0 rfl rfl 5 (by decide) hk_28 (fun _ h9 => h9) rfl dX4_takeSingle_2 ?_
  refine lv_iconst (v := 1) hx hb dX4_takeSingle_5 (by decide) ?_
  refine lv_iadd hx hb dX4_takeSingle_6 ?_
  refine va_put (ci := 4) (v := .int ((s0.1 5) + 1)) (ty := tyX4 5) (C := RX4) (T := TX4) (N := 6) hx hb hts (fun w h => List.mem_cons_of_mem _ (inX4 w h)) tyX4 tyX4_ok nmX4 hown hK hP hD hS 0 rfl rfl 5 (by decide) hk_28 (fun _ h9 => h9) rfl (tyX4_ok 5 (by decide)) rfl rfl (Nat.le_of_ble_eq_true rfl) dX4_takeSingle_7 (fun H locs hP hD hS => ?_)
  have hP : va_P D vwCl (w4 cy h0 r0_0 (sF s0 5 ((s0.1 5) + 1))) H := pP4_5 hP
  have hD : va_D A (w4 cy h0 r0_0 (sF s0 5 ((s0.1 5) + 1))) := pD4_5 hD
  refine lv_aload_n hx hb dX4_takeSingle_10 rfl (lv_at hl 0 rfl) ?_
  refine lv_iload_n hx hb dX4_takeSingle_11 rfl (lv_at hl 1 rfl) ?_
  refine lv_bipush (v := 65) hx hb dX4_takeSingle_12 (by decide) ?_
  refine lv_isub hx hb dX4_takeSingle_14 ?_
  refine va_put (ci := 4) (v := .int (p1 - 65)) (ty := tyX4 3) (C := RX4) (T := TX4) (N := 6) hx hb hts (fun w h => List.mem_cons_of_mem _ (inX4 w h)) tyX4 tyX4_ok nmX4 hown hK hP hD hS 0 rfl rfl 3 (by decide) hk_53 (fun _ h9 => h9) rfl (tyX4_ok 3 (by decide)) rfl rfl (Nat.le_of_ble_eq_true rfl) dX4_takeSingle_15 (fun H locs hP hD hS => ?_)
  have hP : va_P D vwCl (w4 cy h0 r0_0 (sF (sF s0 5 ((s0.1 5) + 1)) 3 (p1 - 65))) H := pP4_3 hP
  have hD : va_D A (w4 cy h0 r0_0 (sF (sF s0 5 ((s0.1 5) + 1)) 3 (p1 - 65))) := pD4_3 hD
  refine lv_iload_n hx hb dX4_takeSingle_18 rfl (lv_at hl 1 rfl) ?_
  refine lv_bipush (v := 59) hx hb dX4_takeSingle_19 (by decide) ?_
  refine lv_icmp_ne (tgt := 32) hx hb dX4_takeSingle_21 (by decide) (fun c_21 => ?_) (fun c_21 => ?_)
  · have hf := op_neg c_21 hf
    refine lv_aload_n hx hb dX4_takeSingle_32 rfl (lv_at hl 0 rfl) ?_
    refine lv_aload_n hx hb dX4_takeSingle_33 rfl (lv_at hl 0 rfl) ?_
    refine va_get (ci := 4) (v := .int (p1 - 65)) (C := RX4) (T := TX4) (N := 6) hx hb hts (fun w h => List.mem_cons_of_mem _ (inX4 w h)) hown hK hP 0 rfl rfl 3 (by decide) hk_53 (fun _ h9 => h9) rfl dX4_takeSingle_34 ?_
    refine lv_if_lt (tgt := 53) hx hb dX4_takeSingle_37 (by decide) (fun c_37 => ?_) (fun c_37 => ?_)
    · have hf := op_pos c_37 hf
      exact b_X4_takeSingle_L53 l D cy h0 r0_0 fu out C hA hK (sF (sF s0 5 ((s0.1 5) + 1)) 3 (p1 - 65)) hf _ _ ls hP hD hS (lv_sub hl [] rfl)
    · have hf := op_neg c_37 hf
      refine lv_aload_n hx hb dX4_takeSingle_40 rfl (lv_at hl 0 rfl) ?_
      refine va_get (ci := 4) (v := .int (p1 - 65)) (C := RX4) (T := TX4) (N := 6) hx hb hts (fun w h => List.mem_cons_of_mem _ (inX4 w h)) hown hK hP 0 rfl rfl 3 (by decide) hk_53 (fun _ h9 => h9) rfl dX4_takeSingle_41 ?_
      refine lv_bipush (v := 8) hx hb dX4_takeSingle_44 (by decide) ?_
      refine lv_icmp_ge (tgt := 53) hx hb dX4_takeSingle_46 (by decide) (fun c_46 => ?_) (fun c_46 => ?_)
      · have hf := op_pos c_46 hf
        exact b_X4_takeSingle_L53 l D cy h0 r0_0 fu out C hA hK (sF (sF s0 5 ((s0.1 5) + 1)) 3 (p1 - 65)) hf _ _ ls hP hD hS (lv_sub hl [] rfl)
      · have hf := op_neg c_46 hf
        refine lv_iconst (v := 2) hx hb dX4_takeSingle_49 (by decide) ?_
        refine lv_goto (tgt := 55) hx hb dX4_takeSingle_50 (by decide) ?_
        exact b_X4_takeSingle_L55 l D cy h0 r0_0 fu out C hA hK (sF (sF s0 5 ((s0.1 5) + 1)) 3 (p1 - 65)) 2 hf _ _ ls hP hD hS (lv_sub hl [] rfl)
  · have hf := op_pos c_21 hf
    refine lv_aload_n hx hb dX4_takeSingle_24 rfl (lv_at hl 0 rfl) ?_
    refine lv_iconst (v := 5) hx hb dX4_takeSingle_25 (by decide) ?_
    refine va_put (ci := 4) (v := .int 5) (ty := tyX4 1) (C := RX4) (T := TX4) (N := 6) hx hb hts (fun w h => List.mem_cons_of_mem _ (inX4 w h)) tyX4 tyX4_ok nmX4 hown hK hP hD hS 0 rfl rfl 1 (by decide) hk_37 (fun _ h9 => h9) rfl (tyX4_ok 1 (by decide)) rfl rfl (Nat.le_of_ble_eq_true rfl) dX4_takeSingle_26 (fun H locs hP hD hS => ?_)
    have hP : va_P D vwCl (w4 cy h0 r0_0 (sF (sF (sF s0 5 ((s0.1 5) + 1)) 3 (p1 - 65)) 1 5)) H := pP4_1 hP
    have hD : va_D A (w4 cy h0 r0_0 (sF (sF (sF s0 5 ((s0.1 5) + 1)) 3 (p1 - 65)) 1 5)) := pD4_1 hD
    refine lv_goto (tgt := 58) hx hb dX4_takeSingle_29 (by decide) ?_
    rw [← Option.some.inj hf]
    exact g_vret hx hb hr hlk hK hP hD hS dX4_takeSingle_58
def f_X4_step_L47 (k_8 : St → Option (St)) (fu : Nat) (b1 : Nat → Int32) (u0 : St) : Option (St) := k_8 (sF u0 2 ((u0.1 2) + 1))
set_option maxHeartbeats 4000000 in
set_option maxRecDepth 100000 in
theorem b_X4_step_L47 {p : Program} {e : Env} {s : State} {m : MethodId} {args : Array Value} {below : List Frame} {meth : Method} {c : Code} {A : Nat → Prop} (l : Launch) (D : va_G) (cy : Nat → ClassId) (h0 : Nat) (h1 : Nat) (b1 : Nat → Int32) (fu : Nat) (out : St) (C : gC p s m args meth c (WS yX4_step cX4_step 2 none) cX4_step 2 none RX4) (hA : ∀ q : Nat, s.heap.size ≤ q → A q) (hK : va_K D vwCl (TY cy) s) (k_8 : St → Option (St)) (hk_8 : ∀ (u0 : St), k_8 u0 = some out → ∀ (H : Heap) (locs : List Loc) (ls : Array Slot), va_P D vwCl ((w4 cy h0 h1 u0) ++ (wB cy h1 b1)) H → va_D A ((w4 cy h0 h1 u0) ++ (wB cy h1 b1)) → va_S A s.heap H locs → lv_has ls 2 [(0, .ref h0)] → W p l e ({ frames := 2, cells := 0, slots := 0, locals := 41 } : Room) s m args below meth c H locs 0 0 (MQ below (gQv D cy A ((w4 cy h0 h1 out) ++ (wB cy h1 b1))) args s 0 0 A) (F0 m 8 ls [])) :
    ∀ (u0 : St), f_X4_step_L47 k_8 fu b1 u0 = some out → ∀ (H : Heap) (locs : List Loc) (ls : Array Slot), va_P D vwCl ((w4 cy h0 h1 u0) ++ (wB cy h1 b1)) H → va_D A ((w4 cy h0 h1 u0) ++ (wB cy h1 b1)) → va_S A s.heap H locs → lv_has ls 2 [(0, .ref h0)] → W p l e ({ frames := 2, cells := 0, slots := 0, locals := 41 } : Room) s m args below meth c H locs 0 0 (MQ below (gQv D cy A ((w4 cy h0 h1 out) ++ (wB cy h1 b1))) args s 0 0 A) (F0 m 47 ls []) := by
  obtain ⟨hx, hb, hr, hml, hown, hts, hlk⟩ := id C
  have hown : s.vm.findClass RX4 = some m.cls := hown
  have hk_34 := hts _ (List.mem_cons_of_mem _ fl_RX4_34)
  intro u0 hf H locs ls hP hD hS hl
  unfold f_X4_step_L47 at hf
  refine lv_aload_n hx hb dX4_step_47 rfl (lv_at hl 0 rfl) ?_
  refine lv_dup hx hb dX4_step_48 rfl ?_
  refine va_get (ci := 4) (v := .int (u0.1 2)) (C := RX4) (T := TX4) (N := 6) hx hb hts (fun w h => List.mem_cons_of_mem _ (inX4 w h)) hown hK hP 0 rfl rfl 2 (by decide) hk_34 (fun _ h9 => h9) rfl dX4_step_49 ?_
  refine lv_iconst (v := 1) hx hb dX4_step_52 (by decide) ?_
  refine lv_iadd hx hb dX4_step_53 ?_
  refine va_put (ci := 4) (v := .int ((u0.1 2) + 1)) (ty := tyX4 2) (C := RX4) (T := TX4) (N := 6) hx hb hts (fun w h => List.mem_cons_of_mem _ (inX4 w h)) tyX4 tyX4_ok nmX4 hown hK hP hD hS 0 rfl rfl 2 (by decide) hk_34 (fun _ h9 => h9) rfl (tyX4_ok 2 (by decide)) rfl rfl (Nat.le_of_ble_eq_true rfl) dX4_step_54 (fun H locs hP hD hS => ?_)
  have hP : va_P D vwCl ((w4 cy h0 h1 (sF u0 2 ((u0.1 2) + 1))) ++ (wB cy h1 b1)) H := hP
  have hD : va_D A ((w4 cy h0 h1 (sF u0 2 ((u0.1 2) + 1))) ++ (wB cy h1 b1)) := hD
  refine lv_goto (tgt := 8) hx hb dX4_step_57 (by decide) ?_
  exact hk_8 (sF u0 2 ((u0.1 2) + 1)) hf _ _ ls hP hD hS (lv_sub hl [0] rfl)
def f_X4_step_L133  (fu : Nat) (b1 : Nat → Int32) (u0 : St) (x1 : Int32) : Option (St) := if x1 = 34 then ((f_X4_takeString fu b1 u0).bind (fun q_140 => some q_140)) else ((f_X4_takeSingle fu u0 x1).bind (fun q_148 => some q_148))
set_option maxHeartbeats 4000000 in
set_option maxRecDepth 100000 in
theorem b_X4_step_L133 {p : Program} {e : Env} {s : State} {m : MethodId} {args : Array Value} {below : List Frame} {meth : Method} {c : Code} {A : Nat → Prop} (l : Launch) (D : va_G) (cy : Nat → ClassId) (h0 : Nat) (h1 : Nat) (b1 : Nat → Int32) (fu : Nat) (out : St) (C : gC p s m args meth c (WS yX4_step cX4_step 2 none) cX4_step 2 none RX4) (hA : ∀ q : Nat, s.heap.size ≤ q → A q) (hK : va_K D vwCl (TY cy) s)  :
    ∀ (u0 : St) (x1 : Int32), f_X4_step_L133 fu b1 u0 x1 = some out → ∀ (H : Heap) (locs : List Loc) (ls : Array Slot), va_P D vwCl ((w4 cy h0 h1 u0) ++ (wB cy h1 b1)) H → va_D A ((w4 cy h0 h1 u0) ++ (wB cy h1 b1)) → va_S A s.heap H locs → lv_has ls 2 [(0, .ref h0), (1, .int x1)] → W p l e ({ frames := 2, cells := 0, slots := 0, locals := 41 } : Room) s m args below meth c H locs 0 0 (MQ below (gQv D cy A ((w4 cy h0 h1 out) ++ (wB cy h1 b1))) args s 0 0 A) (F0 m 133 ls []) := by
  obtain ⟨hx, hb, hr, hml, hown, hts, hlk⟩ := id C
  have hown : s.vm.findClass RX4 = some m.cls := hown
  intro u0 x1 hf H locs ls hP hD hS hl
  unfold f_X4_step_L133 at hf
  refine lv_iload_n hx hb dX4_step_133 rfl (lv_at hl 1 rfl) ?_
  refine lv_bipush (v := 34) hx hb dX4_step_134 (by decide) ?_
  refine lv_icmp_ne (tgt := 146) hx hb dX4_step_136 (by decide) (fun c_136 => ?_) (fun c_136 => ?_)
  · have hf := op_neg c_136 hf
    refine lv_aload_n hx hb dX4_step_146 rfl (lv_at hl 0 rfl) ?_
    refine lv_iload_n hx hb dX4_step_147 rfl (lv_at hl 1 rfl) ?_
    obtain ⟨q_148, hc_148, hf⟩ := op_bind hf
    refine g_callVv (As := [.int x1]) (rest := []) (w2 := (w4 cy h0 h1 q_148) ++ (wB cy h1 b1)) ⟨hx, hb, hml, hown, hts⟩ (c_X4_takeSingle l D cy h0 h1 u0 _ fu x1 _ hc_148) (cwV 1 hts (gi_V ml_RX4_49 im_X4_takeSingle se_X4_takeSingle in_RX4 cd_X4_takeSingle) rfl rfl rfl hdX4_takeSingle ⟨Nat.le_of_ble_eq_true rfl, Nat.le_of_ble_eq_true rfl⟩) (va_recv hK hP (ci := 4) (q0 := 0) rfl rfl) rfl hl.1 rfl (Nat.le_of_ble_eq_true rfl) dX4_step_148 hK hP hD hS hA [0] [1] [1, 0] rfl rfl rfl rfl (by decide) rfl rfl (fun H locs hP hD hS => ?_)
    rw [← Option.some.inj hf]
    exact g_vret hx hb hr hlk hK hP hD hS dX4_step_151
  · have hf := op_pos c_136 hf
    refine lv_aload_n hx hb dX4_step_139 rfl (lv_at hl 0 rfl) ?_
    obtain ⟨q_140, hc_140, hf⟩ := op_bind hf
    refine g_callVv (As := []) (rest := []) (w2 := (w4 cy h0 h1 q_140) ++ (wB cy h1 b1)) ⟨hx, hb, hml, hown, hts⟩ (c_X4_takeString l D cy h0 u0 h1 b1 _ fu _ hc_140) (cwV 0 hts (gi_V ml_RX4_46 im_X4_takeString se_X4_takeString in_RX4 cd_X4_takeString) rfl rfl rfl hdX4_takeString ⟨Nat.le_of_ble_eq_true rfl, Nat.le_of_ble_eq_true rfl⟩) (va_recv hK hP (ci := 4) (q0 := 0) rfl rfl) rfl hl.1 rfl (Nat.le_of_ble_eq_true rfl) dX4_step_140 hK hP hD hS hA [0, 1] [] [0, 1] rfl rfl rfl rfl (by decide) rfl rfl (fun H locs hP hD hS => ?_)
    refine lv_goto (tgt := 151) hx hb dX4_step_143 (by decide) ?_
    rw [← Option.some.inj hf]
    exact g_vret hx hb hr hlk hK hP hD hS dX4_step_151
def f_X4_step_L114  (fu : Nat) (b1 : Nat → Int32) (u0 : St) (x1 : Int32) : Option (St) := if x1 < 48 then (f_X4_step_L133 fu b1 u0 x1) else (if 57 < x1 then (f_X4_step_L133 fu b1 u0 x1) else ((f_X4_takeNumber fu b1 u0).bind (fun q_127 => some q_127)))
set_option maxHeartbeats 4000000 in
set_option maxRecDepth 100000 in
theorem b_X4_step_L114 {p : Program} {e : Env} {s : State} {m : MethodId} {args : Array Value} {below : List Frame} {meth : Method} {c : Code} {A : Nat → Prop} (l : Launch) (D : va_G) (cy : Nat → ClassId) (h0 : Nat) (h1 : Nat) (b1 : Nat → Int32) (fu : Nat) (out : St) (C : gC p s m args meth c (WS yX4_step cX4_step 2 none) cX4_step 2 none RX4) (hA : ∀ q : Nat, s.heap.size ≤ q → A q) (hK : va_K D vwCl (TY cy) s)  :
    ∀ (u0 : St) (x1 : Int32), f_X4_step_L114 fu b1 u0 x1 = some out → ∀ (H : Heap) (locs : List Loc) (ls : Array Slot), va_P D vwCl ((w4 cy h0 h1 u0) ++ (wB cy h1 b1)) H → va_D A ((w4 cy h0 h1 u0) ++ (wB cy h1 b1)) → va_S A s.heap H locs → lv_has ls 2 [(0, .ref h0), (1, .int x1)] → W p l e ({ frames := 2, cells := 0, slots := 0, locals := 41 } : Room) s m args below meth c H locs 0 0 (MQ below (gQv D cy A ((w4 cy h0 h1 out) ++ (wB cy h1 b1))) args s 0 0 A) (F0 m 114 ls []) := by
  obtain ⟨hx, hb, hr, hml, hown, hts, hlk⟩ := id C
  have hown : s.vm.findClass RX4 = some m.cls := hown
  intro u0 x1 hf H locs ls hP hD hS hl
  unfold f_X4_step_L114 at hf
  refine lv_iload_n hx hb dX4_step_114 rfl (lv_at hl 1 rfl) ?_
  refine lv_bipush (v := 48) hx hb dX4_step_115 (by decide) ?_
  refine lv_icmp_lt (tgt := 133) hx hb dX4_step_117 (by decide) (fun c_117 => ?_) (fun c_117 => ?_)
  · have hf := op_pos c_117 hf
    exact b_X4_step_L133 l D cy h0 h1 b1 fu out C hA hK u0 x1 hf _ _ ls hP hD hS (lv_sub hl [0, 1] rfl)
  · have hf := op_neg c_117 hf
    refine lv_iload_n hx hb dX4_step_120 rfl (lv_at hl 1 rfl) ?_
    refine lv_bipush (v := 57) hx hb dX4_step_121 (by decide) ?_
    refine lv_icmp_gt (tgt := 133) hx hb dX4_step_123 (by decide) (fun c_123 => ?_) (fun c_123 => ?_)
    · have hf := op_pos c_123 hf
      exact b_X4_step_L133 l D cy h0 h1 b1 fu out C hA hK u0 x1 hf _ _ ls hP hD hS (lv_sub hl [0, 1] rfl)
    · have hf := op_neg c_123 hf
      refine lv_aload_n hx hb dX4_step_126 rfl (lv_at hl 0 rfl) ?_
      obtain ⟨q_127, hc_127, hf⟩ := op_bind hf
      refine g_callVv (As := []) (rest := []) (w2 := (w4 cy h0 h1 q_127) ++ (wB cy h1 b1)) ⟨hx, hb, hml, hown, hts⟩ (c_X4_takeNumber l D cy h0 u0 h1 b1 _ fu _ hc_127) (cwV 0 hts (gi_V ml_RX4_43 im_X4_takeNumber se_X4_takeNumber in_RX4 cd_X4_takeNumber) rfl rfl rfl hdX4_takeNumber ⟨Nat.le_of_ble_eq_true rfl, Nat.le_of_ble_eq_true rfl⟩) (va_recv hK hP (ci := 4) (q0 := 0) rfl rfl) rfl hl.1 rfl (Nat.le_of_ble_eq_true rfl) dX4_step_127 hK hP hD hS hA [0, 1] [] [0, 1] rfl rfl rfl rfl (by decide) rfl rfl (fun H locs hP hD hS => ?_)
      refine lv_goto (tgt := 151) hx hb dX4_step_130 (by decide) ?_
      rw [← Option.some.inj hf]
      exact g_vret hx hb hr hlk hK hP hD hS dX4_step_151
def f_X4_step_L60  (fu : Nat) (b1 : Nat → Int32) (u0 : St) : Option (St) := if (u0.1 2) < (u0.1 4) then (if inb (u0.1 2) 1500 = true then (if (b1 (u0.1 2).toNatClampNeg) < 97 then (f_X4_step_L114 fu b1 (sF u0 5 (u0.1 2)) (b1 (u0.1 2).toNatClampNeg)) else (if 122 < (b1 (u0.1 2).toNatClampNeg) then (f_X4_step_L114 fu b1 (sF u0 5 (u0.1 2)) (b1 (u0.1 2).toNatClampNeg)) else ((f_X4_takeWord fu b1 (sF u0 5 (u0.1 2))).bind (fun q_108 => some q_108)))) else none) else (some (sF (sF u0 5 (u0.1 2)) 1 0))
set_option maxHeartbeats 4000000 in
set_option maxRecDepth 100000 in
theorem b_X4_step_L60 {p : Program} {e : Env} {s : State} {m : MethodId} {args : Array Value} {below : List Frame} {meth : Method} {c : Code} {A : Nat → Prop} (l : Launch) (D : va_G) (cy : Nat → ClassId) (h0 : Nat) (h1 : Nat) (b1 : Nat → Int32) (fu : Nat) (out : St) (C : gC p s m args meth c (WS yX4_step cX4_step 2 none) cX4_step 2 none RX4) (hA : ∀ q : Nat, s.heap.size ≤ q → A q) (hK : va_K D vwCl (TY cy) s)  :
    ∀ (u0 : St), f_X4_step_L60 fu b1 u0 = some out → ∀ (H : Heap) (locs : List Loc) (ls : Array Slot), va_P D vwCl ((w4 cy h0 h1 u0) ++ (wB cy h1 b1)) H → va_D A ((w4 cy h0 h1 u0) ++ (wB cy h1 b1)) → va_S A s.heap H locs → lv_has ls 2 [(0, .ref h0)] → W p l e ({ frames := 2, cells := 0, slots := 0, locals := 41 } : Room) s m args below meth c H locs 0 0 (MQ below (gQv D cy A ((w4 cy h0 h1 out) ++ (wB cy h1 b1))) args s 0 0 A) (F0 m 60 ls []) := by
  obtain ⟨hx, hb, hr, hml, hown, hts, hlk⟩ := id C
  have hown : s.vm.findClass RX4 = some m.cls := hown
  have hk_34 := hts _ (List.mem_cons_of_mem _ fl_RX4_34)
  have hk_28 := hts _ (List.mem_cons_of_mem _ fl_RX4_28)
  have hk_24 := hts _ (List.mem_cons_of_mem _ fl_RX4_24)
  have hk_9 := hts _ (List.mem_cons_of_mem _ fl_RX4_9)
  have hk_37 := hts _ (List.mem_cons_of_mem _ fl_RX4_37)
  intro u0 hf H locs ls hP hD hS hl
  unfold f_X4_step_L60 at hf
  refine lv_aload_n hx hb dX4_step_60 rfl (lv_at hl 0 rfl) ?_
  refine lv_aload_n hx hb dX4_step_61 rfl (lv_at hl 0 rfl) ?_
  refine va_get (ci := 4) (v := .int (u0.1 2)) (C := RX4) (T := TX4) (N := 6) hx hb hts (fun w h => List.mem_cons_of_mem _ (inX4 w h)) hown hK hP 0 rfl rfl 2 (by decide) hk_34 (fun _ h9 => h9) rfl dX4_step_62 ?_
  refine va_put (ci := 4) (v := .int (u0.1 2)) (ty := tyX4 5) (C := RX4) (T := TX4) (N := 6) hx hb hts (fun w h => List.mem_cons_of_mem _ (inX4 w h)) tyX4 tyX4_ok nmX4 hown hK hP hD hS 0 rfl rfl 5 (by decide) hk_28 (fun _ h9 => h9) rfl (tyX4_ok 5 (by decide)) rfl rfl (Nat.le_of_ble_eq_true rfl) dX4_step_65 (fun H locs hP hD hS => ?_)
  have hP : va_P D vwCl ((w4 cy h0 h1 (sF u0 5 (u0.1 2))) ++ (wB cy h1 b1)) H := hP
  have hD : va_D A ((w4 cy h0 h1 (sF u0 5 (u0.1 2))) ++ (wB cy h1 b1)) := hD
  refine lv_aload_n hx hb dX4_step_68 rfl (lv_at hl 0 rfl) ?_
  refine va_get (ci := 4) (v := .int (u0.1 2)) (C := RX4) (T := TX4) (N := 6) hx hb hts (fun w h => List.mem_cons_of_mem _ (inX4 w h)) hown hK hP 0 rfl rfl 2 (by decide) hk_34 (fun _ h9 => h9) rfl dX4_step_69 ?_
  refine lv_aload_n hx hb dX4_step_72 rfl (lv_at hl 0 rfl) ?_
  refine va_get (ci := 4) (v := .int (u0.1 4)) (C := RX4) (T := TX4) (N := 6) hx hb hts (fun w h => List.mem_cons_of_mem _ (inX4 w h)) hown hK hP 0 rfl rfl 4 (by decide) hk_24 (fun _ h9 => h9) rfl dX4_step_73 ?_
  refine lv_icmp_lt (tgt := 85) hx hb dX4_step_76 (by decide) (fun c_76 => ?_) (fun c_76 => ?_)
  · have hf := op_pos c_76 hf
    refine lv_aload_n hx hb dX4_step_85 rfl (lv_at hl 0 rfl) ?_
    refine va_get (ci := 4) (v := .ref h1) (C := RX4) (T := TX4) (N := 6) hx hb hts (fun w h => List.mem_cons_of_mem _ (inX4 w h)) hown hK hP 0 rfl rfl 0 (by decide) hk_9 (fun _ h9 => h9) rfl dX4_step_86 ?_
    refine lv_aload_n hx hb dX4_step_89 rfl (lv_at hl 0 rfl) ?_
    refine va_get (ci := 4) (v := .int (u0.1 2)) (C := RX4) (T := TX4) (N := 6) hx hb hts (fun w h => List.mem_cons_of_mem _ (inX4 w h)) hown hK hP 0 rfl rfl 2 (by decide) hk_34 (fun _ h9 => h9) rfl dX4_step_90 ?_
    obtain ⟨hg_93, hf⟩ := op_if hf
    refine va_bald (f := b1) hx hb hK hP 1 1 rfl rfl (inb_in hg_93) dX4_step_93 ?_
    refine lv_istore_n (lv' := [(1, .int (b1 (u0.1 2).toNatClampNeg)), (0, .ref h0)]) hx hb dX4_step_94 rfl hl (by decide) rfl (fun ls hl => ?_)
    refine lv_iload_n hx hb dX4_step_95 rfl (lv_at hl 0 rfl) ?_
    refine lv_bipush (v := 97) hx hb dX4_step_96 (by decide) ?_
    refine lv_icmp_lt (tgt := 114) hx hb dX4_step_98 (by decide) (fun c_98 => ?_) (fun c_98 => ?_)
    · have hf := op_pos c_98 hf
      exact b_X4_step_L114 l D cy h0 h1 b1 fu out C hA hK (sF u0 5 (u0.1 2)) (b1 (u0.1 2).toNatClampNeg) hf _ _ ls hP hD hS (lv_sub hl [1, 0] rfl)
    · have hf := op_neg c_98 hf
      refine lv_iload_n hx hb dX4_step_101 rfl (lv_at hl 0 rfl) ?_
      refine lv_bipush (v := 122) hx hb dX4_step_102 (by decide) ?_
      refine lv_icmp_gt (tgt := 114) hx hb dX4_step_104 (by decide) (fun c_104 => ?_) (fun c_104 => ?_)
      · have hf := op_pos c_104 hf
        exact b_X4_step_L114 l D cy h0 h1 b1 fu out C hA hK (sF u0 5 (u0.1 2)) (b1 (u0.1 2).toNatClampNeg) hf _ _ ls hP hD hS (lv_sub hl [1, 0] rfl)
      · have hf := op_neg c_104 hf
        refine lv_aload_n hx hb dX4_step_107 rfl (lv_at hl 1 rfl) ?_
        obtain ⟨q_108, hc_108, hf⟩ := op_bind hf
        refine g_callVv (As := []) (rest := []) (w2 := (w4 cy h0 h1 q_108) ++ (wB cy h1 b1)) ⟨hx, hb, hml, hown, hts⟩ (c_X4_takeWord l D cy h0 (sF u0 5 (u0.1 2)) h1 b1 _ fu _ hc_108) (cwV 0 hts (gi_V ml_RX4_40 im_X4_takeWord se_X4_takeWord in_RX4 cd_X4_takeWord) rfl rfl rfl hdX4_takeWord ⟨Nat.le_of_ble_eq_true rfl, Nat.le_of_ble_eq_true rfl⟩) (va_recv hK hP (ci := 4) (q0 := 0) rfl rfl) rfl hl.1 rfl (Nat.le_of_ble_eq_true rfl) dX4_step_108 hK hP hD hS hA [0, 1] [] [0, 1] rfl rfl rfl rfl (by decide) rfl rfl (fun H locs hP hD hS => ?_)
        refine lv_goto (tgt := 151) hx hb dX4_step_111 (by decide) ?_
        rw [← Option.some.inj hf]
        exact g_vret hx hb hr hlk hK hP hD hS dX4_step_151
  · have hf := op_neg c_76 hf
    refine lv_aload_n hx hb dX4_step_79 rfl (lv_at hl 0 rfl) ?_
    refine lv_iconst (v := 0) hx hb dX4_step_80 (by decide) ?_
    refine va_put (ci := 4) (v := .int 0) (ty := tyX4 1) (C := RX4) (T := TX4) (N := 6) hx hb hts (fun w h => List.mem_cons_of_mem _ (inX4 w h)) tyX4 tyX4_ok nmX4 hown hK hP hD hS 0 rfl rfl 1 (by decide) hk_37 (fun _ h9 => h9) rfl (tyX4_ok 1 (by decide)) rfl rfl (Nat.le_of_ble_eq_true rfl) dX4_step_81 (fun H locs hP hD hS => ?_)
    have hP : va_P D vwCl ((w4 cy h0 h1 (sF (sF u0 5 (u0.1 2)) 1 0)) ++ (wB cy h1 b1)) H := hP
    have hD : va_D A ((w4 cy h0 h1 (sF (sF u0 5 (u0.1 2)) 1 0)) ++ (wB cy h1 b1)) := hD
    rw [← Option.some.inj hf]
    exact g_vret hx hb hr hlk hK hP hD hS dX4_step_84
def f_X4_step_L8  (fu : Nat) (b1 : Nat → Int32) : Nat → St → Option (St)
  | 0, _ => none
  | n_8 + 1, u0 => if (u0.1 4) ≤ (u0.1 2) then (f_X4_step_L60 fu b1 u0) else (if inb (u0.1 2) 1500 = true then (if (b1 (u0.1 2).toNatClampNeg) = 32 then (f_X4_step_L47 (f_X4_step_L8 fu b1 n_8) fu b1 u0) else (if inb (u0.1 2) 1500 = true then (if (b1 (u0.1 2).toNatClampNeg) = 10 then (f_X4_step_L47 (f_X4_step_L8 fu b1 n_8) fu b1 u0) else (f_X4_step_L60 fu b1 u0)) else none)) else none)
set_option maxHeartbeats 4000000 in
set_option maxRecDepth 100000 in
theorem b_X4_step_L8 {p : Program} {e : Env} {s : State} {m : MethodId} {args : Array Value} {below : List Frame} {meth : Method} {c : Code} {A : Nat → Prop} (l : Launch) (D : va_G) (cy : Nat → ClassId) (h0 : Nat) (h1 : Nat) (b1 : Nat → Int32) (fu : Nat) (out : St) (C : gC p s m args meth c (WS yX4_step cX4_step 2 none) cX4_step 2 none RX4) (hA : ∀ q : Nat, s.heap.size ≤ q → A q) (hK : va_K D vwCl (TY cy) s)  :
    ∀ (n_8 : Nat), ∀ (u0 : St), f_X4_step_L8 fu b1 n_8 u0 = some out → ∀ (H : Heap) (locs : List Loc) (ls : Array Slot), va_P D vwCl ((w4 cy h0 h1 u0) ++ (wB cy h1 b1)) H → va_D A ((w4 cy h0 h1 u0) ++ (wB cy h1 b1)) → va_S A s.heap H locs → lv_has ls 2 [(0, .ref h0)] → W p l e ({ frames := 2, cells := 0, slots := 0, locals := 41 } : Room) s m args below meth c H locs 0 0 (MQ below (gQv D cy A ((w4 cy h0 h1 out) ++ (wB cy h1 b1))) args s 0 0 A) (F0 m 8 ls []) := by
  obtain ⟨hx, hb, hr, hml, hown, hts, hlk⟩ := id C
  have hown : s.vm.findClass RX4 = some m.cls := hown
  have hk_34 := hts _ (List.mem_cons_of_mem _ fl_RX4_34)
  have hk_24 := hts _ (List.mem_cons_of_mem _ fl_RX4_24)
  have hk_9 := hts _ (List.mem_cons_of_mem _ fl_RX4_9)
  intro n_8
  induction n_8 with
  | zero => intro u0 hf; exact op_no hf
  | succ n_8 ih_8 =>
    intro u0 hf H locs ls hP hD hS hl
    rw [f_X4_step_L8] at hf
    refine lv_aload_n hx hb dX4_step_8 rfl (lv_at hl 0 rfl) ?_
    refine va_get (ci := 4) (v := .int (u0.1 2)) (C := RX4) (T := TX4) (N := 6) hx hb hts (fun w h => List.mem_cons_of_mem _ (inX4 w h)) hown hK hP 0 rfl rfl 2 (by decide) hk_34 (fun _ h9 => h9) rfl dX4_step_9 ?_
    refine lv_aload_n hx hb dX4_step_12 rfl (lv_at hl 0 rfl) ?_
    refine va_get (ci := 4) (v := .int (u0.1 4)) (C := RX4) (T := TX4) (N := 6) hx hb hts (fun w h => List.mem_cons_of_mem _ (inX4 w h)) hown hK hP 0 rfl rfl 4 (by decide) hk_24 (fun _ h9 => h9) rfl dX4_step_13 ?_
    refine lv_icmp_ge (tgt := 60) hx hb dX4_step_16 (by decide) (fun c_16 => ?_) (fun c_16 => ?_)
    · have hf := op_pos c_16 hf
      exact b_X4_step_L60 l D cy h0 h1 b1 fu out C hA hK u0 hf _ _ ls hP hD hS (lv_sub hl [0] rfl)
    · have hf := op_neg c_16 hf
      refine lv_aload_n hx hb dX4_step_19 rfl (lv_at hl 0 rfl) ?_
      refine va_get (ci := 4) (v := .ref h1) (C := RX4) (T := TX4) (N := 6) hx hb hts (fun w h => List.mem_cons_of_mem _ (inX4 w h)) hown hK hP 0 rfl rfl 0 (by decide) hk_9 (fun _ h9 => h9) rfl dX4_step_20 ?_
      refine lv_aload_n hx hb dX4_step_23 rfl (lv_at hl 0 rfl) ?_
      refine va_get (ci := 4) (v := .int (u0.1 2)) (C := RX4) (T := TX4) (N := 6) hx hb hts (fun w h => List.mem_cons_of_mem _ (inX4 w h)) hown hK hP 0 rfl rfl 2 (by decide) hk_34 (fun _ h9 => h9) rfl dX4_step_24 ?_
      obtain ⟨hg_27, hf⟩ := op_if hf
      refine va_bald (f := b1) hx hb hK hP 1 1 rfl rfl (inb_in hg_27) dX4_step_27 ?_
      refine lv_bipush (v := 32) hx hb dX4_step_28 (by decide) ?_
      refine lv_icmp_eq (tgt := 47) hx hb dX4_step_30 (by decide) (fun c_30 => ?_) (fun c_30 => ?_)
      · have hf := op_pos c_30 hf
        exact b_X4_step_L47 l D cy h0 h1 b1 fu out C hA hK (f_X4_step_L8 fu b1 n_8) ih_8 u0 hf _ _ ls hP hD hS (lv_sub hl [0] rfl)
      · have hf := op_neg c_30 hf
        refine lv_aload_n hx hb dX4_step_33 rfl (lv_at hl 0 rfl) ?_
        refine va_get (ci := 4) (v := .ref h1) (C := RX4) (T := TX4) (N := 6) hx hb hts (fun w h => List.mem_cons_of_mem _ (inX4 w h)) hown hK hP 0 rfl rfl 0 (by decide) hk_9 (fun _ h9 => h9) rfl dX4_step_34 ?_
        refine lv_aload_n hx hb dX4_step_37 rfl (lv_at hl 0 rfl) ?_
        refine va_get (ci := 4) (v := .int (u0.1 2)) (C := RX4) (T := TX4) (N := 6) hx hb hts (fun w h => List.mem_cons_of_mem _ (inX4 w h)) hown hK hP 0 rfl rfl 2 (by decide) hk_34 (fun _ h9 => h9) rfl dX4_step_38 ?_
        obtain ⟨hg_41, hf⟩ := op_if hf
        refine va_bald (f := b1) hx hb hK hP 1 1 rfl rfl (inb_in hg_41) dX4_step_41 ?_
        refine lv_bipush (v := 10) hx hb dX4_step_42 (by decide) ?_
        refine lv_icmp_ne (tgt := 60) hx hb dX4_step_44 (by decide) (fun c_44 => ?_) (fun c_44 => ?_)
        · have hf := op_neg c_44 hf
          exact b_X4_step_L60 l D cy h0 h1 b1 fu out C hA hK u0 hf _ _ ls hP hD hS (lv_sub hl [0] rfl)
        · have hf := op_pos c_44 hf
          exact b_X4_step_L47 l D cy h0 h1 b1 fu out C hA hK (f_X4_step_L8 fu b1 n_8) ih_8 u0 hf _ _ ls hP hD hS (lv_sub hl [0] rfl)
def f_X4_step (fu : Nat) (b1 : Nat → Int32) (s0 : St)  : Option (St) := f_X4_step_L8 fu b1 fu (sF s0 2 (s0.1 5))
theorem hdX4_step : yX4_step.cls = RX4 ∧ yX4_step.cls ≠ "java/lang/invoke/MethodHandle" ∧ yX4_step.cls ≠ "java/lang/invoke/VarHandle" ∧ (parseMethodDescriptor yX4_step.desc).map (fun d => d.parameters.length) = some 0 := by decide +kernel
set_option maxHeartbeats 4000000 in
set_option maxRecDepth 100000 in
theorem c_X4_step (l : Launch) (D : va_G) (cy : Nat → ClassId) (h0 : Nat) (s0 : St) (h1 : Nat) (b1 : Nat → Int32) (sz fu : Nat)  (out : St) (hf : f_X4_step fu b1 s0 = some out) :
    Met l yX4_step (WS yX4_step cX4_step 2 none) ({ frames := 2, cells := 0, slots := 0, locals := 41 } : Room) (va_Pc [.ref h0] (gP D cy sz ((w4 cy h0 h1 s0) ++ (wB cy h1 b1)))) ((fun A : Nat → Prop => gQv D cy A ((w4 cy h0 h1 out) ++ (wB cy h1 b1))) (va_A ((w4 cy h0 h1 s0) ++ (wB cy h1 b1)) sz)) 0 0 (va_A ((w4 cy h0 h1 s0) ++ (wB cy h1 b1)) sz) := by
  refine g_met (cc := cX4_step) (maxL := 2) (ret := none) (fun A : Nat → Prop => gQv D cy A ((w4 cy h0 h1 out) ++ (wB cy h1 b1))) (by decide +kernel) rfl (Nat.le_of_ble_eq_true rfl) ?_
  intro p e s m below meth c A C hA hK hP hD ls hl
  obtain ⟨hx, hb, hr, hml, hown, hts, hlk⟩ := id C
  have hown : s.vm.findClass RX4 = some m.cls := hown
  have hS : va_S A s.heap s.heap [] := va_S.rf
  have hl : lv_has ls 2 [(0, .ref h0)] := hl
  have hk_28 := hts _ (List.mem_cons_of_mem _ fl_RX4_28)
  have hk_34 := hts _ (List.mem_cons_of_mem _ fl_RX4_34)
  unfold f_X4_step at hf
  refine lv_aload_n hx hb dX4_step_0 rfl (lv_at hl 0 rfl) ?_
  refine lv_aload_n hx hb dX4_step_1 rfl (lv_at hl 0 rfl) ?_
  refine va_get (ci := 4) (v := .int (s0.1 5)) (C := RX4) (T := TX4) (N := 6) hx hb hts (fun w h => List.mem_cons_of_mem _ (inX4 w h)) hown hK hP 0 rfl rfl 5 (by decide) hk_28 (fun _ h9 => h9) rfl dX4_step_2 ?_
  refine va_put (ci := 4) (v := .int (s0.1 5)) (ty := tyX4 2) (C := RX4) (T := TX4) (N := 6) hx hb hts (fun w h => List.mem_cons_of_mem _ (inX4 w h)) tyX4 tyX4_ok nmX4 hown hK hP hD hS 0 rfl rfl 2 (by decide) hk_34 (fun _ h9 => h9) rfl (tyX4_ok 2 (by decide)) rfl rfl (Nat.le_of_ble_eq_true rfl) dX4_step_5 (fun H locs hP hD hS => ?_)
  have hP : va_P D vwCl ((w4 cy h0 h1 (sF s0 2 (s0.1 5))) ++ (wB cy h1 b1)) H := hP
  have hD : va_D A ((w4 cy h0 h1 (sF s0 2 (s0.1 5))) ++ (wB cy h1 b1)) := hD
  exact b_X4_step_L8 l D cy h0 h1 b1 fu out C hA hK fu (sF s0 2 (s0.1 5)) hf _ _ ls hP hD hS (lv_sub hl [0] rfl)
def f_X4_open (fu : Nat) (b1 : Nat → Int32) (s0 : St) (p2 : Int32) : Option (St) := (f_X4_step fu b1 (sF (sF s0 4 (if 0 < (if 1500 < p2 then 1500 else p2) then (if 1500 < p2 then 1500 else p2) else 0)) 5 0)).bind (fun q_25 => some q_25)
theorem hdX4_open : yX4_open.cls = RX4 ∧ yX4_open.cls ≠ "java/lang/invoke/MethodHandle" ∧ yX4_open.cls ≠ "java/lang/invoke/VarHandle" ∧ (parseMethodDescriptor yX4_open.desc).map (fun d => d.parameters.length) = some 2 := by decide +kernel
set_option maxHeartbeats 4000000 in
set_option maxRecDepth 100000 in
theorem c_X4_open (l : Launch) (D : va_G) (cy : Nat → ClassId) (h0 : Nat) (r0_0 : Nat) (s0 : St) (h1 : Nat) (b1 : Nat → Int32) (sz fu : Nat) (p2 : Int32) (out : St) (hf : f_X4_open fu b1 s0 p2 = some out) :
    Met l yX4_open (WS yX4_open cX4_open 3 none) ({ frames := 3, cells := 0, slots := 0, locals := 62 } : Room) (va_Pc [.ref h0, .ref h1, .int p2] (gP D cy sz ((w4 cy h0 r0_0 s0) ++ (wB cy h1 b1)))) ((fun A : Nat → Prop => gQv D cy A ((w4 cy h0 h1 out) ++ (wB cy h1 b1))) (va_A ((w4 cy h0 r0_0 s0) ++ (wB cy h1 b1)) sz)) 0 0 (va_A ((w4 cy h0 r0_0 s0) ++ (wB cy h1 b1)) sz) := by
  refine g_met (cc := cX4_open) (maxL := 3) (ret := none) (fun A : Nat → Prop => gQv D cy A ((w4 cy h0 h1 out) ++ (wB cy h1 b1))) (by decide +kernel) rfl (Nat.le_of_ble_eq_true rfl) ?_
  intro p e s m below meth c A C hA hK hP hD ls hl
  obtain ⟨hx, hb, hr, hml, hown, hts, hlk⟩ := id C
  have hown : s.vm.findClass RX4 = some m.cls := hown
  have hS : va_S A s.heap s.heap [] := va_S.rf
  have hl : lv_has ls 3 [(0, .ref h0), (1, .ref h1), (2, .int p2)] := hl
  have hk_9 := hts _ (List.mem_cons_of_mem _ fl_RX4_9)
  have hml_15 := hts _ (List.mem_cons_of_mem _ ml_RX4_15)
  have hms_min := hts _ (List.mem_cons_of_mem _ sm_min)
  have hmi_min := hts _ (List.mem_cons_of_mem _ in_Math)
  have hmc_min := hts _ (List.mem_cons_of_mem _ cd_min)
  have hml_21 := hts _ (List.mem_cons_of_mem _ ml_RX4_21)
  have hms_max := hts _ (List.mem_cons_of_mem _ sm_max)
  have hmi_max := hts _ (List.mem_cons_of_mem _ in_Math)
  have hmc_max := hts _ (List.mem_cons_of_mem _ cd_max)
  have hk_24 := hts _ (List.mem_cons_of_mem _ fl_RX4_24)
  have hk_28 := hts _ (List.mem_cons_of_mem _ fl_RX4_28)
  unfold f_X4_open at hf
  refine lv_aload_n hx hb dX4_open_0 rfl (lv_at hl 0 rfl) ?_
  refine lv_aload_n hx hb dX4_open_1 rfl (lv_at hl 1 rfl) ?_
  refine va_put (ci := 4) (v := .ref h1) (ty := tyX4 0) (C := RX4) (T := TX4) (N := 6) hx hb hts (fun w h => List.mem_cons_of_mem _ (inX4 w h)) tyX4 tyX4_ok nmX4 hown hK hP hD hS 0 rfl rfl 0 (by decide) hk_9 (fun _ h9 => h9) rfl (tyX4_ok 0 (by decide)) rfl rfl (Nat.le_of_ble_eq_true rfl) dX4_open_2 (fun H locs hP hD hS => ?_)
  have hP : va_P D vwCl ((w4 cy h0 h1 s0) ++ (wB cy h1 b1)) H := hP
  have hD : va_D A ((w4 cy h0 h1 s0) ++ (wB cy h1 b1)) := hD
  refine lv_aload_n hx hb dX4_open_5 rfl (lv_at hl 0 rfl) ?_
  refine lv_iconst (v := 0) hx hb dX4_open_6 (by decide) ?_
  refine lv_iload_n hx hb dX4_open_7 rfl (lv_at hl 2 rfl) ?_
  refine lv_aload_n hx hb dX4_open_8 rfl (lv_at hl 1 rfl) ?_
  refine va_alen (v := 1500) hx hb hK hP 1 1 rfl rfl rfl dX4_open_9 ?_
  refine va_mmin hx hb (hml.trans hl.1.symm) hown hml_15 hms_min hmi_min hmc_min (Nat.le_of_ble_eq_true rfl) (Nat.le_of_ble_eq_true rfl) (Nat.zero_le _) (Nat.zero_le _) dX4_open_10 ?_
  refine va_mmax hx hb (hml.trans hl.1.symm) hown hml_21 hms_max hmi_max hmc_max (Nat.le_of_ble_eq_true rfl) (Nat.le_of_ble_eq_true rfl) (Nat.zero_le _) (Nat.zero_le _) dX4_open_13 ?_
  refine va_put (ci := 4) (v := .int (if 0 < (if 1500 < p2 then 1500 else p2) then (if 1500 < p2 then 1500 else p2) else 0)) (ty := tyX4 4) (C := RX4) (T := TX4) (N := 6) hx hb hts (fun w h => List.mem_cons_of_mem _ (inX4 w h)) tyX4 tyX4_ok nmX4 hown hK hP hD hS 0 rfl rfl 4 (by decide) hk_24 (fun _ h9 => h9) rfl (tyX4_ok 4 (by decide)) rfl rfl (Nat.le_of_ble_eq_true rfl) dX4_open_16 (fun H locs hP hD hS => ?_)
  have hP : va_P D vwCl ((w4 cy h0 h1 (sF s0 4 (if 0 < (if 1500 < p2 then 1500 else p2) then (if 1500 < p2 then 1500 else p2) else 0))) ++ (wB cy h1 b1)) H := hP
  have hD : va_D A ((w4 cy h0 h1 (sF s0 4 (if 0 < (if 1500 < p2 then 1500 else p2) then (if 1500 < p2 then 1500 else p2) else 0))) ++ (wB cy h1 b1)) := hD
  refine lv_aload_n hx hb dX4_open_19 rfl (lv_at hl 0 rfl) ?_
  refine lv_iconst (v := 0) hx hb dX4_open_20 (by decide) ?_
  refine va_put (ci := 4) (v := .int 0) (ty := tyX4 5) (C := RX4) (T := TX4) (N := 6) hx hb hts (fun w h => List.mem_cons_of_mem _ (inX4 w h)) tyX4 tyX4_ok nmX4 hown hK hP hD hS 0 rfl rfl 5 (by decide) hk_28 (fun _ h9 => h9) rfl (tyX4_ok 5 (by decide)) rfl rfl (Nat.le_of_ble_eq_true rfl) dX4_open_21 (fun H locs hP hD hS => ?_)
  have hP : va_P D vwCl ((w4 cy h0 h1 (sF (sF s0 4 (if 0 < (if 1500 < p2 then 1500 else p2) then (if 1500 < p2 then 1500 else p2) else 0)) 5 0)) ++ (wB cy h1 b1)) H := hP
  have hD : va_D A ((w4 cy h0 h1 (sF (sF s0 4 (if 0 < (if 1500 < p2 then 1500 else p2) then (if 1500 < p2 then 1500 else p2) else 0)) 5 0)) ++ (wB cy h1 b1)) := hD
  refine lv_aload_n hx hb dX4_open_24 rfl (lv_at hl 0 rfl) ?_
  obtain ⟨q_25, hc_25, hf⟩ := op_bind hf
  refine g_callVv (As := []) (rest := []) (w2 := (w4 cy h0 h1 q_25) ++ (wB cy h1 b1)) ⟨hx, hb, hml, hown, hts⟩ (c_X4_step l D cy h0 (sF (sF s0 4 (if 0 < (if 1500 < p2 then 1500 else p2) then (if 1500 < p2 then 1500 else p2) else 0)) 5 0) h1 b1 _ fu _ hc_25) (cwV 0 hts (gi_V ml_RX4_31 im_X4_step se_X4_step in_RX4 cd_X4_step) rfl rfl rfl hdX4_step ⟨Nat.le_of_ble_eq_true rfl, Nat.le_of_ble_eq_true rfl⟩) (va_recv hK hP (ci := 4) (q0 := 0) rfl rfl) rfl hl.1 rfl (Nat.le_of_ble_eq_true rfl) dX4_open_25 hK hP hD hS hA [0, 1] [] [0, 1] rfl rfl rfl rfl (by decide) rfl rfl (fun H locs hP hD hS => ?_)
  rw [← Option.some.inj hf]
  exact g_vret hx hb hr hlk hK hP hD hS dX4_open_28
def f_X4_stringFrom (fu : Nat) (s0 : St)   : Option (Int32) := some ((s0.1 2) + 1)
theorem hdX4_stringFrom : yX4_stringFrom.cls = RX4 ∧ yX4_stringFrom.cls ≠ "java/lang/invoke/MethodHandle" ∧ yX4_stringFrom.cls ≠ "java/lang/invoke/VarHandle" ∧ (parseMethodDescriptor yX4_stringFrom.desc).map (fun d => d.parameters.length) = some 0 := by decide +kernel
set_option maxHeartbeats 4000000 in
set_option maxRecDepth 100000 in
theorem c_X4_stringFrom (l : Launch) (D : va_G) (cy : Nat → ClassId) (h0 : Nat) (r0_0 : Nat) (s0 : St) (sz fu : Nat)  (out : Int32) (hf : f_X4_stringFrom fu s0 = some out) :
    Met l yX4_stringFrom (WS yX4_stringFrom cX4_stringFrom 1 (some .int)) ({ frames := 0, cells := 0, slots := 0, locals := 0 } : Room) (va_Pc [.ref h0] (gP D cy sz (w4 cy h0 r0_0 s0))) ((fun A : Nat → Prop => gQi D cy A out (w4 cy h0 r0_0 s0)) (va_A (w4 cy h0 r0_0 s0) sz)) 0 0 (va_A (w4 cy h0 r0_0 s0) sz) := by
  refine g_met (cc := cX4_stringFrom) (maxL := 1) (ret := (some .int)) (fun A : Nat → Prop => gQi D cy A out (w4 cy h0 r0_0 s0)) (by decide +kernel) rfl (Nat.le_of_ble_eq_true rfl) ?_
  intro p e s m below meth c A C hA hK hP hD ls hl
  obtain ⟨hx, hb, hr, hml, hown, hts, hlk⟩ := id C
  have hown : s.vm.findClass RX4 = some m.cls := hown
  have hS : va_S A s.heap s.heap [] := va_S.rf
  have hl : lv_has ls 1 [(0, .ref h0)] := hl
  have hk_34 := hts _ (List.mem_cons_of_mem _ fl_RX4_34)
  unfold f_X4_stringFrom at hf
  refine lv_aload_n hx hb dX4_stringFrom_0 rfl (lv_at hl 0 rfl) ?_
  refine va_get (ci := 4) (v := .int (s0.1 2)) (C := RX4) (T := TX4) (N := 6) hx hb hts (fun w h => List.mem_cons_of_mem _ (inX4 w h)) hown hK hP 0 rfl rfl 2 (by decide) hk_34 (fun _ h9 => h9) rfl dX4_stringFrom_1 ?_
  refine lv_iconst (v := 1) hx hb dX4_stringFrom_4 (by decide) ?_
  refine lv_iadd hx hb dX4_stringFrom_5 ?_
  rw [← Option.some.inj hf]
  exact g_iret hx hb hr hlk hK hP hD hS dX4_stringFrom_6
def f_X4_stringLength (fu : Nat) (s0 : St)   : Option (Int32) := some (((s0.1 5) - (s0.1 2)) - 2)
theorem hdX4_stringLength : yX4_stringLength.cls = RX4 ∧ yX4_stringLength.cls ≠ "java/lang/invoke/MethodHandle" ∧ yX4_stringLength.cls ≠ "java/lang/invoke/VarHandle" ∧ (parseMethodDescriptor yX4_stringLength.desc).map (fun d => d.parameters.length) = some 0 := by decide +kernel
set_option maxHeartbeats 4000000 in
set_option maxRecDepth 100000 in
theorem c_X4_stringLength (l : Launch) (D : va_G) (cy : Nat → ClassId) (h0 : Nat) (r0_0 : Nat) (s0 : St) (sz fu : Nat)  (out : Int32) (hf : f_X4_stringLength fu s0 = some out) :
    Met l yX4_stringLength (WS yX4_stringLength cX4_stringLength 1 (some .int)) ({ frames := 0, cells := 0, slots := 0, locals := 0 } : Room) (va_Pc [.ref h0] (gP D cy sz (w4 cy h0 r0_0 s0))) ((fun A : Nat → Prop => gQi D cy A out (w4 cy h0 r0_0 s0)) (va_A (w4 cy h0 r0_0 s0) sz)) 0 0 (va_A (w4 cy h0 r0_0 s0) sz) := by
  refine g_met (cc := cX4_stringLength) (maxL := 1) (ret := (some .int)) (fun A : Nat → Prop => gQi D cy A out (w4 cy h0 r0_0 s0)) (by decide +kernel) rfl (Nat.le_of_ble_eq_true rfl) ?_
  intro p e s m below meth c A C hA hK hP hD ls hl
  obtain ⟨hx, hb, hr, hml, hown, hts, hlk⟩ := id C
  have hown : s.vm.findClass RX4 = some m.cls := hown
  have hS : va_S A s.heap s.heap [] := va_S.rf
  have hl : lv_has ls 1 [(0, .ref h0)] := hl
  have hk_28 := hts _ (List.mem_cons_of_mem _ fl_RX4_28)
  have hk_34 := hts _ (List.mem_cons_of_mem _ fl_RX4_34)
  unfold f_X4_stringLength at hf
  refine lv_aload_n hx hb dX4_stringLength_0 rfl (lv_at hl 0 rfl) ?_
  refine va_get (ci := 4) (v := .int (s0.1 5)) (C := RX4) (T := TX4) (N := 6) hx hb hts (fun w h => List.mem_cons_of_mem _ (inX4 w h)) hown hK hP 0 rfl rfl 5 (by decide) hk_28 (fun _ h9 => h9) rfl dX4_stringLength_1 ?_
  refine lv_aload_n hx hb dX4_stringLength_4 rfl (lv_at hl 0 rfl) ?_
  refine va_get (ci := 4) (v := .int (s0.1 2)) (C := RX4) (T := TX4) (N := 6) hx hb hts (fun w h => List.mem_cons_of_mem _ (inX4 w h)) hown hK hP 0 rfl rfl 2 (by decide) hk_34 (fun _ h9 => h9) rfl dX4_stringLength_5 ?_
  refine lv_isub hx hb dX4_stringLength_8 ?_
  refine lv_iconst (v := 2) hx hb dX4_stringLength_9 (by decide) ?_
  refine lv_isub hx hb dX4_stringLength_10 ?_
  rw [← Option.some.inj hf]
  exact g_iret hx hb hr hlk hK hP hD hS dX4_stringLength_11
