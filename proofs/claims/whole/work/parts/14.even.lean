def f_X2_behindCuts_L13 (k_4 : Int32 → Int32 → Option (Int32)) (fu : Nat) (s0 : St) (s1 : St) : Nat → Int32 → Int32 → Int32 → Option (Int32)
  | 0, _, _, _ => none
  | n_13 + 1, x2, x3, x4 => if 8 ≤ x4 then (k_4 x2 (x3 + 1)) else (if inb x4 8 = true then (if (s0.2 4 x4.toNatClampNeg) = 0 then (f_X2_behindCuts_L13 k_4 fu s0 s1 n_13 x2 x3 (x4 + 1)) else ((f_X5_cutTakes fu s1 x4 x2).bind (fun q_37 => if q_37 = 0 then (f_X2_behindCuts_L13 k_4 fu s0 s1 n_13 x2 x3 (x4 + 1)) else ((f_X5_cutBehind fu s1 x4).bind (fun q_49 => f_X2_behindCuts_L13 k_4 fu s0 s1 n_13 q_49 x3 (x4 + 1)))))) else none)
set_option maxHeartbeats 4000000 in
set_option maxRecDepth 100000 in
theorem b_X2_behindCuts_L13 {p : Program} {e : Env} {s : State} {m : MethodId} {args : Array Value} {below : List Frame} {meth : Method} {c : Code} {A : Nat → Prop} (l : Launch) (D : va_G) (cy : Nat → ClassId) (h0 : Nat) (a0 : Nat → Nat) (s0 : St) (h1 : Nat) (a1 : Nat → Nat) (s1 : St) (fu : Nat) (out : Int32) (C : gC p s m args meth c (WS yX2_behindCuts cX2_behindCuts 5 (some .int)) cX2_behindCuts 5 (some .int) RX2) (hA : ∀ q : Nat, s.heap.size ≤ q → A q) (hK : va_K D vwCl (TY cy) s) (k_4 : Int32 → Int32 → Option (Int32)) (hk_4 : ∀ (x2 : Int32) (x3 : Int32), k_4 x2 x3 = some out → ∀ (H : Heap) (locs : List Loc) (ls : Array Slot), va_P D vwCl ((w2 cy h0 h1 a0 s0) ++ (w5 cy h1 a1 s1)) H → va_D A ((w2 cy h0 h1 a0 s0) ++ (w5 cy h1 a1 s1)) → va_S A s.heap H locs → lv_has ls 5 [(0, .ref h0), (2, .int x2), (3, .int x3)] → W p l e ({ frames := 2, cells := 0, slots := 0, locals := 43 } : Room) s m args below meth c H locs 0 0 (MQ below (gQi D cy A out ((w2 cy h0 h1 a0 s0) ++ (w5 cy h1 a1 s1))) args s 0 0 A) (F0 m 4 ls [])) :
    ∀ (n_13 : Nat), ∀ (x2 : Int32) (x3 : Int32) (x4 : Int32), f_X2_behindCuts_L13 k_4 fu s0 s1 n_13 x2 x3 x4 = some out → ∀ (H : Heap) (locs : List Loc) (ls : Array Slot), va_P D vwCl ((w2 cy h0 h1 a0 s0) ++ (w5 cy h1 a1 s1)) H → va_D A ((w2 cy h0 h1 a0 s0) ++ (w5 cy h1 a1 s1)) → va_S A s.heap H locs → lv_has ls 5 [(0, .ref h0), (2, .int x2), (3, .int x3), (4, .int x4)] → W p l e ({ frames := 2, cells := 0, slots := 0, locals := 43 } : Room) s m args below meth c H locs 0 0 (MQ below (gQi D cy A out ((w2 cy h0 h1 a0 s0) ++ (w5 cy h1 a1 s1))) args s 0 0 A) (F0 m 13 ls []) := by
  obtain ⟨hx, hb, hr, hml, hown, hts, hlk⟩ := id C
  have hown : s.vm.findClass RX2 = some m.cls := hown
  have hk_19 := hts _ (List.mem_cons_of_mem _ fl_RX2_19)
  have hk_23 := hts _ (List.mem_cons_of_mem _ fl_RX2_23)
  intro n_13
  induction n_13 with
  | zero => intro x2 x3 x4 hf; exact op_no hf
  | succ n_13 ih_13 =>
    intro x2 x3 x4 hf H locs ls hP hD hS hl
    rw [f_X2_behindCuts_L13] at hf
    refine lv_iload hx hb dX2_behindCuts_13 (lv_at hl 3 rfl) ?_
    refine lv_bipush (v := 8) hx hb dX2_behindCuts_15 (by decide) ?_
    refine lv_icmp_ge (tgt := 59) hx hb dX2_behindCuts_17 (by decide) (fun c_17 => ?_) (fun c_17 => ?_)
    · have hf := op_pos c_17 hf
      refine lv_iinc (v := x3 + 1) (lv' := [(3, .int (x3 + 1)), (0, .ref h0), (2, .int x2), (4, .int x4)]) hx hb dX2_behindCuts_59 hl (k := 2) rfl rfl (by decide) rfl (fun ls hl => ?_)
      refine lv_goto (tgt := 4) hx hb dX2_behindCuts_62 (by decide) ?_
      exact hk_4 x2 (x3 + 1) hf _ _ ls hP hD hS (lv_sub hl [1, 2, 0] rfl)
    · have hf := op_neg c_17 hf
      refine lv_aload_n hx hb dX2_behindCuts_20 rfl (lv_at hl 0 rfl) ?_
      refine va_get (ci := 2) (v := .ref (a0 4)) (C := RX2) (T := TX2) (N := 6) hx hb hts (fun w h => List.mem_cons_of_mem _ (inX2 w h)) hown hK hP 0 rfl rfl 4 (by decide) hk_19 (fun _ h9 => h9) rfl dX2_behindCuts_21 ?_
      refine lv_iload hx hb dX2_behindCuts_24 (lv_at hl 3 rfl) ?_
      obtain ⟨hg_26, hf⟩ := op_if hf
      refine va_zald (f := s0.2 4) hx hb hK hP 1 2 rfl rfl (inb_in hg_26) dX2_behindCuts_26 ?_
      refine lv_if_eq (tgt := 53) hx hb dX2_behindCuts_27 (by decide) (fun c_27 => ?_) (fun c_27 => ?_)
      · have hf := op_pos c_27 hf
        refine lv_iinc (v := x4 + 1) (lv' := [(4, .int (x4 + 1)), (0, .ref h0), (2, .int x2), (3, .int x3)]) hx hb dX2_behindCuts_53 hl (k := 3) rfl rfl (by decide) rfl (fun ls hl => ?_)
        refine lv_goto (tgt := 13) hx hb dX2_behindCuts_56 (by decide) ?_
        exact ih_13 x2 x3 (x4 + 1) hf _ _ ls hP hD hS (lv_sub hl [1, 2, 3, 0] rfl)
      · have hf := op_neg c_27 hf
        refine lv_aload_n hx hb dX2_behindCuts_30 rfl (lv_at hl 0 rfl) ?_
        refine va_get (ci := 2) (v := .ref h1) (C := RX2) (T := TX2) (N := 6) hx hb hts (fun w h => List.mem_cons_of_mem _ (inX2 w h)) hown hK hP 0 rfl rfl 5 (by decide) hk_23 (fun _ h9 => h9) rfl dX2_behindCuts_31 ?_
        refine lv_iload hx hb dX2_behindCuts_34 (lv_at hl 3 rfl) ?_
        refine lv_iload_n hx hb dX2_behindCuts_36 rfl (lv_at hl 1 rfl) ?_
        obtain ⟨q_37, hc_37, hf⟩ := op_bind hf
        refine g_callVi (As := [.int x4, .int x2]) (rest := []) (w2 := (w2 cy h0 h1 a0 s0) ++ (w5 cy h1 a1 s1)) ⟨hx, hb, hml, hown, hts⟩ (c_X5_cutTakes l D cy h1 a1 s1 _ fu x4 x2 _ hc_37) (cwV 2 hts (gi_V ml_RX2_41 im_X5_cutTakes se_X5_cutTakes in_RX5 cd_X5_cutTakes) rfl rfl rfl hdX5_cutTakes ⟨Nat.le_of_ble_eq_true rfl, Nat.le_of_ble_eq_true rfl⟩) (va_recv hK hP (ci := 5) (q0 := 2) rfl rfl) rfl hl.1 rfl (Nat.le_of_ble_eq_true rfl) dX2_behindCuts_37 hK hP hD hS hA [2, 3, 4, 5, 6, 7, 8, 9, 10] [0, 1] [0, 1, 2, 3, 4, 5, 6, 7, 8, 9, 10] rfl rfl rfl rfl (by decide) rfl rfl (fun H locs hP hD hS => ?_)
        refine lv_if_eq (tgt := 53) hx hb dX2_behindCuts_40 (by decide) (fun c_40 => ?_) (fun c_40 => ?_)
        · have hf := op_pos c_40 hf
          refine lv_iinc (v := x4 + 1) (lv' := [(4, .int (x4 + 1)), (0, .ref h0), (2, .int x2), (3, .int x3)]) hx hb dX2_behindCuts_53 hl (k := 3) rfl rfl (by decide) rfl (fun ls hl => ?_)
          refine lv_goto (tgt := 13) hx hb dX2_behindCuts_56 (by decide) ?_
          exact ih_13 x2 x3 (x4 + 1) hf _ _ ls hP hD hS (lv_sub hl [1, 2, 3, 0] rfl)
        · have hf := op_neg c_40 hf
          refine lv_aload_n hx hb dX2_behindCuts_43 rfl (lv_at hl 0 rfl) ?_
          refine va_get (ci := 2) (v := .ref h1) (C := RX2) (T := TX2) (N := 6) hx hb hts (fun w h => List.mem_cons_of_mem _ (inX2 w h)) hown hK hP 0 rfl rfl 5 (by decide) hk_23 (fun _ h9 => h9) rfl dX2_behindCuts_44 ?_
          refine lv_iload hx hb dX2_behindCuts_47 (lv_at hl 3 rfl) ?_
          obtain ⟨q_49, hc_49, hf⟩ := op_bind hf
          refine g_callVi (As := [.int x4]) (rest := []) (w2 := (w2 cy h0 h1 a0 s0) ++ (w5 cy h1 a1 s1)) ⟨hx, hb, hml, hown, hts⟩ (c_X5_cutBehind l D cy h1 a1 s1 _ fu x4 _ hc_49) (cwV 1 hts (gi_V ml_RX2_47 im_X5_cutBehind se_X5_cutBehind in_RX5 cd_X5_cutBehind) rfl rfl rfl hdX5_cutBehind ⟨Nat.le_of_ble_eq_true rfl, Nat.le_of_ble_eq_true rfl⟩) (va_recv hK hP (ci := 5) (q0 := 2) rfl rfl) rfl hl.1 rfl (Nat.le_of_ble_eq_true rfl) dX2_behindCuts_49 hK hP hD hS hA [2, 3, 4, 5, 6, 7, 8, 9, 10] [0, 1] [0, 1, 2, 3, 4, 5, 6, 7, 8, 9, 10] rfl rfl rfl rfl (by decide) rfl rfl (fun H locs hP hD hS => ?_)
          refine lv_istore_n (lv' := [(2, .int q_49), (0, .ref h0), (3, .int x3), (4, .int x4)]) hx hb dX2_behindCuts_52 rfl hl (by decide) rfl (fun ls hl => ?_)
          refine lv_iinc (v := x4 + 1) (lv' := [(4, .int (x4 + 1)), (2, .int q_49), (0, .ref h0), (3, .int x3)]) hx hb dX2_behindCuts_53 hl (k := 3) rfl rfl (by decide) rfl (fun ls hl => ?_)
          refine lv_goto (tgt := 13) hx hb dX2_behindCuts_56 (by decide) ?_
          exact ih_13 q_49 x3 (x4 + 1) hf _ _ ls hP hD hS (lv_sub hl [2, 1, 3, 0] rfl)
def f_X2_behindCuts_L4  (fu : Nat) (s0 : St) (s1 : St) : Nat → Int32 → Int32 → Option (Int32)
  | 0, _, _ => none
  | n_4 + 1, x2, x3 => if 8 ≤ x3 then (some x2) else (f_X2_behindCuts_L13 (f_X2_behindCuts_L4 fu s0 s1 n_4) fu s0 s1 fu x2 x3 0)
set_option maxHeartbeats 4000000 in
set_option maxRecDepth 100000 in
theorem b_X2_behindCuts_L4 {p : Program} {e : Env} {s : State} {m : MethodId} {args : Array Value} {below : List Frame} {meth : Method} {c : Code} {A : Nat → Prop} (l : Launch) (D : va_G) (cy : Nat → ClassId) (h0 : Nat) (a0 : Nat → Nat) (s0 : St) (h1 : Nat) (a1 : Nat → Nat) (s1 : St) (fu : Nat) (out : Int32) (C : gC p s m args meth c (WS yX2_behindCuts cX2_behindCuts 5 (some .int)) cX2_behindCuts 5 (some .int) RX2) (hA : ∀ q : Nat, s.heap.size ≤ q → A q) (hK : va_K D vwCl (TY cy) s)  :
    ∀ (n_4 : Nat), ∀ (x2 : Int32) (x3 : Int32), f_X2_behindCuts_L4 fu s0 s1 n_4 x2 x3 = some out → ∀ (H : Heap) (locs : List Loc) (ls : Array Slot), va_P D vwCl ((w2 cy h0 h1 a0 s0) ++ (w5 cy h1 a1 s1)) H → va_D A ((w2 cy h0 h1 a0 s0) ++ (w5 cy h1 a1 s1)) → va_S A s.heap H locs → lv_has ls 5 [(0, .ref h0), (2, .int x2), (3, .int x3)] → W p l e ({ frames := 2, cells := 0, slots := 0, locals := 43 } : Room) s m args below meth c H locs 0 0 (MQ below (gQi D cy A out ((w2 cy h0 h1 a0 s0) ++ (w5 cy h1 a1 s1))) args s 0 0 A) (F0 m 4 ls []) := by
  obtain ⟨hx, hb, hr, hml, hown, hts, hlk⟩ := id C
  have hown : s.vm.findClass RX2 = some m.cls := hown
  intro n_4
  induction n_4 with
  | zero => intro x2 x3 hf; exact op_no hf
  | succ n_4 ih_4 =>
    intro x2 x3 hf H locs ls hP hD hS hl
    rw [f_X2_behindCuts_L4] at hf
    refine lv_iload_n hx hb dX2_behindCuts_4 rfl (lv_at hl 2 rfl) ?_
    refine lv_bipush (v := 8) hx hb dX2_behindCuts_5 (by decide) ?_
    refine lv_icmp_ge (tgt := 65) hx hb dX2_behindCuts_7 (by decide) (fun c_7 => ?_) (fun c_7 => ?_)
    · have hf := op_pos c_7 hf
      refine lv_iload_n hx hb dX2_behindCuts_65 rfl (lv_at hl 1 rfl) ?_
      rw [← Option.some.inj hf]
      exact g_iret hx hb hr hlk hK hP hD hS dX2_behindCuts_66
    · have hf := op_neg c_7 hf
      refine lv_iconst (v := 0) hx hb dX2_behindCuts_10 (by decide) ?_
      refine lv_istore (lv' := [(4, .int 0), (0, .ref h0), (2, .int x2), (3, .int x3)]) hx hb dX2_behindCuts_11 hl (by decide) rfl (fun ls hl => ?_)
      exact b_X2_behindCuts_L13 l D cy h0 a0 s0 h1 a1 s1 fu out C hA hK (f_X2_behindCuts_L4 fu s0 s1 n_4) ih_4 fu x2 x3 0 hf _ _ ls hP hD hS (lv_sub hl [1, 2, 3, 0] rfl)
def f_X2_behindCuts (fu : Nat) (s0 : St) (s1 : St)  (p1 : Int32) : Option (Int32) := f_X2_behindCuts_L4 fu s0 s1 fu p1 0
theorem hdX2_behindCuts : yX2_behindCuts.cls = RX2 ∧ yX2_behindCuts.cls ≠ "java/lang/invoke/MethodHandle" ∧ yX2_behindCuts.cls ≠ "java/lang/invoke/VarHandle" ∧ (parseMethodDescriptor yX2_behindCuts.desc).map (fun d => d.parameters.length) = some 1 := by decide +kernel
set_option maxHeartbeats 4000000 in
set_option maxRecDepth 100000 in
theorem c_X2_behindCuts (l : Launch) (D : va_G) (cy : Nat → ClassId) (h0 : Nat) (a0 : Nat → Nat) (s0 : St) (h1 : Nat) (a1 : Nat → Nat) (s1 : St) (sz fu : Nat) (p1 : Int32) (out : Int32) (hf : f_X2_behindCuts fu s0 s1 p1 = some out) :
    Met l yX2_behindCuts (WS yX2_behindCuts cX2_behindCuts 5 (some .int)) ({ frames := 2, cells := 0, slots := 0, locals := 43 } : Room) (va_Pc [.ref h0, .int p1] (gP D cy sz ((w2 cy h0 h1 a0 s0) ++ (w5 cy h1 a1 s1)))) ((fun A : Nat → Prop => gQi D cy A out ((w2 cy h0 h1 a0 s0) ++ (w5 cy h1 a1 s1))) (va_A ((w2 cy h0 h1 a0 s0) ++ (w5 cy h1 a1 s1)) sz)) 0 0 (va_A ((w2 cy h0 h1 a0 s0) ++ (w5 cy h1 a1 s1)) sz) := by
  refine g_met (cc := cX2_behindCuts) (maxL := 5) (ret := (some .int)) (fun A : Nat → Prop => gQi D cy A out ((w2 cy h0 h1 a0 s0) ++ (w5 cy h1 a1 s1))) (by decide +kernel) rfl (Nat.le_of_ble_eq_true rfl) ?_
  intro p e s m below meth c A C hA hK hP hD ls hl
  obtain ⟨hx, hb, hr, hml, hown, hts, hlk⟩ := id C
  have hown : s.vm.findClass RX2 = some m.cls := hown
  have hS : va_S A s.heap s.heap [] := va_S.rf
  have hl : lv_has ls 5 [(0, .ref h0), (1, .int p1)] := hl
  unfold f_X2_behindCuts at hf
  refine lv_iload_n hx hb dX2_behindCuts_0 rfl (lv_at hl 1 rfl) ?_
  refine lv_istore_n (lv' := [(2, .int p1), (0, .ref h0), (1, .int p1)]) hx hb dX2_behindCuts_1 rfl hl (by decide) rfl (fun ls hl => ?_)
  refine lv_iconst (v := 0) hx hb dX2_behindCuts_2 (by decide) ?_
  refine lv_istore_n (lv' := [(3, .int 0), (2, .int p1), (0, .ref h0), (1, .int p1)]) hx hb dX2_behindCuts_3 rfl hl (by decide) rfl (fun ls hl => ?_)
  exact b_X2_behindCuts_L4 l D cy h0 a0 s0 h1 a1 s1 fu out C hA hK fu p1 0 hf _ _ ls hP hD hS (lv_sub hl [2, 1, 0] rfl)
def f_X2_nextCut_L6  (fu : Nat) (s0 : St) (s1 : St) : Nat → Int32 → Int32 → Int32 → Option (Int32)
  | 0, _, _, _ => none
  | n_6 + 1, x1, x2, x3 => if 8 ≤ x3 then (some x2) else (if inb x3 8 = true then (if (s0.2 4 x3.toNatClampNeg) = 0 then (f_X2_nextCut_L6 fu s0 s1 n_6 x1 x2 (x3 + 1)) else ((f_X5_cutFirst fu s1 x3).bind (fun q_26 => if q_26 ≤ x1 then (f_X2_nextCut_L6 fu s0 s1 n_6 x1 x2 (x3 + 1)) else ((f_X5_cutFirst fu s1 x3).bind (fun q_39 => f_X2_nextCut_L6 fu s0 s1 n_6 x1 (if q_39 < x2 then q_39 else x2) (x3 + 1)))))) else none)
set_option maxHeartbeats 4000000 in
set_option maxRecDepth 100000 in
theorem b_X2_nextCut_L6 {p : Program} {e : Env} {s : State} {m : MethodId} {args : Array Value} {below : List Frame} {meth : Method} {c : Code} {A : Nat → Prop} (l : Launch) (D : va_G) (cy : Nat → ClassId) (h0 : Nat) (a0 : Nat → Nat) (s0 : St) (h1 : Nat) (a1 : Nat → Nat) (s1 : St) (fu : Nat) (out : Int32) (C : gC p s m args meth c (WS yX2_nextCut cX2_nextCut 4 (some .int)) cX2_nextCut 4 (some .int) RX2) (hA : ∀ q : Nat, s.heap.size ≤ q → A q) (hK : va_K D vwCl (TY cy) s)  :
    ∀ (n_6 : Nat), ∀ (x1 : Int32) (x2 : Int32) (x3 : Int32), f_X2_nextCut_L6 fu s0 s1 n_6 x1 x2 x3 = some out → ∀ (H : Heap) (locs : List Loc) (ls : Array Slot), va_P D vwCl ((w2 cy h0 h1 a0 s0) ++ (w5 cy h1 a1 s1)) H → va_D A ((w2 cy h0 h1 a0 s0) ++ (w5 cy h1 a1 s1)) → va_S A s.heap H locs → lv_has ls 4 [(0, .ref h0), (1, .int x1), (2, .int x2), (3, .int x3)] → W p l e ({ frames := 2, cells := 0, slots := 0, locals := 42 } : Room) s m args below meth c H locs 0 0 (MQ below (gQi D cy A out ((w2 cy h0 h1 a0 s0) ++ (w5 cy h1 a1 s1))) args s 0 0 A) (F0 m 6 ls []) := by
  obtain ⟨hx, hb, hr, hml, hown, hts, hlk⟩ := id C
  have hown : s.vm.findClass RX2 = some m.cls := hown
  have hk_19 := hts _ (List.mem_cons_of_mem _ fl_RX2_19)
  have hk_23 := hts _ (List.mem_cons_of_mem _ fl_RX2_23)
  have hml_53 := hts _ (List.mem_cons_of_mem _ ml_RX2_53)
  have hms_min := hts _ (List.mem_cons_of_mem _ sm_min)
  have hmi_min := hts _ (List.mem_cons_of_mem _ in_Math)
  have hmc_min := hts _ (List.mem_cons_of_mem _ cd_min)
  intro n_6
  induction n_6 with
  | zero => intro x1 x2 x3 hf; exact op_no hf
  | succ n_6 ih_6 =>
    intro x1 x2 x3 hf H locs ls hP hD hS hl
    rw [f_X2_nextCut_L6] at hf
    refine lv_iload_n hx hb dX2_nextCut_6 rfl (lv_at hl 3 rfl) ?_
    refine lv_bipush (v := 8) hx hb dX2_nextCut_7 (by decide) ?_
    refine lv_icmp_ge (tgt := 52) hx hb dX2_nextCut_9 (by decide) (fun c_9 => ?_) (fun c_9 => ?_)
    · have hf := op_pos c_9 hf
      refine lv_iload_n hx hb dX2_nextCut_52 rfl (lv_at hl 2 rfl) ?_
      rw [← Option.some.inj hf]
      exact g_iret hx hb hr hlk hK hP hD hS dX2_nextCut_53
    · have hf := op_neg c_9 hf
      refine lv_aload_n hx hb dX2_nextCut_12 rfl (lv_at hl 0 rfl) ?_
      refine va_get (ci := 2) (v := .ref (a0 4)) (C := RX2) (T := TX2) (N := 6) hx hb hts (fun w h => List.mem_cons_of_mem _ (inX2 w h)) hown hK hP 0 rfl rfl 4 (by decide) hk_19 (fun _ h9 => h9) rfl dX2_nextCut_13 ?_
      refine lv_iload_n hx hb dX2_nextCut_16 rfl (lv_at hl 3 rfl) ?_
      obtain ⟨hg_17, hf⟩ := op_if hf
      refine va_zald (f := s0.2 4) hx hb hK hP 1 2 rfl rfl (inb_in hg_17) dX2_nextCut_17 ?_
      refine lv_if_eq (tgt := 46) hx hb dX2_nextCut_18 (by decide) (fun c_18 => ?_) (fun c_18 => ?_)
      · have hf := op_pos c_18 hf
        refine lv_iinc (v := x3 + 1) (lv' := [(3, .int (x3 + 1)), (0, .ref h0), (1, .int x1), (2, .int x2)]) hx hb dX2_nextCut_46 hl (k := 3) rfl rfl (by decide) rfl (fun ls hl => ?_)
        refine lv_goto (tgt := 6) hx hb dX2_nextCut_49 (by decide) ?_
        exact ih_6 x1 x2 (x3 + 1) hf _ _ ls hP hD hS (lv_sub hl [1, 2, 3, 0] rfl)
      · have hf := op_neg c_18 hf
        refine lv_aload_n hx hb dX2_nextCut_21 rfl (lv_at hl 0 rfl) ?_
        refine va_get (ci := 2) (v := .ref h1) (C := RX2) (T := TX2) (N := 6) hx hb hts (fun w h => List.mem_cons_of_mem _ (inX2 w h)) hown hK hP 0 rfl rfl 5 (by decide) hk_23 (fun _ h9 => h9) rfl dX2_nextCut_22 ?_
        refine lv_iload_n hx hb dX2_nextCut_25 rfl (lv_at hl 3 rfl) ?_
        obtain ⟨q_26, hc_26, hf⟩ := op_bind hf
        refine g_callVi (As := [.int x3]) (rest := []) (w2 := (w2 cy h0 h1 a0 s0) ++ (w5 cy h1 a1 s1)) ⟨hx, hb, hml, hown, hts⟩ (c_X5_cutFirst l D cy h1 a1 s1 _ fu x3 _ hc_26) (cwV 1 hts (gi_V ml_RX2_50 im_X5_cutFirst se_X5_cutFirst in_RX5 cd_X5_cutFirst) rfl rfl rfl hdX5_cutFirst ⟨Nat.le_of_ble_eq_true rfl, Nat.le_of_ble_eq_true rfl⟩) (va_recv hK hP (ci := 5) (q0 := 2) rfl rfl) rfl hl.1 rfl (Nat.le_of_ble_eq_true rfl) dX2_nextCut_26 hK hP hD hS hA [2, 3, 4, 5, 6, 7, 8, 9, 10] [0, 1] [0, 1, 2, 3, 4, 5, 6, 7, 8, 9, 10] rfl rfl rfl rfl (by decide) rfl rfl (fun H locs hP hD hS => ?_)
        refine lv_iload_n hx hb dX2_nextCut_29 rfl (lv_at hl 1 rfl) ?_
        refine lv_icmp_le (tgt := 46) hx hb dX2_nextCut_30 (by decide) (fun c_30 => ?_) (fun c_30 => ?_)
        · have hf := op_pos c_30 hf
          refine lv_iinc (v := x3 + 1) (lv' := [(3, .int (x3 + 1)), (0, .ref h0), (1, .int x1), (2, .int x2)]) hx hb dX2_nextCut_46 hl (k := 3) rfl rfl (by decide) rfl (fun ls hl => ?_)
          refine lv_goto (tgt := 6) hx hb dX2_nextCut_49 (by decide) ?_
          exact ih_6 x1 x2 (x3 + 1) hf _ _ ls hP hD hS (lv_sub hl [1, 2, 3, 0] rfl)
        · have hf := op_neg c_30 hf
          refine lv_iload_n hx hb dX2_nextCut_33 rfl (lv_at hl 2 rfl) ?_
          refine lv_aload_n hx hb dX2_nextCut_34 rfl (lv_at hl 0 rfl) ?_
          refine va_get (ci := 2) (v := .ref h1) (C := RX2) (T := TX2) (N := 6) hx hb hts (fun w h => List.mem_cons_of_mem _ (inX2 w h)) hown hK hP 0 rfl rfl 5 (by decide) hk_23 (fun _ h9 => h9) rfl dX2_nextCut_35 ?_
          refine lv_iload_n hx hb dX2_nextCut_38 rfl (lv_at hl 3 rfl) ?_
          obtain ⟨q_39, hc_39, hf⟩ := op_bind hf
          refine g_callVi (As := [.int x3]) (rest := [.int x2]) (w2 := (w2 cy h0 h1 a0 s0) ++ (w5 cy h1 a1 s1)) ⟨hx, hb, hml, hown, hts⟩ (c_X5_cutFirst l D cy h1 a1 s1 _ fu x3 _ hc_39) (cwV 1 hts (gi_V ml_RX2_50 im_X5_cutFirst se_X5_cutFirst in_RX5 cd_X5_cutFirst) rfl rfl rfl hdX5_cutFirst ⟨Nat.le_of_ble_eq_true rfl, Nat.le_of_ble_eq_true rfl⟩) (va_recv hK hP (ci := 5) (q0 := 2) rfl rfl) rfl hl.1 rfl (Nat.le_of_ble_eq_true rfl) dX2_nextCut_39 hK hP hD hS hA [2, 3, 4, 5, 6, 7, 8, 9, 10] [0, 1] [0, 1, 2, 3, 4, 5, 6, 7, 8, 9, 10] rfl rfl rfl rfl (by decide) rfl rfl (fun H locs hP hD hS => ?_)
          refine va_mmin hx hb (hml.trans hl.1.symm) hown hml_53 hms_min hmi_min hmc_min (Nat.le_of_ble_eq_true rfl) (Nat.le_of_ble_eq_true rfl) (Nat.zero_le _) (Nat.zero_le _) dX2_nextCut_42 ?_
          refine lv_istore_n (lv' := [(2, .int (if q_39 < x2 then q_39 else x2)), (0, .ref h0), (1, .int x1), (3, .int x3)]) hx hb dX2_nextCut_45 rfl hl (by decide) rfl (fun ls hl => ?_)
          refine lv_iinc (v := x3 + 1) (lv' := [(3, .int (x3 + 1)), (2, .int (if q_39 < x2 then q_39 else x2)), (0, .ref h0), (1, .int x1)]) hx hb dX2_nextCut_46 hl (k := 3) rfl rfl (by decide) rfl (fun ls hl => ?_)
          refine lv_goto (tgt := 6) hx hb dX2_nextCut_49 (by decide) ?_
          exact ih_6 x1 (if q_39 < x2 then q_39 else x2) (x3 + 1) hf _ _ ls hP hD hS (lv_sub hl [2, 3, 1, 0] rfl)
def f_X2_nextCut (fu : Nat) (s0 : St) (s1 : St)  (p1 : Int32) : Option (Int32) := f_X2_nextCut_L6 fu s0 s1 fu p1 1000 0
theorem hdX2_nextCut : yX2_nextCut.cls = RX2 ∧ yX2_nextCut.cls ≠ "java/lang/invoke/MethodHandle" ∧ yX2_nextCut.cls ≠ "java/lang/invoke/VarHandle" ∧ (parseMethodDescriptor yX2_nextCut.desc).map (fun d => d.parameters.length) = some 1 := by decide +kernel
set_option maxHeartbeats 4000000 in
set_option maxRecDepth 100000 in
theorem c_X2_nextCut (l : Launch) (D : va_G) (cy : Nat → ClassId) (h0 : Nat) (a0 : Nat → Nat) (s0 : St) (h1 : Nat) (a1 : Nat → Nat) (s1 : St) (sz fu : Nat) (p1 : Int32) (out : Int32) (hf : f_X2_nextCut fu s0 s1 p1 = some out) :
    Met l yX2_nextCut (WS yX2_nextCut cX2_nextCut 4 (some .int)) ({ frames := 2, cells := 0, slots := 0, locals := 42 } : Room) (va_Pc [.ref h0, .int p1] (gP D cy sz ((w2 cy h0 h1 a0 s0) ++ (w5 cy h1 a1 s1)))) ((fun A : Nat → Prop => gQi D cy A out ((w2 cy h0 h1 a0 s0) ++ (w5 cy h1 a1 s1))) (va_A ((w2 cy h0 h1 a0 s0) ++ (w5 cy h1 a1 s1)) sz)) 0 0 (va_A ((w2 cy h0 h1 a0 s0) ++ (w5 cy h1 a1 s1)) sz) := by
  refine g_met (cc := cX2_nextCut) (maxL := 4) (ret := (some .int)) (fun A : Nat → Prop => gQi D cy A out ((w2 cy h0 h1 a0 s0) ++ (w5 cy h1 a1 s1))) (by decide +kernel) rfl (Nat.le_of_ble_eq_true rfl) ?_
  intro p e s m below meth c A C hA hK hP hD ls hl
  obtain ⟨hx, hb, hr, hml, hown, hts, hlk⟩ := id C
  have hown : s.vm.findClass RX2 = some m.cls := hown
  have hS : va_S A s.heap s.heap [] := va_S.rf
  have hl : lv_has ls 4 [(0, .ref h0), (1, .int p1)] := hl
  unfold f_X2_nextCut at hf
  refine lv_sipush (v := 1000) hx hb dX2_nextCut_0 (by decide) ?_
  refine lv_istore_n (lv' := [(2, .int 1000), (0, .ref h0), (1, .int p1)]) hx hb dX2_nextCut_3 rfl hl (by decide) rfl (fun ls hl => ?_)
  refine lv_iconst (v := 0) hx hb dX2_nextCut_4 (by decide) ?_
  refine lv_istore_n (lv' := [(3, .int 0), (2, .int 1000), (0, .ref h0), (1, .int p1)]) hx hb dX2_nextCut_5 rfl hl (by decide) rfl (fun ls hl => ?_)
  exact b_X2_nextCut_L6 l D cy h0 a0 s0 h1 a1 s1 fu out C hA hK fu p1 1000 0 hf _ _ ls hP hD hS (lv_sub hl [2, 3, 1, 0] rfl)
def f_X2_countedBars_L8  (fu : Nat) (s0 : St) (s1 : St) : Nat → Int32 → Int32 → Int32 → Int32 → Option (Int32)
  | 0, _, _, _, _ => none
  | n_8 + 1, x2, x3, x4, x5 => if 8 < x5 then (some x3) else (if x2 ≤ x4 then (some x3) else ((f_X2_behindCuts fu s0 s1 x4).bind (fun q_25 => (f_X2_nextCut fu s0 s1 (if q_25 < x2 then q_25 else x2)).bind (fun q_37 => f_X2_countedBars_L8 fu s0 s1 n_8 x2 (x3 + ((if q_37 < x2 then q_37 else x2) - (if q_25 < x2 then q_25 else x2))) (if q_37 < x2 then q_37 else x2) (x5 + 1)))))
set_option maxHeartbeats 4000000 in
set_option maxRecDepth 100000 in
theorem b_X2_countedBars_L8 {p : Program} {e : Env} {s : State} {m : MethodId} {args : Array Value} {below : List Frame} {meth : Method} {c : Code} {A : Nat → Prop} (l : Launch) (D : va_G) (cy : Nat → ClassId) (h0 : Nat) (a0 : Nat → Nat) (s0 : St) (h1 : Nat) (a1 : Nat → Nat) (s1 : St) (fu : Nat) (out : Int32) (C : gC p s m args meth c (WS yX2_countedBars cX2_countedBars 8 (some .int)) cX2_countedBars 8 (some .int) RX2) (hA : ∀ q : Nat, s.heap.size ≤ q → A q) (hK : va_K D vwCl (TY cy) s)  :
    ∀ (n_8 : Nat), ∀ (x2 : Int32) (x3 : Int32) (x4 : Int32) (x5 : Int32), f_X2_countedBars_L8 fu s0 s1 n_8 x2 x3 x4 x5 = some out → ∀ (H : Heap) (locs : List Loc) (ls : Array Slot), va_P D vwCl ((w2 cy h0 h1 a0 s0) ++ (w5 cy h1 a1 s1)) H → va_D A ((w2 cy h0 h1 a0 s0) ++ (w5 cy h1 a1 s1)) → va_S A s.heap H locs → lv_has ls 8 [(0, .ref h0), (2, .int x2), (3, .int x3), (4, .int x4), (5, .int x5)] → W p l e ({ frames := 3, cells := 0, slots := 0, locals := 67 } : Room) s m args below meth c H locs 0 0 (MQ below (gQi D cy A out ((w2 cy h0 h1 a0 s0) ++ (w5 cy h1 a1 s1))) args s 0 0 A) (F0 m 8 ls []) := by
  obtain ⟨hx, hb, hr, hml, hown, hts, hlk⟩ := id C
  have hown : s.vm.findClass RX2 = some m.cls := hown
  have hml_53 := hts _ (List.mem_cons_of_mem _ ml_RX2_53)
  have hms_min := hts _ (List.mem_cons_of_mem _ sm_min)
  have hmi_min := hts _ (List.mem_cons_of_mem _ in_Math)
  have hmc_min := hts _ (List.mem_cons_of_mem _ cd_min)
  intro n_8
  induction n_8 with
  | zero => intro x2 x3 x4 x5 hf; exact op_no hf
  | succ n_8 ih_8 =>
    intro x2 x3 x4 x5 hf H locs ls hP hD hS hl
    rw [f_X2_countedBars_L8] at hf
    refine lv_iload hx hb dX2_countedBars_8 (lv_at hl 4 rfl) ?_
    refine lv_bipush (v := 8) hx hb dX2_countedBars_10 (by decide) ?_
    refine lv_icmp_gt (tgt := 63) hx hb dX2_countedBars_12 (by decide) (fun c_12 => ?_) (fun c_12 => ?_)
    · have hf := op_pos c_12 hf
      refine lv_iload_n hx hb dX2_countedBars_63 rfl (lv_at hl 2 rfl) ?_
      rw [← Option.some.inj hf]
      exact g_iret hx hb hr hlk hK hP hD hS dX2_countedBars_64
    · have hf := op_neg c_12 hf
      refine lv_iload hx hb dX2_countedBars_15 (lv_at hl 3 rfl) ?_
      refine lv_iload_n hx hb dX2_countedBars_17 rfl (lv_at hl 1 rfl) ?_
      refine lv_icmp_ge (tgt := 63) hx hb dX2_countedBars_18 (by decide) (fun c_18 => ?_) (fun c_18 => ?_)
      · have hf := op_pos c_18 hf
        refine lv_iload_n hx hb dX2_countedBars_63 rfl (lv_at hl 2 rfl) ?_
        rw [← Option.some.inj hf]
        exact g_iret hx hb hr hlk hK hP hD hS dX2_countedBars_64
      · have hf := op_neg c_18 hf
        refine lv_iload_n hx hb dX2_countedBars_21 rfl (lv_at hl 1 rfl) ?_
        refine lv_aload_n hx hb dX2_countedBars_22 rfl (lv_at hl 0 rfl) ?_
        refine lv_iload hx hb dX2_countedBars_23 (lv_at hl 3 rfl) ?_
        obtain ⟨q_25, hc_25, hf⟩ := op_bind hf
        refine g_callVi (As := [.int x4]) (rest := [.int x2]) (w2 := (w2 cy h0 h1 a0 s0) ++ (w5 cy h1 a1 s1)) ⟨hx, hb, hml, hown, hts⟩ (c_X2_behindCuts l D cy h0 a0 s0 h1 a1 s1 _ fu x4 _ hc_25) (cwV 1 hts (gi_V ml_RX2_37 im_X2_behindCuts se_X2_behindCuts in_RX2 cd_X2_behindCuts) rfl rfl rfl hdX2_behindCuts ⟨Nat.le_of_ble_eq_true rfl, Nat.le_of_ble_eq_true rfl⟩) (va_recv hK hP (ci := 2) (q0 := 0) rfl rfl) rfl hl.1 rfl (Nat.le_of_ble_eq_true rfl) dX2_countedBars_25 hK hP hD hS hA [0, 1, 2, 3, 4, 5, 6, 7, 8, 9, 10] [] [0, 1, 2, 3, 4, 5, 6, 7, 8, 9, 10] rfl rfl rfl rfl (by decide) rfl rfl (fun H locs hP hD hS => ?_)
        refine va_mmin hx hb (hml.trans hl.1.symm) hown hml_53 hms_min hmi_min hmc_min (Nat.le_of_ble_eq_true rfl) (Nat.le_of_ble_eq_true rfl) (Nat.zero_le _) (Nat.zero_le _) dX2_countedBars_28 ?_
        refine lv_istore (lv' := [(6, .int (if q_25 < x2 then q_25 else x2)), (0, .ref h0), (2, .int x2), (3, .int x3), (4, .int x4), (5, .int x5)]) hx hb dX2_countedBars_31 hl (by decide) rfl (fun ls hl => ?_)
        refine lv_iload_n hx hb dX2_countedBars_33 rfl (lv_at hl 2 rfl) ?_
        refine lv_aload_n hx hb dX2_countedBars_34 rfl (lv_at hl 1 rfl) ?_
        refine lv_iload hx hb dX2_countedBars_35 (lv_at hl 0 rfl) ?_
        obtain ⟨q_37, hc_37, hf⟩ := op_bind hf
        refine g_callVi (As := [.int (if q_25 < x2 then q_25 else x2)]) (rest := [.int x2]) (w2 := (w2 cy h0 h1 a0 s0) ++ (w5 cy h1 a1 s1)) ⟨hx, hb, hml, hown, hts⟩ (c_X2_nextCut l D cy h0 a0 s0 h1 a1 s1 _ fu (if q_25 < x2 then q_25 else x2) _ hc_37) (cwV 1 hts (gi_V ml_RX2_59 im_X2_nextCut se_X2_nextCut in_RX2 cd_X2_nextCut) rfl rfl rfl hdX2_nextCut ⟨Nat.le_of_ble_eq_true rfl, Nat.le_of_ble_eq_true rfl⟩) (va_recv hK hP (ci := 2) (q0 := 0) rfl rfl) rfl hl.1 rfl (Nat.le_of_ble_eq_true rfl) dX2_countedBars_37 hK hP hD hS hA [0, 1, 2, 3, 4, 5, 6, 7, 8, 9, 10] [] [0, 1, 2, 3, 4, 5, 6, 7, 8, 9, 10] rfl rfl rfl rfl (by decide) rfl rfl (fun H locs hP hD hS => ?_)
        refine va_mmin hx hb (hml.trans hl.1.symm) hown hml_53 hms_min hmi_min hmc_min (Nat.le_of_ble_eq_true rfl) (Nat.le_of_ble_eq_true rfl) (Nat.zero_le _) (Nat.zero_le _) dX2_countedBars_40 ?_
        refine lv_istore (lv' := [(7, .int (if q_37 < x2 then q_37 else x2)), (6, .int (if q_25 < x2 then q_25 else x2)), (0, .ref h0), (2, .int x2), (3, .int x3), (4, .int x4), (5, .int x5)]) hx hb dX2_countedBars_43 hl (by decide) rfl (fun ls hl => ?_)
        refine lv_iload_n hx hb dX2_countedBars_45 rfl (lv_at hl 4 rfl) ?_
        refine lv_iload hx hb dX2_countedBars_46 (lv_at hl 0 rfl) ?_
        refine lv_iload hx hb dX2_countedBars_48 (lv_at hl 1 rfl) ?_
        refine lv_isub hx hb dX2_countedBars_50 ?_
        refine lv_iadd hx hb dX2_countedBars_51 ?_
        refine lv_istore_n (lv' := [(3, .int (x3 + ((if q_37 < x2 then q_37 else x2) - (if q_25 < x2 then q_25 else x2)))), (7, .int (if q_37 < x2 then q_37 else x2)), (6, .int (if q_25 < x2 then q_25 else x2)), (0, .ref h0), (2, .int x2), (4, .int x4), (5, .int x5)]) hx hb dX2_countedBars_52 rfl hl (by decide) rfl (fun ls hl => ?_)
        refine lv_iload hx hb dX2_countedBars_53 (lv_at hl 1 rfl) ?_
        refine lv_istore (lv' := [(4, .int (if q_37 < x2 then q_37 else x2)), (3, .int (x3 + ((if q_37 < x2 then q_37 else x2) - (if q_25 < x2 then q_25 else x2)))), (7, .int (if q_37 < x2 then q_37 else x2)), (6, .int (if q_25 < x2 then q_25 else x2)), (0, .ref h0), (2, .int x2), (5, .int x5)]) hx hb dX2_countedBars_55 hl (by decide) rfl (fun ls hl => ?_)
        refine lv_iinc (v := x5 + 1) (lv' := [(5, .int (x5 + 1)), (4, .int (if q_37 < x2 then q_37 else x2)), (3, .int (x3 + ((if q_37 < x2 then q_37 else x2) - (if q_25 < x2 then q_25 else x2)))), (7, .int (if q_37 < x2 then q_37 else x2)), (6, .int (if q_25 < x2 then q_25 else x2)), (0, .ref h0), (2, .int x2)]) hx hb dX2_countedBars_57 hl (k := 6) rfl rfl (by decide) rfl (fun ls hl => ?_)
        refine lv_goto (tgt := 8) hx hb dX2_countedBars_60 (by decide) ?_
        exact ih_8 x2 (x3 + ((if q_37 < x2 then q_37 else x2) - (if q_25 < x2 then q_25 else x2))) (if q_37 < x2 then q_37 else x2) (x5 + 1) hf _ _ ls hP hD hS (lv_sub hl [5, 6, 2, 1, 0] rfl)
def f_X2_countedBars (fu : Nat) (s0 : St) (s1 : St)  (p1 : Int32) (p2 : Int32) : Option (Int32) := f_X2_countedBars_L8 fu s0 s1 fu p2 0 p1 0
theorem hdX2_countedBars : yX2_countedBars.cls = RX2 ∧ yX2_countedBars.cls ≠ "java/lang/invoke/MethodHandle" ∧ yX2_countedBars.cls ≠ "java/lang/invoke/VarHandle" ∧ (parseMethodDescriptor yX2_countedBars.desc).map (fun d => d.parameters.length) = some 2 := by decide +kernel
set_option maxHeartbeats 4000000 in
set_option maxRecDepth 100000 in
theorem c_X2_countedBars (l : Launch) (D : va_G) (cy : Nat → ClassId) (h0 : Nat) (a0 : Nat → Nat) (s0 : St) (h1 : Nat) (a1 : Nat → Nat) (s1 : St) (sz fu : Nat) (p1 : Int32) (p2 : Int32) (out : Int32) (hf : f_X2_countedBars fu s0 s1 p1 p2 = some out) :
    Met l yX2_countedBars (WS yX2_countedBars cX2_countedBars 8 (some .int)) ({ frames := 3, cells := 0, slots := 0, locals := 67 } : Room) (va_Pc [.ref h0, .int p1, .int p2] (gP D cy sz ((w2 cy h0 h1 a0 s0) ++ (w5 cy h1 a1 s1)))) ((fun A : Nat → Prop => gQi D cy A out ((w2 cy h0 h1 a0 s0) ++ (w5 cy h1 a1 s1))) (va_A ((w2 cy h0 h1 a0 s0) ++ (w5 cy h1 a1 s1)) sz)) 0 0 (va_A ((w2 cy h0 h1 a0 s0) ++ (w5 cy h1 a1 s1)) sz) := by
  refine g_met (cc := cX2_countedBars) (maxL := 8) (ret := (some .int)) (fun A : Nat → Prop => gQi D cy A out ((w2 cy h0 h1 a0 s0) ++ (w5 cy h1 a1 s1))) (by decide +kernel) rfl (Nat.le_of_ble_eq_true rfl) ?_
  intro p e s m below meth c A C hA hK hP hD ls hl
  obtain ⟨hx, hb, hr, hml, hown, hts, hlk⟩ := id C
  have hown : s.vm.findClass RX2 = some m.cls := hown
  have hS : va_S A s.heap s.heap [] := va_S.rf
  have hl : lv_has ls 8 [(0, .ref h0), (1, .int p1), (2, .int p2)] := hl
  unfold f_X2_countedBars at hf
  refine lv_iconst (v := 0) hx hb dX2_countedBars_0 (by decide) ?_
  refine lv_istore_n (lv' := [(3, .int 0), (0, .ref h0), (1, .int p1), (2, .int p2)]) hx hb dX2_countedBars_1 rfl hl (by decide) rfl (fun ls hl => ?_)
  refine lv_iload_n hx hb dX2_countedBars_2 rfl (lv_at hl 2 rfl) ?_
  refine lv_istore (lv' := [(4, .int p1), (3, .int 0), (0, .ref h0), (1, .int p1), (2, .int p2)]) hx hb dX2_countedBars_3 hl (by decide) rfl (fun ls hl => ?_)
  refine lv_iconst (v := 0) hx hb dX2_countedBars_5 (by decide) ?_
  refine lv_istore (lv' := [(5, .int 0), (4, .int p1), (3, .int 0), (0, .ref h0), (1, .int p1), (2, .int p2)]) hx hb dX2_countedBars_6 hl (by decide) rfl (fun ls hl => ?_)
  exact b_X2_countedBars_L8 l D cy h0 a0 s0 h1 a1 s1 fu out C hA hK fu p2 0 p1 0 hf _ _ ls hP hD hS (lv_sub hl [3, 5, 2, 1, 0] rfl)
def f_X2_goTo (fu : Nat) (s1 : St) (s0 : St) (p1 : Int32) : Option (St) := (f_X2_behindCuts fu s0 s1 p1).bind (fun q_3 => some (sF (sF s0 0 q_3) 2 0))
theorem hdX2_goTo : yX2_goTo.cls = RX2 ∧ yX2_goTo.cls ≠ "java/lang/invoke/MethodHandle" ∧ yX2_goTo.cls ≠ "java/lang/invoke/VarHandle" ∧ (parseMethodDescriptor yX2_goTo.desc).map (fun d => d.parameters.length) = some 1 := by decide +kernel
set_option maxHeartbeats 4000000 in
set_option maxRecDepth 100000 in
theorem c_X2_goTo (l : Launch) (D : va_G) (cy : Nat → ClassId) (h0 : Nat) (a0 : Nat → Nat) (s0 : St) (h1 : Nat) (a1 : Nat → Nat) (s1 : St) (sz fu : Nat) (p1 : Int32) (out : St) (hf : f_X2_goTo fu s1 s0 p1 = some out) :
    Met l yX2_goTo (WS yX2_goTo cX2_goTo 2 none) ({ frames := 3, cells := 0, slots := 0, locals := 67 } : Room) (va_Pc [.ref h0, .int p1] (gP D cy sz ((w2 cy h0 h1 a0 s0) ++ (w5 cy h1 a1 s1)))) ((fun A : Nat → Prop => gQv D cy A ((w2 cy h0 h1 a0 out) ++ (w5 cy h1 a1 s1))) (va_A ((w2 cy h0 h1 a0 s0) ++ (w5 cy h1 a1 s1)) sz)) 0 0 (va_A ((w2 cy h0 h1 a0 s0) ++ (w5 cy h1 a1 s1)) sz) := by
  refine g_met (cc := cX2_goTo) (maxL := 2) (ret := none) (fun A : Nat → Prop => gQv D cy A ((w2 cy h0 h1 a0 out) ++ (w5 cy h1 a1 s1))) (by decide +kernel) rfl (Nat.le_of_ble_eq_true rfl) ?_
  intro p e s m below meth c A C hA hK hP hD ls hl
  obtain ⟨hx, hb, hr, hml, hown, hts, hlk⟩ := id C
  have hown : s.vm.findClass RX2 = some m.cls := hown
  have hS : va_S A s.heap s.heap [] := va_S.rf
  have hl : lv_has ls 2 [(0, .ref h0), (1, .int p1)] := hl
  have hk_27 := hts _ (List.mem_cons_of_mem _ fl_RX2_27)
  have hk_30 := hts _ (List.mem_cons_of_mem _ fl_RX2_30)
  unfold f_X2_goTo at hf
  refine lv_aload_n hx hb dX2_goTo_0 rfl (lv_at hl 0 rfl) ?_
  refine lv_aload_n hx hb dX2_goTo_1 rfl (lv_at hl 0 rfl) ?_
  refine lv_iload_n hx hb dX2_goTo_2 rfl (lv_at hl 1 rfl) ?_
  obtain ⟨q_3, hc_3, hf⟩ := op_bind hf
  refine g_callVi (As := [.int p1]) (rest := [.ref h0]) (w2 := (w2 cy h0 h1 a0 s0) ++ (w5 cy h1 a1 s1)) ⟨hx, hb, hml, hown, hts⟩ (c_X2_behindCuts l D cy h0 a0 s0 h1 a1 s1 _ fu p1 _ hc_3) (cwV 1 hts (gi_V ml_RX2_37 im_X2_behindCuts se_X2_behindCuts in_RX2 cd_X2_behindCuts) rfl rfl rfl hdX2_behindCuts ⟨Nat.le_of_ble_eq_true rfl, Nat.le_of_ble_eq_true rfl⟩) (va_recv hK hP (ci := 2) (q0 := 0) rfl rfl) rfl hl.1 rfl (Nat.le_of_ble_eq_true rfl) dX2_goTo_3 hK hP hD hS hA [0, 1, 2, 3, 4, 5, 6, 7, 8, 9, 10] [] [0, 1, 2, 3, 4, 5, 6, 7, 8, 9, 10] rfl rfl rfl rfl (by decide) rfl rfl (fun H locs hP hD hS => ?_)
  refine va_put (ci := 2) (v := .int q_3) (ty := tyX2 0) (C := RX2) (T := TX2) (N := 6) hx hb hts (fun w h => List.mem_cons_of_mem _ (inX2 w h)) tyX2 tyX2_ok nmX2 hown hK hP hD hS 0 rfl rfl 0 (by decide) hk_27 (fun _ h9 => h9) rfl (tyX2_ok 0 (by decide)) rfl rfl (Nat.le_of_ble_eq_true rfl) dX2_goTo_6 (fun H locs hP hD hS => ?_)
  have hP : va_P D vwCl ((w2 cy h0 h1 a0 (sF s0 0 q_3)) ++ (w5 cy h1 a1 s1)) H := hP
  have hD : va_D A ((w2 cy h0 h1 a0 (sF s0 0 q_3)) ++ (w5 cy h1 a1 s1)) := hD
  refine lv_aload_n hx hb dX2_goTo_9 rfl (lv_at hl 0 rfl) ?_
  refine lv_iconst (v := 0) hx hb dX2_goTo_10 (by decide) ?_
  refine va_put (ci := 2) (v := .int 0) (ty := tyX2 2) (C := RX2) (T := TX2) (N := 6) hx hb hts (fun w h => List.mem_cons_of_mem _ (inX2 w h)) tyX2 tyX2_ok nmX2 hown hK hP hD hS 0 rfl rfl 2 (by decide) hk_30 (fun _ h9 => h9) rfl (tyX2_ok 2 (by decide)) rfl rfl (Nat.le_of_ble_eq_true rfl) dX2_goTo_11 (fun H locs hP hD hS => ?_)
  have hP : va_P D vwCl ((w2 cy h0 h1 a0 (sF (sF s0 0 q_3) 2 0)) ++ (w5 cy h1 a1 s1)) H := hP
  have hD : va_D A ((w2 cy h0 h1 a0 (sF (sF s0 0 q_3) 2 0)) ++ (w5 cy h1 a1 s1)) := hD
  rw [← Option.some.inj hf]
  exact g_vret hx hb hr hlk hK hP hD hS dX2_goTo_14
def f_X2_lead (fu : Nat) (s1 : St) (s0 : St) (p1 : Int32) (p2 : Int32) : Option (St) := (f_X2_goTo fu s1 s0 p1).bind (fun q_2 => if isB p2 = true then (some (sF q_2 1 p2)) else none)
theorem hdX2_lead : yX2_lead.cls = RX2 ∧ yX2_lead.cls ≠ "java/lang/invoke/MethodHandle" ∧ yX2_lead.cls ≠ "java/lang/invoke/VarHandle" ∧ (parseMethodDescriptor yX2_lead.desc).map (fun d => d.parameters.length) = some 2 := by decide +kernel
set_option maxHeartbeats 4000000 in
set_option maxRecDepth 100000 in
theorem c_X2_lead (l : Launch) (D : va_G) (cy : Nat → ClassId) (h0 : Nat) (a0 : Nat → Nat) (s0 : St) (h1 : Nat) (a1 : Nat → Nat) (s1 : St) (sz fu : Nat) (p1 : Int32) (p2 : Int32) (out : St) (hf : f_X2_lead fu s1 s0 p1 p2 = some out) :
    Met l yX2_lead (WS yX2_lead cX2_lead 3 none) ({ frames := 4, cells := 0, slots := 0, locals := 88 } : Room) (va_Pc [.ref h0, .int p1, .int p2] (gP D cy sz ((w2 cy h0 h1 a0 s0) ++ (w5 cy h1 a1 s1)))) ((fun A : Nat → Prop => gQv D cy A ((w2 cy h0 h1 a0 out) ++ (w5 cy h1 a1 s1))) (va_A ((w2 cy h0 h1 a0 s0) ++ (w5 cy h1 a1 s1)) sz)) 0 0 (va_A ((w2 cy h0 h1 a0 s0) ++ (w5 cy h1 a1 s1)) sz) := by
  refine g_met (cc := cX2_lead) (maxL := 3) (ret := none) (fun A : Nat → Prop => gQv D cy A ((w2 cy h0 h1 a0 out) ++ (w5 cy h1 a1 s1))) (by decide +kernel) rfl (Nat.le_of_ble_eq_true rfl) ?_
  intro p e s m below meth c A C hA hK hP hD ls hl
  obtain ⟨hx, hb, hr, hml, hown, hts, hlk⟩ := id C
  have hown : s.vm.findClass RX2 = some m.cls := hown
  have hS : va_S A s.heap s.heap [] := va_S.rf
  have hl : lv_has ls 3 [(0, .ref h0), (1, .int p1), (2, .int p2)] := hl
  have hk_9 := hts _ (List.mem_cons_of_mem _ fl_RX2_9)
  unfold f_X2_lead at hf
  refine lv_aload_n hx hb dX2_lead_0 rfl (lv_at hl 0 rfl) ?_
  refine lv_iload_n hx hb dX2_lead_1 rfl (lv_at hl 1 rfl) ?_
  obtain ⟨q_2, hc_2, hf⟩ := op_bind hf
  refine g_callVv (As := [.int p1]) (rest := []) (w2 := (w2 cy h0 h1 a0 q_2) ++ (w5 cy h1 a1 s1)) ⟨hx, hb, hml, hown, hts⟩ (c_X2_goTo l D cy h0 a0 s0 h1 a1 s1 _ fu p1 _ hc_2) (cwV 1 hts (gi_V ml_RX2_33 im_X2_goTo se_X2_goTo in_RX2 cd_X2_goTo) rfl rfl rfl hdX2_goTo ⟨Nat.le_of_ble_eq_true rfl, Nat.le_of_ble_eq_true rfl⟩) (va_recv hK hP (ci := 2) (q0 := 0) rfl rfl) rfl hl.1 rfl (Nat.le_of_ble_eq_true rfl) dX2_lead_2 hK hP hD hS hA [0, 1, 2, 3, 4, 5, 6, 7, 8, 9, 10] [] [0, 1, 2, 3, 4, 5, 6, 7, 8, 9, 10] rfl rfl rfl rfl (by decide) rfl rfl (fun H locs hP hD hS => ?_)
  refine lv_aload_n hx hb dX2_lead_5 rfl (lv_at hl 0 rfl) ?_
  refine lv_iload_n hx hb dX2_lead_6 rfl (lv_at hl 2 rfl) ?_
  obtain ⟨hg_7, hf⟩ := op_if hf
  refine va_put (ci := 2) (v := .int p2) (ty := tyX2 1) (C := RX2) (T := TX2) (N := 6) hx hb hts (fun w h => List.mem_cons_of_mem _ (inX2 w h)) tyX2 tyX2_ok nmX2 hown hK hP hD hS 0 rfl rfl 1 (by decide) hk_9 (fun _ h9 => h9) rfl (tyX2_ok 1 (by decide)) (isB_n hg_7) (isB_f hg_7) (Nat.le_of_ble_eq_true rfl) dX2_lead_7 (fun H locs hP hD hS => ?_)
  have hP : va_P D vwCl ((w2 cy h0 h1 a0 (sF q_2 1 p2)) ++ (w5 cy h1 a1 s1)) H := hP
  have hD : va_D A ((w2 cy h0 h1 a0 (sF q_2 1 p2)) ++ (w5 cy h1 a1 s1)) := hD
  rw [← Option.some.inj hf]
  exact g_vret hx hb hr hlk hK hP hD hS dX2_lead_10
def f_X2_hear_L88  (fu : Nat) (s1 : St) (u0 : St) (t0 : Int32) : Option (St) := if isB t0 = true then (some (sF u0 1 t0)) else none
set_option maxHeartbeats 4000000 in
set_option maxRecDepth 100000 in
theorem b_X2_hear_L88 {p : Program} {e : Env} {s : State} {m : MethodId} {args : Array Value} {below : List Frame} {meth : Method} {c : Code} {A : Nat → Prop} (l : Launch) (D : va_G) (cy : Nat → ClassId) (h0 : Nat) (a0 : Nat → Nat) (h1 : Nat) (a1 : Nat → Nat) (s1 : St) (fu : Nat) (out : St) (C : gC p s m args meth c (WS yX2_hear cX2_hear 2 none) cX2_hear 2 none RX2) (hA : ∀ q : Nat, s.heap.size ≤ q → A q) (hK : va_K D vwCl (TY cy) s)  :
    ∀ (u0 : St) (t0 : Int32), f_X2_hear_L88 fu s1 u0 t0 = some out → ∀ (H : Heap) (locs : List Loc) (ls : Array Slot), va_P D vwCl ((w2 cy h0 h1 a0 u0) ++ (w5 cy h1 a1 s1)) H → va_D A ((w2 cy h0 h1 a0 u0) ++ (w5 cy h1 a1 s1)) → va_S A s.heap H locs → lv_has ls 2 [] → W p l e ({ frames := 4, cells := 0, slots := 0, locals := 88 } : Room) s m args below meth c H locs 0 0 (MQ below (gQv D cy A ((w2 cy h0 h1 a0 out) ++ (w5 cy h1 a1 s1))) args s 0 0 A) (F0 m 88 ls [.int t0, .ref h0]) := by
  obtain ⟨hx, hb, hr, hml, hown, hts, hlk⟩ := id C
  have hown : s.vm.findClass RX2 = some m.cls := hown
  have hk_9 := hts _ (List.mem_cons_of_mem _ fl_RX2_9)
  intro u0 t0 hf H locs ls hP hD hS hl
  unfold f_X2_hear_L88 at hf
  obtain ⟨hg_88, hf⟩ := op_if hf
  refine va_put (ci := 2) (v := .int t0) (ty := tyX2 1) (C := RX2) (T := TX2) (N := 6) hx hb hts (fun w h => List.mem_cons_of_mem _ (inX2 w h)) tyX2 tyX2_ok nmX2 hown hK hP hD hS 0 rfl rfl 1 (by decide) hk_9 (fun _ h9 => h9) rfl (tyX2_ok 1 (by decide)) (isB_n hg_88) (isB_f hg_88) (Nat.le_of_ble_eq_true rfl) dX2_hear_88 (fun H locs hP hD hS => ?_)
  have hP : va_P D vwCl ((w2 cy h0 h1 a0 (sF u0 1 t0)) ++ (w5 cy h1 a1 s1)) H := hP
  have hD : va_D A ((w2 cy h0 h1 a0 (sF u0 1 t0)) ++ (w5 cy h1 a1 s1)) := hD
  rw [← Option.some.inj hf]
  exact g_vret hx hb hr hlk hK hP hD hS dX2_hear_91
def f_X2_hear_L59  (fu : Nat) (s1 : St) (u0 : St) (x1 : Int32) : Option (St) := if 3 ≤ ((u0.1 2) + 1) then (f_X2_hear_L88 fu s1 (sF (sF u0 2 ((u0.1 2) + 1)) 3 x1) 0) else (f_X2_hear_L88 fu s1 (sF (sF u0 2 ((u0.1 2) + 1)) 3 x1) 1)
set_option maxHeartbeats 4000000 in
set_option maxRecDepth 100000 in
theorem b_X2_hear_L59 {p : Program} {e : Env} {s : State} {m : MethodId} {args : Array Value} {below : List Frame} {meth : Method} {c : Code} {A : Nat → Prop} (l : Launch) (D : va_G) (cy : Nat → ClassId) (h0 : Nat) (a0 : Nat → Nat) (h1 : Nat) (a1 : Nat → Nat) (s1 : St) (fu : Nat) (out : St) (C : gC p s m args meth c (WS yX2_hear cX2_hear 2 none) cX2_hear 2 none RX2) (hA : ∀ q : Nat, s.heap.size ≤ q → A q) (hK : va_K D vwCl (TY cy) s)  :
    ∀ (u0 : St) (x1 : Int32), f_X2_hear_L59 fu s1 u0 x1 = some out → ∀ (H : Heap) (locs : List Loc) (ls : Array Slot), va_P D vwCl ((w2 cy h0 h1 a0 u0) ++ (w5 cy h1 a1 s1)) H → va_D A ((w2 cy h0 h1 a0 u0) ++ (w5 cy h1 a1 s1)) → va_S A s.heap H locs → lv_has ls 2 [(0, .ref h0), (1, .int x1)] → W p l e ({ frames := 4, cells := 0, slots := 0, locals := 88 } : Room) s m args below meth c H locs 0 0 (MQ below (gQv D cy A ((w2 cy h0 h1 a0 out) ++ (w5 cy h1 a1 s1))) args s 0 0 A) (F0 m 59 ls []) := by
  obtain ⟨hx, hb, hr, hml, hown, hts, hlk⟩ := id C
  have hown : s.vm.findClass RX2 = some m.cls := hown
  have hk_30 := hts _ (List.mem_cons_of_mem _ fl_RX2_30)
  have hk_15 := hts _ (List.mem_cons_of_mem _ fl_RX2_15)
  intro u0 x1 hf H locs ls hP hD hS hl
  unfold f_X2_hear_L59 at hf
  refine lv_aload_n hx hb dX2_hear_59 rfl (lv_at hl 0 rfl) ?_
  refine lv_dup hx hb dX2_hear_60 rfl ?_
  refine va_get (ci := 2) (v := .int (u0.1 2)) (C := RX2) (T := TX2) (N := 6) hx hb hts (fun w h => List.mem_cons_of_mem _ (inX2 w h)) hown hK hP 0 rfl rfl 2 (by decide) hk_30 (fun _ h9 => h9) rfl dX2_hear_61 ?_
  refine lv_iconst (v := 1) hx hb dX2_hear_64 (by decide) ?_
  refine lv_iadd hx hb dX2_hear_65 ?_
  refine va_put (ci := 2) (v := .int ((u0.1 2) + 1)) (ty := tyX2 2) (C := RX2) (T := TX2) (N := 6) hx hb hts (fun w h => List.mem_cons_of_mem _ (inX2 w h)) tyX2 tyX2_ok nmX2 hown hK hP hD hS 0 rfl rfl 2 (by decide) hk_30 (fun _ h9 => h9) rfl (tyX2_ok 2 (by decide)) rfl rfl (Nat.le_of_ble_eq_true rfl) dX2_hear_66 (fun H locs hP hD hS => ?_)
  have hP : va_P D vwCl ((w2 cy h0 h1 a0 (sF u0 2 ((u0.1 2) + 1))) ++ (w5 cy h1 a1 s1)) H := hP
  have hD : va_D A ((w2 cy h0 h1 a0 (sF u0 2 ((u0.1 2) + 1))) ++ (w5 cy h1 a1 s1)) := hD
  refine lv_aload_n hx hb dX2_hear_69 rfl (lv_at hl 0 rfl) ?_
  refine lv_iload_n hx hb dX2_hear_70 rfl (lv_at hl 1 rfl) ?_
  refine va_put (ci := 2) (v := .int x1) (ty := tyX2 3) (C := RX2) (T := TX2) (N := 6) hx hb hts (fun w h => List.mem_cons_of_mem _ (inX2 w h)) tyX2 tyX2_ok nmX2 hown hK hP hD hS 0 rfl rfl 3 (by decide) hk_15 (fun _ h9 => h9) rfl (tyX2_ok 3 (by decide)) rfl rfl (Nat.le_of_ble_eq_true rfl) dX2_hear_71 (fun H locs hP hD hS => ?_)
  have hP : va_P D vwCl ((w2 cy h0 h1 a0 (sF (sF u0 2 ((u0.1 2) + 1)) 3 x1)) ++ (w5 cy h1 a1 s1)) H := hP
  have hD : va_D A ((w2 cy h0 h1 a0 (sF (sF u0 2 ((u0.1 2) + 1)) 3 x1)) ++ (w5 cy h1 a1 s1)) := hD
  refine lv_aload_n hx hb dX2_hear_74 rfl (lv_at hl 0 rfl) ?_
  refine lv_aload_n hx hb dX2_hear_75 rfl (lv_at hl 0 rfl) ?_
  refine va_get (ci := 2) (v := .int ((u0.1 2) + 1)) (C := RX2) (T := TX2) (N := 6) hx hb hts (fun w h => List.mem_cons_of_mem _ (inX2 w h)) hown hK hP 0 rfl rfl 2 (by decide) hk_30 (fun _ h9 => h9) rfl dX2_hear_76 ?_
  refine lv_iconst (v := 3) hx hb dX2_hear_79 (by decide) ?_
  refine lv_icmp_ge (tgt := 87) hx hb dX2_hear_80 (by decide) (fun c_80 => ?_) (fun c_80 => ?_)
  · have hf := op_pos c_80 hf
    refine lv_iconst (v := 0) hx hb dX2_hear_87 (by decide) ?_
    exact b_X2_hear_L88 l D cy h0 a0 h1 a1 s1 fu out C hA hK (sF (sF u0 2 ((u0.1 2) + 1)) 3 x1) 0 hf _ _ ls hP hD hS (lv_sub hl [] rfl)
  · have hf := op_neg c_80 hf
    refine lv_iconst (v := 1) hx hb dX2_hear_83 (by decide) ?_
    refine lv_goto (tgt := 88) hx hb dX2_hear_84 (by decide) ?_
    exact b_X2_hear_L88 l D cy h0 a0 h1 a1 s1 fu out C hA hK (sF (sF u0 2 ((u0.1 2) + 1)) 3 x1) 1 hf _ _ ls hP hD hS (lv_sub hl [] rfl)
def f_X2_hear_L26  (fu : Nat) (s1 : St) (u0 : St) (x1 : Int32) : Option (St) := if (u0.1 2) ≤ 0 then (f_X2_hear_L59 fu s1 u0 x1) else (if x1 = ((u0.1 3) + 1) then (if x1 ≤ (u0.1 0) then (f_X2_hear_L59 fu s1 u0 x1) else ((f_X2_goTo fu s1 u0 x1).bind (fun q_53 => some q_53))) else (f_X2_hear_L59 fu s1 u0 x1))
set_option maxHeartbeats 4000000 in
set_option maxRecDepth 100000 in
theorem b_X2_hear_L26 {p : Program} {e : Env} {s : State} {m : MethodId} {args : Array Value} {below : List Frame} {meth : Method} {c : Code} {A : Nat → Prop} (l : Launch) (D : va_G) (cy : Nat → ClassId) (h0 : Nat) (a0 : Nat → Nat) (h1 : Nat) (a1 : Nat → Nat) (s1 : St) (fu : Nat) (out : St) (C : gC p s m args meth c (WS yX2_hear cX2_hear 2 none) cX2_hear 2 none RX2) (hA : ∀ q : Nat, s.heap.size ≤ q → A q) (hK : va_K D vwCl (TY cy) s)  :
    ∀ (u0 : St) (x1 : Int32), f_X2_hear_L26 fu s1 u0 x1 = some out → ∀ (H : Heap) (locs : List Loc) (ls : Array Slot), va_P D vwCl ((w2 cy h0 h1 a0 u0) ++ (w5 cy h1 a1 s1)) H → va_D A ((w2 cy h0 h1 a0 u0) ++ (w5 cy h1 a1 s1)) → va_S A s.heap H locs → lv_has ls 2 [(0, .ref h0), (1, .int x1)] → W p l e ({ frames := 4, cells := 0, slots := 0, locals := 88 } : Room) s m args below meth c H locs 0 0 (MQ below (gQv D cy A ((w2 cy h0 h1 a0 out) ++ (w5 cy h1 a1 s1))) args s 0 0 A) (F0 m 26 ls []) := by
  obtain ⟨hx, hb, hr, hml, hown, hts, hlk⟩ := id C
  have hown : s.vm.findClass RX2 = some m.cls := hown
  have hk_30 := hts _ (List.mem_cons_of_mem _ fl_RX2_30)
  have hk_15 := hts _ (List.mem_cons_of_mem _ fl_RX2_15)
  have hk_27 := hts _ (List.mem_cons_of_mem _ fl_RX2_27)
  intro u0 x1 hf H locs ls hP hD hS hl
  unfold f_X2_hear_L26 at hf
  refine lv_aload_n hx hb dX2_hear_26 rfl (lv_at hl 0 rfl) ?_
  refine va_get (ci := 2) (v := .int (u0.1 2)) (C := RX2) (T := TX2) (N := 6) hx hb hts (fun w h => List.mem_cons_of_mem _ (inX2 w h)) hown hK hP 0 rfl rfl 2 (by decide) hk_30 (fun _ h9 => h9) rfl dX2_hear_27 ?_
  refine lv_if_le (tgt := 59) hx hb dX2_hear_30 (by decide) (fun c_30 => ?_) (fun c_30 => ?_)
  · have hf := op_pos c_30 hf
    exact b_X2_hear_L59 l D cy h0 a0 h1 a1 s1 fu out C hA hK u0 x1 hf _ _ ls hP hD hS (lv_sub hl [0, 1] rfl)
  · have hf := op_neg c_30 hf
    refine lv_iload_n hx hb dX2_hear_33 rfl (lv_at hl 1 rfl) ?_
    refine lv_aload_n hx hb dX2_hear_34 rfl (lv_at hl 0 rfl) ?_
    refine va_get (ci := 2) (v := .int (u0.1 3)) (C := RX2) (T := TX2) (N := 6) hx hb hts (fun w h => List.mem_cons_of_mem _ (inX2 w h)) hown hK hP 0 rfl rfl 3 (by decide) hk_15 (fun _ h9 => h9) rfl dX2_hear_35 ?_
    refine lv_iconst (v := 1) hx hb dX2_hear_38 (by decide) ?_
    refine lv_iadd hx hb dX2_hear_39 ?_
    refine lv_icmp_ne (tgt := 59) hx hb dX2_hear_40 (by decide) (fun c_40 => ?_) (fun c_40 => ?_)
    · have hf := op_neg c_40 hf
      exact b_X2_hear_L59 l D cy h0 a0 h1 a1 s1 fu out C hA hK u0 x1 hf _ _ ls hP hD hS (lv_sub hl [0, 1] rfl)
    · have hf := op_pos c_40 hf
      refine lv_iload_n hx hb dX2_hear_43 rfl (lv_at hl 1 rfl) ?_
      refine lv_aload_n hx hb dX2_hear_44 rfl (lv_at hl 0 rfl) ?_
      refine va_get (ci := 2) (v := .int (u0.1 0)) (C := RX2) (T := TX2) (N := 6) hx hb hts (fun w h => List.mem_cons_of_mem _ (inX2 w h)) hown hK hP 0 rfl rfl 0 (by decide) hk_27 (fun _ h9 => h9) rfl dX2_hear_45 ?_
      refine lv_icmp_le (tgt := 59) hx hb dX2_hear_48 (by decide) (fun c_48 => ?_) (fun c_48 => ?_)
      · have hf := op_pos c_48 hf
        exact b_X2_hear_L59 l D cy h0 a0 h1 a1 s1 fu out C hA hK u0 x1 hf _ _ ls hP hD hS (lv_sub hl [0, 1] rfl)
      · have hf := op_neg c_48 hf
        refine lv_aload_n hx hb dX2_hear_51 rfl (lv_at hl 0 rfl) ?_
        refine lv_iload_n hx hb dX2_hear_52 rfl (lv_at hl 1 rfl) ?_
        obtain ⟨q_53, hc_53, hf⟩ := op_bind hf
        refine g_callVv (As := [.int x1]) (rest := []) (w2 := (w2 cy h0 h1 a0 q_53) ++ (w5 cy h1 a1 s1)) ⟨hx, hb, hml, hown, hts⟩ (c_X2_goTo l D cy h0 a0 u0 h1 a1 s1 _ fu x1 _ hc_53) (cwV 1 hts (gi_V ml_RX2_33 im_X2_goTo se_X2_goTo in_RX2 cd_X2_goTo) rfl rfl rfl hdX2_goTo ⟨Nat.le_of_ble_eq_true rfl, Nat.le_of_ble_eq_true rfl⟩) (va_recv hK hP (ci := 2) (q0 := 0) rfl rfl) rfl hl.1 rfl (Nat.le_of_ble_eq_true rfl) dX2_hear_53 hK hP hD hS hA [0, 1, 2, 3, 4, 5, 6, 7, 8, 9, 10] [] [0, 1, 2, 3, 4, 5, 6, 7, 8, 9, 10] rfl rfl rfl rfl (by decide) rfl rfl (fun H locs hP hD hS => ?_)
        refine lv_goto (tgt := 91) hx hb dX2_hear_56 (by decide) ?_
        rw [← Option.some.inj hf]
        exact g_vret hx hb hr hlk hK hP hD hS dX2_hear_91
def f_X2_hear (fu : Nat) (s1 : St) (s0 : St) (p1 : Int32) : Option (St) := if p1 < (s0.1 0) then (f_X2_hear_L26 fu s1 s0 p1) else (if ((s0.1 0) + 4) < p1 then (f_X2_hear_L26 fu s1 s0 p1) else ((f_X2_goTo fu s1 s0 p1).bind (fun q_20 => some q_20)))
theorem hdX2_hear : yX2_hear.cls = RX2 ∧ yX2_hear.cls ≠ "java/lang/invoke/MethodHandle" ∧ yX2_hear.cls ≠ "java/lang/invoke/VarHandle" ∧ (parseMethodDescriptor yX2_hear.desc).map (fun d => d.parameters.length) = some 1 := by decide +kernel
set_option maxHeartbeats 4000000 in
set_option maxRecDepth 100000 in
theorem c_X2_hear (l : Launch) (D : va_G) (cy : Nat → ClassId) (h0 : Nat) (a0 : Nat → Nat) (s0 : St) (h1 : Nat) (a1 : Nat → Nat) (s1 : St) (sz fu : Nat) (p1 : Int32) (out : St) (hf : f_X2_hear fu s1 s0 p1 = some out) :
    Met l yX2_hear (WS yX2_hear cX2_hear 2 none) ({ frames := 4, cells := 0, slots := 0, locals := 88 } : Room) (va_Pc [.ref h0, .int p1] (gP D cy sz ((w2 cy h0 h1 a0 s0) ++ (w5 cy h1 a1 s1)))) ((fun A : Nat → Prop => gQv D cy A ((w2 cy h0 h1 a0 out) ++ (w5 cy h1 a1 s1))) (va_A ((w2 cy h0 h1 a0 s0) ++ (w5 cy h1 a1 s1)) sz)) 0 0 (va_A ((w2 cy h0 h1 a0 s0) ++ (w5 cy h1 a1 s1)) sz) := by
  refine g_met (cc := cX2_hear) (maxL := 2) (ret := none) (fun A : Nat → Prop => gQv D cy A ((w2 cy h0 h1 a0 out) ++ (w5 cy h1 a1 s1))) (by decide +kernel) rfl (Nat.le_of_ble_eq_true rfl) ?_
  intro p e s m below meth c A C hA hK hP hD ls hl
  obtain ⟨hx, hb, hr, hml, hown, hts, hlk⟩ := id C
  have hown : s.vm.findClass RX2 = some m.cls := hown
  have hS : va_S A s.heap s.heap [] := va_S.rf
  have hl : lv_has ls 2 [(0, .ref h0), (1, .int p1)] := hl
  have hk_27 := hts _ (List.mem_cons_of_mem _ fl_RX2_27)
  unfold f_X2_hear at hf
  refine lv_iload_n hx hb dX2_hear_0 rfl (lv_at hl 1 rfl) ?_
  refine lv_aload_n hx hb dX2_hear_1 rfl (lv_at hl 0 rfl) ?_
  refine va_get (ci := 2) (v := .int (s0.1 0)) (C := RX2) (T := TX2) (N := 6) hx hb hts (fun w h => List.mem_cons_of_mem _ (inX2 w h)) hown hK hP 0 rfl rfl 0 (by decide) hk_27 (fun _ h9 => h9) rfl dX2_hear_2 ?_
  refine lv_icmp_lt (tgt := 26) hx hb dX2_hear_5 (by decide) (fun c_5 => ?_) (fun c_5 => ?_)
  · have hf := op_pos c_5 hf
    exact b_X2_hear_L26 l D cy h0 a0 h1 a1 s1 fu out C hA hK s0 p1 hf _ _ ls hP hD hS (lv_sub hl [0, 1] rfl)
  · have hf := op_neg c_5 hf
    refine lv_iload_n hx hb dX2_hear_8 rfl (lv_at hl 1 rfl) ?_
    refine lv_aload_n hx hb dX2_hear_9 rfl (lv_at hl 0 rfl) ?_
    refine va_get (ci := 2) (v := .int (s0.1 0)) (C := RX2) (T := TX2) (N := 6) hx hb hts (fun w h => List.mem_cons_of_mem _ (inX2 w h)) hown hK hP 0 rfl rfl 0 (by decide) hk_27 (fun _ h9 => h9) rfl dX2_hear_10 ?_
    refine lv_iconst (v := 4) hx hb dX2_hear_13 (by decide) ?_
    refine lv_iadd hx hb dX2_hear_14 ?_
    refine lv_icmp_gt (tgt := 26) hx hb dX2_hear_15 (by decide) (fun c_15 => ?_) (fun c_15 => ?_)
    · have hf := op_pos c_15 hf
      exact b_X2_hear_L26 l D cy h0 a0 h1 a1 s1 fu out C hA hK s0 p1 hf _ _ ls hP hD hS (lv_sub hl [0, 1] rfl)
    · have hf := op_neg c_15 hf
      refine lv_aload_n hx hb dX2_hear_18 rfl (lv_at hl 0 rfl) ?_
      refine lv_iload_n hx hb dX2_hear_19 rfl (lv_at hl 1 rfl) ?_
      obtain ⟨q_20, hc_20, hf⟩ := op_bind hf
      refine g_callVv (As := [.int p1]) (rest := []) (w2 := (w2 cy h0 h1 a0 q_20) ++ (w5 cy h1 a1 s1)) ⟨hx, hb, hml, hown, hts⟩ (c_X2_goTo l D cy h0 a0 s0 h1 a1 s1 _ fu p1 _ hc_20) (cwV 1 hts (gi_V ml_RX2_33 im_X2_goTo se_X2_goTo in_RX2 cd_X2_goTo) rfl rfl rfl hdX2_goTo ⟨Nat.le_of_ble_eq_true rfl, Nat.le_of_ble_eq_true rfl⟩) (va_recv hK hP (ci := 2) (q0 := 0) rfl rfl) rfl hl.1 rfl (Nat.le_of_ble_eq_true rfl) dX2_hear_20 hK hP hD hS hA [0, 1, 2, 3, 4, 5, 6, 7, 8, 9, 10] [] [0, 1, 2, 3, 4, 5, 6, 7, 8, 9, 10] rfl rfl rfl rfl (by decide) rfl rfl (fun H locs hP hD hS => ?_)
      refine lv_goto (tgt := 91) hx hb dX2_hear_23 (by decide) ?_
      rw [← Option.some.inj hf]
      exact g_vret hx hb hr hlk hK hP hD hS dX2_hear_91
def f_X2_switchCut (fu : Nat) (s1 : St) (s0 : St) (p1 : Int32) (p2 : Int32) : Option (St) := if p1 < 0 then (some s0) else (if 8 ≤ p1 then (some s0) else (if inb p1 8 = true then (if isB p2 = true then ((f_X2_behindCuts fu (sA s0 4 p1.toNatClampNeg p2) s1 (s0.1 0)).bind (fun q_23 => some (sF (sA s0 4 p1.toNatClampNeg p2) 0 q_23))) else none) else none))
theorem hdX2_switchCut : yX2_switchCut.cls = RX2 ∧ yX2_switchCut.cls ≠ "java/lang/invoke/MethodHandle" ∧ yX2_switchCut.cls ≠ "java/lang/invoke/VarHandle" ∧ (parseMethodDescriptor yX2_switchCut.desc).map (fun d => d.parameters.length) = some 2 := by decide +kernel
set_option maxHeartbeats 4000000 in
set_option maxRecDepth 100000 in
theorem c_X2_switchCut (l : Launch) (D : va_G) (cy : Nat → ClassId) (h0 : Nat) (a0 : Nat → Nat) (s0 : St) (h1 : Nat) (a1 : Nat → Nat) (s1 : St) (sz fu : Nat) (p1 : Int32) (p2 : Int32) (out : St) (hf : f_X2_switchCut fu s1 s0 p1 p2 = some out) :
    Met l yX2_switchCut (WS yX2_switchCut cX2_switchCut 3 none) ({ frames := 3, cells := 0, slots := 0, locals := 67 } : Room) (va_Pc [.ref h0, .int p1, .int p2] (gP D cy sz ((w2 cy h0 h1 a0 s0) ++ (w5 cy h1 a1 s1)))) ((fun A : Nat → Prop => gQv D cy A ((w2 cy h0 h1 a0 out) ++ (w5 cy h1 a1 s1))) (va_A ((w2 cy h0 h1 a0 s0) ++ (w5 cy h1 a1 s1)) sz)) 0 0 (va_A ((w2 cy h0 h1 a0 s0) ++ (w5 cy h1 a1 s1)) sz) := by
  refine g_met (cc := cX2_switchCut) (maxL := 3) (ret := none) (fun A : Nat → Prop => gQv D cy A ((w2 cy h0 h1 a0 out) ++ (w5 cy h1 a1 s1))) (by decide +kernel) rfl (Nat.le_of_ble_eq_true rfl) ?_
  intro p e s m below meth c A C hA hK hP hD ls hl
  obtain ⟨hx, hb, hr, hml, hown, hts, hlk⟩ := id C
  have hown : s.vm.findClass RX2 = some m.cls := hown
  have hS : va_S A s.heap s.heap [] := va_S.rf
  have hl : lv_has ls 3 [(0, .ref h0), (1, .int p1), (2, .int p2)] := hl
  have hk_19 := hts _ (List.mem_cons_of_mem _ fl_RX2_19)
  have hk_27 := hts _ (List.mem_cons_of_mem _ fl_RX2_27)
  unfold f_X2_switchCut at hf
  refine lv_iload_n hx hb dX2_switchCut_0 rfl (lv_at hl 1 rfl) ?_
  refine lv_if_lt (tgt := 29) hx hb dX2_switchCut_1 (by decide) (fun c_1 => ?_) (fun c_1 => ?_)
  · have hf := op_pos c_1 hf
    rw [← Option.some.inj hf]
    exact g_vret hx hb hr hlk hK hP hD hS dX2_switchCut_29
  · have hf := op_neg c_1 hf
    refine lv_iload_n hx hb dX2_switchCut_4 rfl (lv_at hl 1 rfl) ?_
    refine lv_bipush (v := 8) hx hb dX2_switchCut_5 (by decide) ?_
    refine lv_icmp_ge (tgt := 29) hx hb dX2_switchCut_7 (by decide) (fun c_7 => ?_) (fun c_7 => ?_)
    · have hf := op_pos c_7 hf
      rw [← Option.some.inj hf]
      exact g_vret hx hb hr hlk hK hP hD hS dX2_switchCut_29
    · have hf := op_neg c_7 hf
      refine lv_aload_n hx hb dX2_switchCut_10 rfl (lv_at hl 0 rfl) ?_
      refine va_get (ci := 2) (v := .ref (a0 4)) (C := RX2) (T := TX2) (N := 6) hx hb hts (fun w h => List.mem_cons_of_mem _ (inX2 w h)) hown hK hP 0 rfl rfl 4 (by decide) hk_19 (fun _ h9 => h9) rfl dX2_switchCut_11 ?_
      refine lv_iload_n hx hb dX2_switchCut_14 rfl (lv_at hl 1 rfl) ?_
      refine lv_iload_n hx hb dX2_switchCut_15 rfl (lv_at hl 2 rfl) ?_
      obtain ⟨hg_16, hf⟩ := op_if hf
      obtain ⟨hz_16, hf⟩ := op_if hf
      refine va_zast (f := s0.2 4) (x := p2) hx hb hK hP hD hS 1 2 rfl rfl (inb_in hg_16) dX2_switchCut_16 (fun H locs hP hD hS => ?_)
      rw [isB_v hz_16] at hP hD
      have hP : va_P D vwCl ((w2 cy h0 h1 a0 (sA s0 4 p1.toNatClampNeg p2)) ++ (w5 cy h1 a1 s1)) H := hP
      have hD : va_D A ((w2 cy h0 h1 a0 (sA s0 4 p1.toNatClampNeg p2)) ++ (w5 cy h1 a1 s1)) := hD
      refine lv_aload_n hx hb dX2_switchCut_17 rfl (lv_at hl 0 rfl) ?_
      refine lv_aload_n hx hb dX2_switchCut_18 rfl (lv_at hl 0 rfl) ?_
      refine lv_aload_n hx hb dX2_switchCut_19 rfl (lv_at hl 0 rfl) ?_
      refine va_get (ci := 2) (v := .int (s0.1 0)) (C := RX2) (T := TX2) (N := 6) hx hb hts (fun w h => List.mem_cons_of_mem _ (inX2 w h)) hown hK hP 0 rfl rfl 0 (by decide) hk_27 (fun _ h9 => h9) rfl dX2_switchCut_20 ?_
      obtain ⟨q_23, hc_23, hf⟩ := op_bind hf
      refine g_callVi (As := [.int (s0.1 0)]) (rest := [.ref h0]) (w2 := (w2 cy h0 h1 a0 (sA s0 4 p1.toNatClampNeg p2)) ++ (w5 cy h1 a1 s1)) ⟨hx, hb, hml, hown, hts⟩ (c_X2_behindCuts l D cy h0 a0 (sA s0 4 p1.toNatClampNeg p2) h1 a1 s1 _ fu (s0.1 0) _ hc_23) (cwV 1 hts (gi_V ml_RX2_37 im_X2_behindCuts se_X2_behindCuts in_RX2 cd_X2_behindCuts) rfl rfl rfl hdX2_behindCuts ⟨Nat.le_of_ble_eq_true rfl, Nat.le_of_ble_eq_true rfl⟩) (va_recv hK hP (ci := 2) (q0 := 0) rfl rfl) rfl hl.1 rfl (Nat.le_of_ble_eq_true rfl) dX2_switchCut_23 hK hP hD hS hA [0, 1, 2, 3, 4, 5, 6, 7, 8, 9, 10] [] [0, 1, 2, 3, 4, 5, 6, 7, 8, 9, 10] rfl rfl rfl rfl (by decide) rfl rfl (fun H locs hP hD hS => ?_)
      refine va_put (ci := 2) (v := .int q_23) (ty := tyX2 0) (C := RX2) (T := TX2) (N := 6) hx hb hts (fun w h => List.mem_cons_of_mem _ (inX2 w h)) tyX2 tyX2_ok nmX2 hown hK hP hD hS 0 rfl rfl 0 (by decide) hk_27 (fun _ h9 => h9) rfl (tyX2_ok 0 (by decide)) rfl rfl (Nat.le_of_ble_eq_true rfl) dX2_switchCut_26 (fun H locs hP hD hS => ?_)
      have hP : va_P D vwCl ((w2 cy h0 h1 a0 (sF (sA s0 4 p1.toNatClampNeg p2) 0 q_23)) ++ (w5 cy h1 a1 s1)) H := hP
      have hD : va_D A ((w2 cy h0 h1 a0 (sF (sA s0 4 p1.toNatClampNeg p2) 0 q_23)) ++ (w5 cy h1 a1 s1)) := hD
      rw [← Option.some.inj hf]
      exact g_vret hx hb hr hlk hK hP hD hS dX2_switchCut_29
def f_X2_start_L7  (fu : Nat) (s1 : St) : Nat → St → Int32 → Option (St)
  | 0, _, _ => none
  | n_7 + 1, u0, x2 => if 8 ≤ x2 then (some (sF (sF (sF u0 0 0) 2 0) 1 1)) else (if inb x2 8 = true then (f_X2_start_L7 fu s1 n_7 (sA u0 4 x2.toNatClampNeg 0) (x2 + 1)) else none)
set_option maxHeartbeats 4000000 in
set_option maxRecDepth 100000 in
theorem b_X2_start_L7 {p : Program} {e : Env} {s : State} {m : MethodId} {args : Array Value} {below : List Frame} {meth : Method} {c : Code} {A : Nat → Prop} (l : Launch) (D : va_G) (cy : Nat → ClassId) (h0 : Nat) (r0_5 : Nat) (a0 : Nat → Nat) (h1 : Nat) (a1 : Nat → Nat) (s1 : St) (fu : Nat) (out : St) (C : gC p s m args meth c (WS yX2_start cX2_start 3 none) cX2_start 3 none RX2) (hA : ∀ q : Nat, s.heap.size ≤ q → A q) (hK : va_K D vwCl (TY cy) s)  :
    ∀ (n_7 : Nat), ∀ (u0 : St) (x2 : Int32), f_X2_start_L7 fu s1 n_7 u0 x2 = some out → ∀ (H : Heap) (locs : List Loc) (ls : Array Slot), va_P D vwCl ((w2 cy h0 h1 a0 u0) ++ (w5 cy h1 a1 s1)) H → va_D A ((w2 cy h0 h1 a0 u0) ++ (w5 cy h1 a1 s1)) → va_S A s.heap H locs → lv_has ls 3 [(0, .ref h0), (2, .int x2)] → W p l e ({ frames := 0, cells := 0, slots := 0, locals := 0 } : Room) s m args below meth c H locs 0 0 (MQ below (gQv D cy A ((w2 cy h0 h1 a0 out) ++ (w5 cy h1 a1 s1))) args s 0 0 A) (F0 m 7 ls []) := by
  obtain ⟨hx, hb, hr, hml, hown, hts, hlk⟩ := id C
  have hown : s.vm.findClass RX2 = some m.cls := hown
  have hk_27 := hts _ (List.mem_cons_of_mem _ fl_RX2_27)
  have hk_30 := hts _ (List.mem_cons_of_mem _ fl_RX2_30)
  have hk_9 := hts _ (List.mem_cons_of_mem _ fl_RX2_9)
  have hk_19 := hts _ (List.mem_cons_of_mem _ fl_RX2_19)
  intro n_7
  induction n_7 with
  | zero => intro u0 x2 hf; exact op_no hf
  | succ n_7 ih_7 =>
    intro u0 x2 hf H locs ls hP hD hS hl
    rw [f_X2_start_L7] at hf
    refine lv_iload_n hx hb dX2_start_7 rfl (lv_at hl 1 rfl) ?_
    refine lv_bipush (v := 8) hx hb dX2_start_8 (by decide) ?_
    refine lv_icmp_ge (tgt := 26) hx hb dX2_start_10 (by decide) (fun c_10 => ?_) (fun c_10 => ?_)
    · have hf := op_pos c_10 hf
      refine lv_aload_n hx hb dX2_start_26 rfl (lv_at hl 0 rfl) ?_
      refine lv_iconst (v := 0) hx hb dX2_start_27 (by decide) ?_
      refine va_put (ci := 2) (v := .int 0) (ty := tyX2 0) (C := RX2) (T := TX2) (N := 6) hx hb hts (fun w h => List.mem_cons_of_mem _ (inX2 w h)) tyX2 tyX2_ok nmX2 hown hK hP hD hS 0 rfl rfl 0 (by decide) hk_27 (fun _ h9 => h9) rfl (tyX2_ok 0 (by decide)) rfl rfl (Nat.le_of_ble_eq_true rfl) dX2_start_28 (fun H locs hP hD hS => ?_)
      have hP : va_P D vwCl ((w2 cy h0 h1 a0 (sF u0 0 0)) ++ (w5 cy h1 a1 s1)) H := hP
      have hD : va_D A ((w2 cy h0 h1 a0 (sF u0 0 0)) ++ (w5 cy h1 a1 s1)) := hD
      refine lv_aload_n hx hb dX2_start_31 rfl (lv_at hl 0 rfl) ?_
      refine lv_iconst (v := 0) hx hb dX2_start_32 (by decide) ?_
      refine va_put (ci := 2) (v := .int 0) (ty := tyX2 2) (C := RX2) (T := TX2) (N := 6) hx hb hts (fun w h => List.mem_cons_of_mem _ (inX2 w h)) tyX2 tyX2_ok nmX2 hown hK hP hD hS 0 rfl rfl 2 (by decide) hk_30 (fun _ h9 => h9) rfl (tyX2_ok 2 (by decide)) rfl rfl (Nat.le_of_ble_eq_true rfl) dX2_start_33 (fun H locs hP hD hS => ?_)
      have hP : va_P D vwCl ((w2 cy h0 h1 a0 (sF (sF u0 0 0) 2 0)) ++ (w5 cy h1 a1 s1)) H := hP
      have hD : va_D A ((w2 cy h0 h1 a0 (sF (sF u0 0 0) 2 0)) ++ (w5 cy h1 a1 s1)) := hD
      refine lv_aload_n hx hb dX2_start_36 rfl (lv_at hl 0 rfl) ?_
      refine lv_iconst (v := 1) hx hb dX2_start_37 (by decide) ?_
      refine va_put (ci := 2) (v := .int 1) (ty := tyX2 1) (C := RX2) (T := TX2) (N := 6) hx hb hts (fun w h => List.mem_cons_of_mem _ (inX2 w h)) tyX2 tyX2_ok nmX2 hown hK hP hD hS 0 rfl rfl 1 (by decide) hk_9 (fun _ h9 => h9) rfl (tyX2_ok 1 (by decide)) (by decide +kernel) (by decide +kernel) (Nat.le_of_ble_eq_true rfl) dX2_start_38 (fun H locs hP hD hS => ?_)
      have hP : va_P D vwCl ((w2 cy h0 h1 a0 (sF (sF (sF u0 0 0) 2 0) 1 1)) ++ (w5 cy h1 a1 s1)) H := hP
      have hD : va_D A ((w2 cy h0 h1 a0 (sF (sF (sF u0 0 0) 2 0) 1 1)) ++ (w5 cy h1 a1 s1)) := hD
      rw [← Option.some.inj hf]
      exact g_vret hx hb hr hlk hK hP hD hS dX2_start_41
    · have hf := op_neg c_10 hf
      refine lv_aload_n hx hb dX2_start_13 rfl (lv_at hl 0 rfl) ?_
      refine va_get (ci := 2) (v := .ref (a0 4)) (C := RX2) (T := TX2) (N := 6) hx hb hts (fun w h => List.mem_cons_of_mem _ (inX2 w h)) hown hK hP 0 rfl rfl 4 (by decide) hk_19 (fun _ h9 => h9) rfl dX2_start_14 ?_
      refine lv_iload_n hx hb dX2_start_17 rfl (lv_at hl 1 rfl) ?_
      refine lv_iconst (v := 0) hx hb dX2_start_18 (by decide) ?_
      obtain ⟨hg_19, hf⟩ := op_if hf
      refine va_zast (f := u0.2 4) (x := 0) hx hb hK hP hD hS 1 2 rfl rfl (inb_in hg_19) dX2_start_19 (fun H locs hP hD hS => ?_)
      rw [isB_v (show isB 0 = true by decide)] at hP hD
      have hP : va_P D vwCl ((w2 cy h0 h1 a0 (sA u0 4 x2.toNatClampNeg 0)) ++ (w5 cy h1 a1 s1)) H := hP
      have hD : va_D A ((w2 cy h0 h1 a0 (sA u0 4 x2.toNatClampNeg 0)) ++ (w5 cy h1 a1 s1)) := hD
      refine lv_iinc (v := x2 + 1) (lv' := [(2, .int (x2 + 1)), (0, .ref h0)]) hx hb dX2_start_20 hl (k := 1) rfl rfl (by decide) rfl (fun ls hl => ?_)
      refine lv_goto (tgt := 7) hx hb dX2_start_23 (by decide) ?_
      exact ih_7 (sA u0 4 x2.toNatClampNeg 0) (x2 + 1) hf _ _ ls hP hD hS (lv_sub hl [1, 0] rfl)
def f_X2_start (fu : Nat) (s1 : St) (s0 : St)  : Option (St) := f_X2_start_L7 fu s1 fu s0 0
theorem hdX2_start : yX2_start.cls = RX2 ∧ yX2_start.cls ≠ "java/lang/invoke/MethodHandle" ∧ yX2_start.cls ≠ "java/lang/invoke/VarHandle" ∧ (parseMethodDescriptor yX2_start.desc).map (fun d => d.parameters.length) = some 1 := by decide +kernel
set_option maxHeartbeats 4000000 in
set_option maxRecDepth 100000 in
theorem c_X2_start (l : Launch) (D : va_G) (cy : Nat → ClassId) (h0 : Nat) (r0_5 : Nat) (a0 : Nat → Nat) (s0 : St) (h1 : Nat) (a1 : Nat → Nat) (s1 : St) (sz fu : Nat)  (out : St) (hf : f_X2_start fu s1 s0 = some out) :
    Met l yX2_start (WS yX2_start cX2_start 3 none) ({ frames := 0, cells := 0, slots := 0, locals := 0 } : Room) (va_Pc [.ref h0, .ref h1] (gP D cy sz ((w2 cy h0 r0_5 a0 s0) ++ (w5 cy h1 a1 s1)))) ((fun A : Nat → Prop => gQv D cy A ((w2 cy h0 h1 a0 out) ++ (w5 cy h1 a1 s1))) (va_A ((w2 cy h0 r0_5 a0 s0) ++ (w5 cy h1 a1 s1)) sz)) 0 0 (va_A ((w2 cy h0 r0_5 a0 s0) ++ (w5 cy h1 a1 s1)) sz) := by
  refine g_met (cc := cX2_start) (maxL := 3) (ret := none) (fun A : Nat → Prop => gQv D cy A ((w2 cy h0 h1 a0 out) ++ (w5 cy h1 a1 s1))) (by decide +kernel) rfl (Nat.le_of_ble_eq_true rfl) ?_
  intro p e s m below meth c A C hA hK hP hD ls hl
  obtain ⟨hx, hb, hr, hml, hown, hts, hlk⟩ := id C
  have hown : s.vm.findClass RX2 = some m.cls := hown
  have hS : va_S A s.heap s.heap [] := va_S.rf
  have hl : lv_has ls 3 [(0, .ref h0), (1, .ref h1)] := hl
  have hk_23 := hts _ (List.mem_cons_of_mem _ fl_RX2_23)
  unfold f_X2_start at hf
  refine lv_aload_n hx hb dX2_start_0 rfl (lv_at hl 0 rfl) ?_
  refine lv_aload_n hx hb dX2_start_1 rfl (lv_at hl 1 rfl) ?_
  refine va_put (ci := 2) (v := .ref h1) (ty := tyX2 5) (C := RX2) (T := TX2) (N := 6) hx hb hts (fun w h => List.mem_cons_of_mem _ (inX2 w h)) tyX2 tyX2_ok nmX2 hown hK hP hD hS 0 rfl rfl 5 (by decide) hk_23 (fun _ h9 => h9) rfl (tyX2_ok 5 (by decide)) rfl rfl (Nat.le_of_ble_eq_true rfl) dX2_start_2 (fun H locs hP hD hS => ?_)
  have hP : va_P D vwCl ((w2 cy h0 h1 a0 s0) ++ (w5 cy h1 a1 s1)) H := hP
  have hD : va_D A ((w2 cy h0 h1 a0 s0) ++ (w5 cy h1 a1 s1)) := hD
  refine lv_iconst (v := 0) hx hb dX2_start_5 (by decide) ?_
  refine lv_istore_n (lv' := [(2, .int 0), (0, .ref h0), (1, .ref h1)]) hx hb dX2_start_6 rfl hl (by decide) rfl (fun ls hl => ?_)
  exact b_X2_start_L7 l D cy h0 r0_5 a0 h1 a1 s1 fu out C hA hK fu s0 0 hf _ _ ls hP hD hS (lv_sub hl [1, 0] rfl)
