def f_X9_share (fu : Nat)   (p0 : Int32) (p1 : Int32) (p2 : Int32) : Option (Int32) := if 1 ≤ p2 then (if nz p2 = true then (some ((p0 * p1) / p2)) else none) else (some 0)
theorem hdX9_share : yX9_share.cls ≠ "java/lang/invoke/MethodHandle" ∧ yX9_share.cls ≠ "java/lang/invoke/VarHandle" ∧ (parseMethodDescriptor yX9_share.desc).map (fun d => d.parameters.length) = some 3 := by decide +kernel
set_option maxHeartbeats 4000000 in
set_option maxRecDepth 100000 in
theorem c_X9_share (l : Launch) (D : va_G) (cy : Nat → ClassId)  (sz fu : Nat) (p0 : Int32) (p1 : Int32) (p2 : Int32) (out : Int32) (hf : f_X9_share fu p0 p1 p2 = some out) :
    Met l yX9_share (WS yX9_share cX9_share 3 (some .int)) ({ frames := 0, cells := 0, slots := 0, locals := 0 } : Room) (va_Pc [.int p0, .int p1, .int p2] (gP D cy sz ([] : va_W))) ((fun A : Nat → Prop => gQi D cy A out ([] : va_W)) (va_A ([] : va_W) sz)) 0 0 (va_A ([] : va_W) sz) := by
  refine g_met (cc := cX9_share) (maxL := 3) (ret := (some .int)) (fun A : Nat → Prop => gQi D cy A out ([] : va_W)) (by decide +kernel) rfl (Nat.le_of_ble_eq_true rfl) ?_
  intro p e s m below meth c A C hA hK hP hD ls hl
  obtain ⟨hx, hb, hr, hml, hown, hts, hlk⟩ := id C
  have hown : s.vm.findClass RX9 = some m.cls := hown
  have hS : va_S A s.heap s.heap [] := va_S.rf
  have hl : lv_has ls 3 [(0, .int p0), (1, .int p1), (2, .int p2)] := hl
  unfold f_X9_share at hf
  refine lv_iload_n hx hb dX9_share_0 rfl (lv_at hl 2 rfl) ?_
  refine lv_iconst (v := 1) hx hb dX9_share_1 (by decide) ?_
  refine lv_icmp_ge (tgt := 9) hx hb dX9_share_2 (by decide) (fun c_2 => ?_) (fun c_2 => ?_)
  · have hf := op_pos c_2 hf
    refine lv_iload_n hx hb dX9_share_9 rfl (lv_at hl 0 rfl) ?_
    refine lv_iload_n hx hb dX9_share_10 rfl (lv_at hl 1 rfl) ?_
    refine lv_imul hx hb dX9_share_11 ?_
    refine lv_iload_n hx hb dX9_share_12 rfl (lv_at hl 2 rfl) ?_
    obtain ⟨hg_13, hf⟩ := op_if hf
    refine lv_idiv hx hb dX9_share_13 (nz_ne hg_13) ?_
    rw [← Option.some.inj hf]
    exact g_iret hx hb hr hlk hK hP hD hS dX9_share_14
  · have hf := op_neg c_2 hf
    refine lv_iconst (v := 0) hx hb dX9_share_5 (by decide) ?_
    refine lv_goto (tgt := 14) hx hb dX9_share_6 (by decide) ?_
    rw [← Option.some.inj hf]
    exact g_iret hx hb hr hlk hK hP hD hS dX9_share_14
def f_X0_isThere (fu : Nat) (s0 : St) (s1 : St)  (p1 : Int32) (p2 : Int32) : Option (Int32) := (f_X5_hasTitle fu s1 p1).bind (fun q_5 => if q_5 = 0 then (some 0) else ((f_X5_hasTongue fu s1 p2).bind (fun q_16 => if q_16 = 0 then (some 0) else (some 1))))
theorem hdX0_isThere : yX0_isThere.cls = RX0 ∧ yX0_isThere.cls ≠ "java/lang/invoke/MethodHandle" ∧ yX0_isThere.cls ≠ "java/lang/invoke/VarHandle" ∧ (parseMethodDescriptor yX0_isThere.desc).map (fun d => d.parameters.length) = some 2 := by decide +kernel
set_option maxHeartbeats 4000000 in
set_option maxRecDepth 100000 in
theorem c_X0_isThere (l : Launch) (D : va_G) (cy : Nat → ClassId) (h0 : Nat) (r0_0 : Nat) (r0_1 : Nat) (r0_2 : Nat) (r0_4 : Nat) (s0 : St) (h1 : Nat) (a1 : Nat → Nat) (s1 : St) (sz fu : Nat) (p1 : Int32) (p2 : Int32) (out : Int32) (hf : f_X0_isThere fu s0 s1 p1 p2 = some out) :
    Met l yX0_isThere (WS yX0_isThere cX0_isThere 3 (some .boolean)) ({ frames := 1, cells := 0, slots := 0, locals := 21 } : Room) (va_Pc [.ref h0, .int p1, .int p2] (gP D cy sz ((w0 cy h0 r0_0 r0_1 r0_2 h1 r0_4 s0) ++ (w5 cy h1 a1 s1)))) ((fun A : Nat → Prop => gQi D cy A out ((w0 cy h0 r0_0 r0_1 r0_2 h1 r0_4 s0) ++ (w5 cy h1 a1 s1))) (va_A ((w0 cy h0 r0_0 r0_1 r0_2 h1 r0_4 s0) ++ (w5 cy h1 a1 s1)) sz)) 0 0 (va_A ((w0 cy h0 r0_0 r0_1 r0_2 h1 r0_4 s0) ++ (w5 cy h1 a1 s1)) sz) := by
  refine g_met (cc := cX0_isThere) (maxL := 3) (ret := (some .boolean)) (fun A : Nat → Prop => gQi D cy A out ((w0 cy h0 r0_0 r0_1 r0_2 h1 r0_4 s0) ++ (w5 cy h1 a1 s1))) (by decide +kernel) rfl (Nat.le_of_ble_eq_true rfl) ?_
  intro p e s m below meth c A C hA hK hP hD ls hl
  obtain ⟨hx, hb, hr, hml, hown, hts, hlk⟩ := id C
  have hown : s.vm.findClass RX0 = some m.cls := hown
  have hS : va_S A s.heap s.heap [] := va_S.rf
  have hl : lv_has ls 3 [(0, .ref h0), (1, .int p1), (2, .int p2)] := hl
  have hk_24 := hts _ (List.mem_cons_of_mem _ fl_RX0_24)
  unfold f_X0_isThere at hf
  refine lv_aload_n hx hb dX0_isThere_0 rfl (lv_at hl 0 rfl) ?_
  refine va_get (ci := 0) (v := .ref h1) (C := RX0) (T := TX0) (N := 5) hx hb hts (fun w h => List.mem_cons_of_mem _ (inX0 w h)) hown hK hP 0 rfl rfl 3 (by decide) hk_24 (fun _ h9 => h9) rfl dX0_isThere_1 ?_
  refine lv_iload_n hx hb dX0_isThere_4 rfl (lv_at hl 1 rfl) ?_
  obtain ⟨q_5, hc_5, hf⟩ := op_bind hf
  refine g_callVi (As := [.int p1]) (rest := []) (w2 := (w0 cy h0 r0_0 r0_1 r0_2 h1 r0_4 s0) ++ (w5 cy h1 a1 s1)) ⟨hx, hb, hml, hown, hts⟩ (c_X5_hasTitle l D cy h1 a1 s1 _ fu p1 _ hc_5) (cwV 1 hts (gi_V ml_RX0_83 im_X5_hasTitle se_X5_hasTitle in_RX5 cd_X5_hasTitle) rfl rfl rfl hdX5_hasTitle ⟨Nat.le_of_ble_eq_true rfl, Nat.le_of_ble_eq_true rfl⟩) (va_recv hK hP (ci := 5) (q0 := 1) rfl rfl) rfl hl.1 rfl (Nat.le_of_ble_eq_true rfl) dX0_isThere_5 hK hP hD hS hA [1, 2, 3, 4, 5, 6, 7, 8, 9] [0] [0, 1, 2, 3, 4, 5, 6, 7, 8, 9] rfl rfl rfl rfl (by decide) rfl rfl (fun H locs hP hD hS => ?_)
  refine lv_if_eq (tgt := 26) hx hb dX0_isThere_8 (by decide) (fun c_8 => ?_) (fun c_8 => ?_)
  · have hf := op_pos c_8 hf
    refine lv_iconst (v := 0) hx hb dX0_isThere_26 (by decide) ?_
    rw [← Option.some.inj hf]
    exact g_zret hx hb hr hlk (show isB 0 = true by decide) hK hP hD hS dX0_isThere_27
  · have hf := op_neg c_8 hf
    refine lv_aload_n hx hb dX0_isThere_11 rfl (lv_at hl 0 rfl) ?_
    refine va_get (ci := 0) (v := .ref h1) (C := RX0) (T := TX0) (N := 5) hx hb hts (fun w h => List.mem_cons_of_mem _ (inX0 w h)) hown hK hP 0 rfl rfl 3 (by decide) hk_24 (fun _ h9 => h9) rfl dX0_isThere_12 ?_
    refine lv_iload_n hx hb dX0_isThere_15 rfl (lv_at hl 2 rfl) ?_
    obtain ⟨q_16, hc_16, hf⟩ := op_bind hf
    refine g_callVi (As := [.int p2]) (rest := []) (w2 := (w0 cy h0 r0_0 r0_1 r0_2 h1 r0_4 s0) ++ (w5 cy h1 a1 s1)) ⟨hx, hb, hml, hown, hts⟩ (c_X5_hasTongue l D cy h1 a1 s1 _ fu p2 _ hc_16) (cwV 1 hts (gi_V ml_RX0_87 im_X5_hasTongue se_X5_hasTongue in_RX5 cd_X5_hasTongue) rfl rfl rfl hdX5_hasTongue ⟨Nat.le_of_ble_eq_true rfl, Nat.le_of_ble_eq_true rfl⟩) (va_recv hK hP (ci := 5) (q0 := 1) rfl rfl) rfl hl.1 rfl (Nat.le_of_ble_eq_true rfl) dX0_isThere_16 hK hP hD hS hA [1, 2, 3, 4, 5, 6, 7, 8, 9] [0] [0, 1, 2, 3, 4, 5, 6, 7, 8, 9] rfl rfl rfl rfl (by decide) rfl rfl (fun H locs hP hD hS => ?_)
    refine lv_if_eq (tgt := 26) hx hb dX0_isThere_19 (by decide) (fun c_19 => ?_) (fun c_19 => ?_)
    · have hf := op_pos c_19 hf
      refine lv_iconst (v := 0) hx hb dX0_isThere_26 (by decide) ?_
      rw [← Option.some.inj hf]
      exact g_zret hx hb hr hlk (show isB 0 = true by decide) hK hP hD hS dX0_isThere_27
    · have hf := op_neg c_19 hf
      refine lv_iconst (v := 1) hx hb dX0_isThere_22 (by decide) ?_
      refine lv_goto (tgt := 27) hx hb dX0_isThere_23 (by decide) ?_
      rw [← Option.some.inj hf]
      exact g_zret hx hb hr hlk (show isB 1 = true by decide) hK hP hD hS dX0_isThere_27
def f_X0_wordingOf (fu : Nat) (s0 : St) (s2 : St)  (p1 : Int32) (p2 : Int32) : Option (Nat) := (f_X0_isThere fu s0 s2 p1 p2).bind (fun q_3 => if q_3 = 0 then (some 160) else (if inb ((p1 * 4) + p2) 160 = true then (some (((p1 * 4) + p2).toNatClampNeg)) else none))
theorem hdX0_wordingOf : yX0_wordingOf.cls = RX0 ∧ yX0_wordingOf.cls ≠ "java/lang/invoke/MethodHandle" ∧ yX0_wordingOf.cls ≠ "java/lang/invoke/VarHandle" ∧ (parseMethodDescriptor yX0_wordingOf.desc).map (fun d => d.parameters.length) = some 2 := by decide +kernel
set_option maxHeartbeats 4000000 in
set_option maxRecDepth 100000 in
theorem c_X0_wordingOf (l : Launch) (D : va_G) (cy : Nat → ClassId) (h0 : Nat) (r0_2 : Nat) (r0_4 : Nat) (s0 : St) (h1 : Nat) (a1 : Nat → Nat) (h2 : Nat) (a2 : Nat → Nat) (s2 : St) (sz fu : Nat) (p1 : Int32) (p2 : Int32) (out : Nat) (hf : f_X0_wordingOf fu s0 s2 p1 p2 = some out) :
    Met l yX0_wordingOf (WS yX0_wordingOf cX0_wordingOf 3 (some (.object "TitleDesk$Wording"))) ({ frames := 2, cells := 0, slots := 0, locals := 43 } : Room) (va_Pc [.ref h0, .int p1, .int p2] (gP D cy sz ((w0 cy h0 h1 (a1 160) r0_2 h2 r0_4 s0) ++ (wWa cy h1 a1) ++ (w5 cy h2 a2 s2)))) ((fun A : Nat → Prop => gQr D cy A (a1 out) ((w0 cy h0 h1 (a1 160) r0_2 h2 r0_4 s0) ++ (wWa cy h1 a1) ++ (w5 cy h2 a2 s2))) (va_A ((w0 cy h0 h1 (a1 160) r0_2 h2 r0_4 s0) ++ (wWa cy h1 a1) ++ (w5 cy h2 a2 s2)) sz)) 0 0 (va_A ((w0 cy h0 h1 (a1 160) r0_2 h2 r0_4 s0) ++ (wWa cy h1 a1) ++ (w5 cy h2 a2 s2)) sz) := by
  refine g_met (cc := cX0_wordingOf) (maxL := 3) (ret := (some (.object "TitleDesk$Wording"))) (fun A : Nat → Prop => gQr D cy A (a1 out) ((w0 cy h0 h1 (a1 160) r0_2 h2 r0_4 s0) ++ (wWa cy h1 a1) ++ (w5 cy h2 a2 s2))) (by decide +kernel) rfl (Nat.le_of_ble_eq_true rfl) ?_
  intro p e s m below meth c A C hA hK hP hD ls hl
  obtain ⟨hx, hb, hr, hml, hown, hts, hlk⟩ := id C
  have hown : s.vm.findClass RX0 = some m.cls := hown
  have hS : va_S A s.heap s.heap [] := va_S.rf
  have hl : lv_has ls 3 [(0, .ref h0), (1, .int p1), (2, .int p2)] := hl
  have hk_35 := hts _ (List.mem_cons_of_mem _ fl_RX0_35)
  have hk_11 := hts _ (List.mem_cons_of_mem _ fl_RX0_11)
  unfold f_X0_wordingOf at hf
  refine lv_aload_n hx hb dX0_wordingOf_0 rfl (lv_at hl 0 rfl) ?_
  refine lv_iload_n hx hb dX0_wordingOf_1 rfl (lv_at hl 1 rfl) ?_
  refine lv_iload_n hx hb dX0_wordingOf_2 rfl (lv_at hl 2 rfl) ?_
  obtain ⟨q_3, hc_3, hf⟩ := op_bind hf
  refine g_callVi (As := [.int p1, .int p2]) (rest := []) (w2 := (w0 cy h0 h1 (a1 160) r0_2 h2 r0_4 s0) ++ (wWa cy h1 a1) ++ (w5 cy h2 a2 s2)) ⟨hx, hb, hml, hown, hts⟩ (c_X0_isThere l D cy h0 h1 (a1 160) r0_2 r0_4 s0 h2 a2 s2 _ fu p1 p2 _ hc_3) (cwV 2 hts (gi_V ml_RX0_60 im_X0_isThere se_X0_isThere in_RX0 cd_X0_isThere) rfl rfl rfl hdX0_isThere ⟨Nat.le_of_ble_eq_true rfl, Nat.le_of_ble_eq_true rfl⟩) (va_recv hK hP (ci := 0) (q0 := 0) rfl rfl) rfl hl.1 rfl (Nat.le_of_ble_eq_true rfl) dX0_wordingOf_3 hK hP hD hS hA [0, 2, 3, 4, 5, 6, 7, 8, 9, 10] [1] [1, 0, 2, 3, 4, 5, 6, 7, 8, 9, 10] rfl rfl rfl rfl (by decide) rfl rfl (fun H locs hP hD hS => ?_)
  refine lv_if_eq (tgt := 22) hx hb dX0_wordingOf_6 (by decide) (fun c_6 => ?_) (fun c_6 => ?_)
  · have hf := op_pos c_6 hf
    refine lv_aload_n hx hb dX0_wordingOf_22 rfl (lv_at hl 0 rfl) ?_
    refine va_get (ci := 0) (v := .ref (a1 160)) (C := RX0) (T := TX0) (N := 5) hx hb hts (fun w h => List.mem_cons_of_mem _ (inX0 w h)) hown hK hP 0 rfl rfl 1 (by decide) hk_35 (fun _ h9 => h9) rfl dX0_wordingOf_23 ?_
    rw [← Option.some.inj hf]
    exact g_aret hx hb hr (Or.inl ⟨_, rfl⟩) hlk hK hP hD hS dX0_wordingOf_26
  · have hf := op_neg c_6 hf
    refine lv_aload_n hx hb dX0_wordingOf_9 rfl (lv_at hl 0 rfl) ?_
    refine va_get (ci := 0) (v := .ref h1) (C := RX0) (T := TX0) (N := 5) hx hb hts (fun w h => List.mem_cons_of_mem _ (inX0 w h)) hown hK hP 0 rfl rfl 0 (by decide) hk_11 (fun _ h9 => h9) rfl dX0_wordingOf_10 ?_
    refine lv_iload_n hx hb dX0_wordingOf_13 rfl (lv_at hl 1 rfl) ?_
    refine lv_iconst (v := 4) hx hb dX0_wordingOf_14 (by decide) ?_
    refine lv_imul hx hb dX0_wordingOf_15 ?_
    refine lv_iload_n hx hb dX0_wordingOf_16 rfl (lv_at hl 2 rfl) ?_
    refine lv_iadd hx hb dX0_wordingOf_17 ?_
    obtain ⟨hg_18, hf⟩ := op_if hf
    refine va_aldq (C := "TitleDesk$Wording") hx hb hK hP 1 4 rfl rfl (inb_in hg_18) dX0_wordingOf_18 ?_
    refine W.eq (g2 := F0 m 19 ls [.ref (a1 ((p1 * 4) + p2).toNatClampNeg)]) rfl ?_
    refine lv_goto (tgt := 26) hx hb dX0_wordingOf_19 (by decide) ?_
    rw [← Option.some.inj hf]
    exact g_aret hx hb hr (Or.inl ⟨_, rfl⟩) hlk hK hP hD hS dX0_wordingOf_26
def f_X0_isChanged_L2  (fu : Nat) (s0 : St) (s2 : St) (s3 : FSt) (L4 : List Nat) (c4 : Nat → Nat × (Nat → Int32)) : Nat → Int32 → Int32 → Option (Int32)
  | 0, _, _ => none
  | n_2 + 1, x1, x2 => if (s2.1 0) ≤ x2 then (some 0) else ((f_X0_wordingOf fu s0 s2 x1 x2).bind (fun q_16 => if ltb q_16 161 = true then (if ((s3.1 q_16).1 3) = 0 then (f_X0_isChanged_L2 fu s0 s2 s3 L4 c4 n_2 x1 (x2 + 1)) else (some 1)) else none))
set_option maxHeartbeats 4000000 in
set_option maxRecDepth 100000 in
theorem b_X0_isChanged_L2 {p : Program} {e : Env} {s : State} {m : MethodId} {args : Array Value} {below : List Frame} {meth : Method} {c : Code} {A : Nat → Prop} (l : Launch) (D : va_G) (cy : Nat → ClassId) (h0 : Nat) (r0_2 : Nat) (r0_4 : Nat) (s0 : St) (h1 : Nat) (h2 : Nat) (a2 : Nat → Nat) (s2 : St)  (a3 : Nat → Nat) (y3 : Nat → Nat) (s3 : FSt)  (L4 : List Nat) (c4 : Nat → Nat × (Nat → Int32)) (fu : Nat) (out : Int32) (C : gC p s m args meth c (WS yX0_isChanged cX0_isChanged 3 (some .boolean)) cX0_isChanged 3 (some .boolean) RX0) (hA : ∀ q : Nat, s.heap.size ≤ q → A q) (hK : va_K D vwCl (TY cy) s)  :
    ∀ (n_2 : Nat), ∀ (x1 : Int32) (x2 : Int32), f_X0_isChanged_L2 fu s0 s2 s3 L4 c4 n_2 x1 x2 = some out → ∀ (H : Heap) (locs : List Loc) (ls : Array Slot), va_P D vwCl (((w0 cy h0 h1 (a3 160) r0_2 h2 r0_4 s0) ++ (wWa cy h1 a3) ++ (w5 cy h2 a2 s2)) ++ ((wF cy a3 y3 s3) ++ (wK cy L4 c4))) H → va_D A (((w0 cy h0 h1 (a3 160) r0_2 h2 r0_4 s0) ++ (wWa cy h1 a3) ++ (w5 cy h2 a2 s2)) ++ ((wF cy a3 y3 s3) ++ (wK cy L4 c4))) → va_S A s.heap H locs → lv_has ls 3 [(0, .ref h0), (1, .int x1), (2, .int x2)] → W p l e ({ frames := 3, cells := 0, slots := 0, locals := 65 } : Room) s m args below meth c H locs 0 0 (MQ below (gQi D cy A out (((w0 cy h0 h1 (a3 160) r0_2 h2 r0_4 s0) ++ (wWa cy h1 a3) ++ (w5 cy h2 a2 s2)) ++ ((wF cy a3 y3 s3) ++ (wK cy L4 c4)))) args s 0 0 A) (F0 m 2 ls []) := by
  obtain ⟨hx, hb, hr, hml, hown, hts, hlk⟩ := id C
  have hown : s.vm.findClass RX0 = some m.cls := hown
  have hk_24 := hts _ (List.mem_cons_of_mem _ fl_RX0_24)
  have hk_45 := hts _ (List.mem_cons_of_mem _ fl_RX0_45)
  have hk_56 := hts _ (List.mem_cons_of_mem _ fl_RX0_56)
  intro n_2
  induction n_2 with
  | zero => intro x1 x2 hf; exact op_no hf
  | succ n_2 ih_2 =>
    intro x1 x2 hf H locs ls hP hD hS hl
    rw [f_X0_isChanged_L2] at hf
    refine lv_iload_n hx hb dX0_isChanged_2 rfl (lv_at hl 2 rfl) ?_
    refine lv_aload_n hx hb dX0_isChanged_3 rfl (lv_at hl 0 rfl) ?_
    refine va_get (ci := 0) (v := .ref h2) (C := RX0) (T := TX0) (N := 5) hx hb hts (fun w h => List.mem_cons_of_mem _ (inX0 w h)) hown hK hP 0 rfl rfl 3 (by decide) hk_24 (fun _ h9 => h9) rfl dX0_isChanged_4 ?_
    refine va_get (ci := 5) (v := .int (s2.1 0)) (C := RX5) (T := TX5) (N := 13) hx hb hts (fun w h => List.mem_cons_of_mem _ (inX5 w h)) hown hK hP 2 rfl rfl 0 (by decide) hk_45 (fun _ h9 => h9) rfl dX0_isChanged_7 ?_
    refine lv_icmp_ge (tgt := 33) hx hb dX0_isChanged_10 (by decide) (fun c_10 => ?_) (fun c_10 => ?_)
    · have hf := op_pos c_10 hf
      refine lv_iconst (v := 0) hx hb dX0_isChanged_33 (by decide) ?_
      rw [← Option.some.inj hf]
      exact g_zret hx hb hr hlk (show isB 0 = true by decide) hK hP hD hS dX0_isChanged_34
    · have hf := op_neg c_10 hf
      refine lv_aload_n hx hb dX0_isChanged_13 rfl (lv_at hl 0 rfl) ?_
      refine lv_iload_n hx hb dX0_isChanged_14 rfl (lv_at hl 1 rfl) ?_
      refine lv_iload_n hx hb dX0_isChanged_15 rfl (lv_at hl 2 rfl) ?_
      obtain ⟨q_16, hc_16, hf⟩ := op_bind hf
      refine g_callVrTM (As := [.int x1, .int x2]) (rest := []) (w2 := (w0 cy h0 h1 (a3 160) r0_2 h2 r0_4 s0) ++ (wWa cy h1 a3) ++ (w5 cy h2 a2 s2)) (ms := [w0 cy h0 h1 (a3 160) r0_2 h2 r0_4 s0, wWa cy h1 a3, w5 cy h2 a2 s2]) (mc := [w0 cy h0 h1 (a3 160) r0_2 h2 r0_4 s0, wWa cy h1 a3, w5 cy h2 a2 s2]) (m1 := [w0 cy h0 h1 (a3 160) r0_2 h2 r0_4 s0, wWa cy h1 a3, w5 cy h2 a2 s2]) (m2 := [w0 cy h0 h1 (a3 160) r0_2 h2 r0_4 s0, wWa cy h1 a3, w5 cy h2 a2 s2]) (nm := 3) ⟨hx, hb, hml, hown, hts⟩ (c_X0_wordingOf l D cy h0 r0_2 r0_4 s0 h1 a3 h2 a2 s2 _ fu x1 x2 _ hc_16) (cwV 2 hts (gi_V ml_RX0_52 im_X0_wordingOf se_X0_wordingOf in_RX0 cd_X0_wordingOf) rfl rfl rfl hdX0_wordingOf ⟨Nat.le_of_ble_eq_true rfl, Nat.le_of_ble_eq_true rfl⟩) (va_recv hK hP (ci := 0) (q0 := 0) rfl rfl) rfl hl.1 rfl (Nat.le_of_ble_eq_true rfl) dX0_isChanged_16 hK hP hD hS hA [0, 1, 2] [] [0, 1, 2] (by simp only [List.flatten_cons, List.flatten_nil, List.append_nil, List.append_assoc]) (by simp only [List.flatten_cons, List.flatten_nil, List.append_nil, List.append_assoc]) (by simp only [List.flatten_cons, List.flatten_nil, List.append_nil, List.append_assoc]) (by simp only [List.flatten_cons, List.flatten_nil, List.append_nil, List.append_assoc]) rfl rfl (by decide) rfl rfl (by decide) (fun H locs hP hD hS => ?_)
      obtain ⟨hg_19, hf⟩ := op_if hf
      obtain ⟨k9, hk9⟩ := fam_at cy a3 y3 s3 (wK cy L4 c4) ((w0 cy h0 h1 (a3 160) r0_2 h2 r0_4 s0) ++ (wWa cy h1 a3) ++ (w5 cy h2 a2 s2)) (ltb_lt hg_19)
      refine va_get (ci := 7) (v := .int ((s3.1 q_16).1 3)) (C := RX7) (T := TX7) (N := 7) hx hb hts (fun w h => List.mem_cons_of_mem _ (inX7 w h)) hown hK hP k9 hk9 rfl 3 (by decide) hk_56 (fun _ h9 => h9) rfl dX0_isChanged_19 ?_
      refine lv_if_eq (tgt := 27) hx hb dX0_isChanged_22 (by decide) (fun c_22 => ?_) (fun c_22 => ?_)
      · have hf := op_pos c_22 hf
        refine lv_iinc (v := x2 + 1) (lv' := [(2, .int (x2 + 1)), (0, .ref h0), (1, .int x1)]) hx hb dX0_isChanged_27 hl (k := 2) rfl rfl (by decide) rfl (fun ls hl => ?_)
        refine lv_goto (tgt := 2) hx hb dX0_isChanged_30 (by decide) ?_
        exact ih_2 x1 (x2 + 1) hf _ _ ls hP hD hS (lv_sub hl [1, 2, 0] rfl)
      · have hf := op_neg c_22 hf
        refine lv_iconst (v := 1) hx hb dX0_isChanged_25 (by decide) ?_
        rw [← Option.some.inj hf]
        exact g_zret hx hb hr hlk (show isB 1 = true by decide) hK hP hD hS dX0_isChanged_26
def f_X0_isChanged (fu : Nat) (s0 : St) (s2 : St) (s3 : FSt) (L4 : List Nat) (c4 : Nat → Nat × (Nat → Int32))  (p1 : Int32) : Option (Int32) := f_X0_isChanged_L2 fu s0 s2 s3 L4 c4 fu p1 0
theorem hdX0_isChanged : yX0_isChanged.cls = RX0 ∧ yX0_isChanged.cls ≠ "java/lang/invoke/MethodHandle" ∧ yX0_isChanged.cls ≠ "java/lang/invoke/VarHandle" ∧ (parseMethodDescriptor yX0_isChanged.desc).map (fun d => d.parameters.length) = some 1 := by decide +kernel
set_option maxHeartbeats 4000000 in
set_option maxRecDepth 100000 in
theorem c_X0_isChanged (l : Launch) (D : va_G) (cy : Nat → ClassId) (h0 : Nat) (r0_2 : Nat) (r0_4 : Nat) (s0 : St) (h1 : Nat) (h2 : Nat) (a2 : Nat → Nat) (s2 : St)  (a3 : Nat → Nat) (y3 : Nat → Nat) (s3 : FSt)  (L4 : List Nat) (c4 : Nat → Nat × (Nat → Int32)) (sz fu : Nat) (p1 : Int32) (out : Int32) (hf : f_X0_isChanged fu s0 s2 s3 L4 c4 p1 = some out) :
    Met l yX0_isChanged (WS yX0_isChanged cX0_isChanged 3 (some .boolean)) ({ frames := 3, cells := 0, slots := 0, locals := 65 } : Room) (va_Pc [.ref h0, .int p1] (gP D cy sz (((w0 cy h0 h1 (a3 160) r0_2 h2 r0_4 s0) ++ (wWa cy h1 a3) ++ (w5 cy h2 a2 s2)) ++ ((wF cy a3 y3 s3) ++ (wK cy L4 c4))))) ((fun A : Nat → Prop => gQi D cy A out (((w0 cy h0 h1 (a3 160) r0_2 h2 r0_4 s0) ++ (wWa cy h1 a3) ++ (w5 cy h2 a2 s2)) ++ ((wF cy a3 y3 s3) ++ (wK cy L4 c4)))) (va_A (((w0 cy h0 h1 (a3 160) r0_2 h2 r0_4 s0) ++ (wWa cy h1 a3) ++ (w5 cy h2 a2 s2)) ++ ((wF cy a3 y3 s3) ++ (wK cy L4 c4))) sz)) 0 0 (va_A (((w0 cy h0 h1 (a3 160) r0_2 h2 r0_4 s0) ++ (wWa cy h1 a3) ++ (w5 cy h2 a2 s2)) ++ ((wF cy a3 y3 s3) ++ (wK cy L4 c4))) sz) := by
  refine g_met (cc := cX0_isChanged) (maxL := 3) (ret := (some .boolean)) (fun A : Nat → Prop => gQi D cy A out (((w0 cy h0 h1 (a3 160) r0_2 h2 r0_4 s0) ++ (wWa cy h1 a3) ++ (w5 cy h2 a2 s2)) ++ ((wF cy a3 y3 s3) ++ (wK cy L4 c4)))) (by decide +kernel) rfl (Nat.le_of_ble_eq_true rfl) ?_
  intro p e s m below meth c A C hA hK hP hD ls hl
  obtain ⟨hx, hb, hr, hml, hown, hts, hlk⟩ := id C
  have hown : s.vm.findClass RX0 = some m.cls := hown
  have hS : va_S A s.heap s.heap [] := va_S.rf
  have hl : lv_has ls 3 [(0, .ref h0), (1, .int p1)] := hl
  unfold f_X0_isChanged at hf
  refine lv_iconst (v := 0) hx hb dX0_isChanged_0 (by decide) ?_
  refine lv_istore_n (lv' := [(2, .int 0), (0, .ref h0), (1, .int p1)]) hx hb dX0_isChanged_1 rfl hl (by decide) rfl (fun ls hl => ?_)
  exact b_X0_isChanged_L2 l D cy h0 r0_2 r0_4 s0 h1 h2 a2 s2 a3 y3 s3 L4 c4 fu out C hA hK fu p1 0 hf _ _ ls hP hD hS (lv_sub hl [1, 2, 0] rfl)
def f_X0_stepsOf_L4  (fu : Nat) (s0 : St) (s2 : St) (s3 : FSt) (L4 : List Nat) (c4 : Nat → Nat × (Nat → Int32)) : Nat → Int32 → Int32 → Int32 → Option (Int32)
  | 0, _, _, _ => none
  | n_4 + 1, x1, x2, x3 => if (s2.1 0) ≤ x3 then (some x2) else ((f_X0_wordingOf fu s0 s2 x1 x3).bind (fun q_19 => if ltb q_19 161 = true then (f_X0_stepsOf_L4 fu s0 s2 s3 L4 c4 n_4 x1 (if x2 < ((s3.1 q_19).1 4) then ((s3.1 q_19).1 4) else x2) (x3 + 1)) else none))
set_option maxHeartbeats 4000000 in
set_option maxRecDepth 100000 in
theorem b_X0_stepsOf_L4 {p : Program} {e : Env} {s : State} {m : MethodId} {args : Array Value} {below : List Frame} {meth : Method} {c : Code} {A : Nat → Prop} (l : Launch) (D : va_G) (cy : Nat → ClassId) (h0 : Nat) (r0_2 : Nat) (r0_4 : Nat) (s0 : St) (h1 : Nat) (h2 : Nat) (a2 : Nat → Nat) (s2 : St)  (a3 : Nat → Nat) (y3 : Nat → Nat) (s3 : FSt)  (L4 : List Nat) (c4 : Nat → Nat × (Nat → Int32)) (fu : Nat) (out : Int32) (C : gC p s m args meth c (WS yX0_stepsOf cX0_stepsOf 4 (some .int)) cX0_stepsOf 4 (some .int) RX0) (hA : ∀ q : Nat, s.heap.size ≤ q → A q) (hK : va_K D vwCl (TY cy) s)  :
    ∀ (n_4 : Nat), ∀ (x1 : Int32) (x2 : Int32) (x3 : Int32), f_X0_stepsOf_L4 fu s0 s2 s3 L4 c4 n_4 x1 x2 x3 = some out → ∀ (H : Heap) (locs : List Loc) (ls : Array Slot), va_P D vwCl (((w0 cy h0 h1 (a3 160) r0_2 h2 r0_4 s0) ++ (wWa cy h1 a3) ++ (w5 cy h2 a2 s2)) ++ ((wF cy a3 y3 s3) ++ (wK cy L4 c4))) H → va_D A (((w0 cy h0 h1 (a3 160) r0_2 h2 r0_4 s0) ++ (wWa cy h1 a3) ++ (w5 cy h2 a2 s2)) ++ ((wF cy a3 y3 s3) ++ (wK cy L4 c4))) → va_S A s.heap H locs → lv_has ls 4 [(0, .ref h0), (1, .int x1), (2, .int x2), (3, .int x3)] → W p l e ({ frames := 3, cells := 0, slots := 0, locals := 65 } : Room) s m args below meth c H locs 0 0 (MQ below (gQi D cy A out (((w0 cy h0 h1 (a3 160) r0_2 h2 r0_4 s0) ++ (wWa cy h1 a3) ++ (w5 cy h2 a2 s2)) ++ ((wF cy a3 y3 s3) ++ (wK cy L4 c4)))) args s 0 0 A) (F0 m 4 ls []) := by
  obtain ⟨hx, hb, hr, hml, hown, hts, hlk⟩ := id C
  have hown : s.vm.findClass RX0 = some m.cls := hown
  have hk_24 := hts _ (List.mem_cons_of_mem _ fl_RX0_24)
  have hk_45 := hts _ (List.mem_cons_of_mem _ fl_RX0_45)
  have hk_90 := hts _ (List.mem_cons_of_mem _ fl_RX0_90)
  have hml_93 := hts _ (List.mem_cons_of_mem _ ml_RX0_93)
  have hms_max := hts _ (List.mem_cons_of_mem _ sm_max)
  have hmi_max := hts _ (List.mem_cons_of_mem _ in_Math)
  have hmc_max := hts _ (List.mem_cons_of_mem _ cd_max)
  intro n_4
  induction n_4 with
  | zero => intro x1 x2 x3 hf; exact op_no hf
  | succ n_4 ih_4 =>
    intro x1 x2 x3 hf H locs ls hP hD hS hl
    rw [f_X0_stepsOf_L4] at hf
    refine lv_iload_n hx hb dX0_stepsOf_4 rfl (lv_at hl 3 rfl) ?_
    refine lv_aload_n hx hb dX0_stepsOf_5 rfl (lv_at hl 0 rfl) ?_
    refine va_get (ci := 0) (v := .ref h2) (C := RX0) (T := TX0) (N := 5) hx hb hts (fun w h => List.mem_cons_of_mem _ (inX0 w h)) hown hK hP 0 rfl rfl 3 (by decide) hk_24 (fun _ h9 => h9) rfl dX0_stepsOf_6 ?_
    refine va_get (ci := 5) (v := .int (s2.1 0)) (C := RX5) (T := TX5) (N := 13) hx hb hts (fun w h => List.mem_cons_of_mem _ (inX5 w h)) hown hK hP 2 rfl rfl 0 (by decide) hk_45 (fun _ h9 => h9) rfl dX0_stepsOf_9 ?_
    refine lv_icmp_ge (tgt := 35) hx hb dX0_stepsOf_12 (by decide) (fun c_12 => ?_) (fun c_12 => ?_)
    · have hf := op_pos c_12 hf
      refine lv_iload_n hx hb dX0_stepsOf_35 rfl (lv_at hl 2 rfl) ?_
      rw [← Option.some.inj hf]
      exact g_iret hx hb hr hlk hK hP hD hS dX0_stepsOf_36
    · have hf := op_neg c_12 hf
      refine lv_iload_n hx hb dX0_stepsOf_15 rfl (lv_at hl 2 rfl) ?_
      refine lv_aload_n hx hb dX0_stepsOf_16 rfl (lv_at hl 0 rfl) ?_
      refine lv_iload_n hx hb dX0_stepsOf_17 rfl (lv_at hl 1 rfl) ?_
      refine lv_iload_n hx hb dX0_stepsOf_18 rfl (lv_at hl 3 rfl) ?_
      obtain ⟨q_19, hc_19, hf⟩ := op_bind hf
      refine g_callVrTM (As := [.int x1, .int x3]) (rest := [.int x2]) (w2 := (w0 cy h0 h1 (a3 160) r0_2 h2 r0_4 s0) ++ (wWa cy h1 a3) ++ (w5 cy h2 a2 s2)) (ms := [w0 cy h0 h1 (a3 160) r0_2 h2 r0_4 s0, wWa cy h1 a3, w5 cy h2 a2 s2]) (mc := [w0 cy h0 h1 (a3 160) r0_2 h2 r0_4 s0, wWa cy h1 a3, w5 cy h2 a2 s2]) (m1 := [w0 cy h0 h1 (a3 160) r0_2 h2 r0_4 s0, wWa cy h1 a3, w5 cy h2 a2 s2]) (m2 := [w0 cy h0 h1 (a3 160) r0_2 h2 r0_4 s0, wWa cy h1 a3, w5 cy h2 a2 s2]) (nm := 3) ⟨hx, hb, hml, hown, hts⟩ (c_X0_wordingOf l D cy h0 r0_2 r0_4 s0 h1 a3 h2 a2 s2 _ fu x1 x3 _ hc_19) (cwV 2 hts (gi_V ml_RX0_52 im_X0_wordingOf se_X0_wordingOf in_RX0 cd_X0_wordingOf) rfl rfl rfl hdX0_wordingOf ⟨Nat.le_of_ble_eq_true rfl, Nat.le_of_ble_eq_true rfl⟩) (va_recv hK hP (ci := 0) (q0 := 0) rfl rfl) rfl hl.1 rfl (Nat.le_of_ble_eq_true rfl) dX0_stepsOf_19 hK hP hD hS hA [0, 1, 2] [] [0, 1, 2] (by simp only [List.flatten_cons, List.flatten_nil, List.append_nil, List.append_assoc]) (by simp only [List.flatten_cons, List.flatten_nil, List.append_nil, List.append_assoc]) (by simp only [List.flatten_cons, List.flatten_nil, List.append_nil, List.append_assoc]) (by simp only [List.flatten_cons, List.flatten_nil, List.append_nil, List.append_assoc]) rfl rfl (by decide) rfl rfl (by decide) (fun H locs hP hD hS => ?_)
      obtain ⟨hg_22, hf⟩ := op_if hf
      obtain ⟨k9, hk9⟩ := fam_at cy a3 y3 s3 (wK cy L4 c4) ((w0 cy h0 h1 (a3 160) r0_2 h2 r0_4 s0) ++ (wWa cy h1 a3) ++ (w5 cy h2 a2 s2)) (ltb_lt hg_22)
      refine va_get (ci := 7) (v := .int ((s3.1 q_19).1 4)) (C := RX7) (T := TX7) (N := 7) hx hb hts (fun w h => List.mem_cons_of_mem _ (inX7 w h)) hown hK hP k9 hk9 rfl 4 (by decide) hk_90 (fun _ h9 => h9) rfl dX0_stepsOf_22 ?_
      refine va_mmax hx hb (hml.trans hl.1.symm) hown hml_93 hms_max hmi_max hmc_max (Nat.le_of_ble_eq_true rfl) (Nat.le_of_ble_eq_true rfl) (Nat.zero_le _) (Nat.zero_le _) dX0_stepsOf_25 ?_
      refine lv_istore_n (lv' := [(2, .int (if x2 < ((s3.1 q_19).1 4) then ((s3.1 q_19).1 4) else x2)), (0, .ref h0), (1, .int x1), (3, .int x3)]) hx hb dX0_stepsOf_28 rfl hl (by decide) rfl (fun ls hl => ?_)
      refine lv_iinc (v := x3 + 1) (lv' := [(3, .int (x3 + 1)), (2, .int (if x2 < ((s3.1 q_19).1 4) then ((s3.1 q_19).1 4) else x2)), (0, .ref h0), (1, .int x1)]) hx hb dX0_stepsOf_29 hl (k := 3) rfl rfl (by decide) rfl (fun ls hl => ?_)
      refine lv_goto (tgt := 4) hx hb dX0_stepsOf_32 (by decide) ?_
      exact ih_4 x1 (if x2 < ((s3.1 q_19).1 4) then ((s3.1 q_19).1 4) else x2) (x3 + 1) hf _ _ ls hP hD hS (lv_sub hl [2, 3, 1, 0] rfl)
def f_X0_stepsOf (fu : Nat) (s0 : St) (s2 : St) (s3 : FSt) (L4 : List Nat) (c4 : Nat → Nat × (Nat → Int32))  (p1 : Int32) : Option (Int32) := f_X0_stepsOf_L4 fu s0 s2 s3 L4 c4 fu p1 0 0
theorem hdX0_stepsOf : yX0_stepsOf.cls = RX0 ∧ yX0_stepsOf.cls ≠ "java/lang/invoke/MethodHandle" ∧ yX0_stepsOf.cls ≠ "java/lang/invoke/VarHandle" ∧ (parseMethodDescriptor yX0_stepsOf.desc).map (fun d => d.parameters.length) = some 1 := by decide +kernel
set_option maxHeartbeats 4000000 in
set_option maxRecDepth 100000 in
theorem c_X0_stepsOf (l : Launch) (D : va_G) (cy : Nat → ClassId) (h0 : Nat) (r0_2 : Nat) (r0_4 : Nat) (s0 : St) (h1 : Nat) (h2 : Nat) (a2 : Nat → Nat) (s2 : St)  (a3 : Nat → Nat) (y3 : Nat → Nat) (s3 : FSt)  (L4 : List Nat) (c4 : Nat → Nat × (Nat → Int32)) (sz fu : Nat) (p1 : Int32) (out : Int32) (hf : f_X0_stepsOf fu s0 s2 s3 L4 c4 p1 = some out) :
    Met l yX0_stepsOf (WS yX0_stepsOf cX0_stepsOf 4 (some .int)) ({ frames := 3, cells := 0, slots := 0, locals := 65 } : Room) (va_Pc [.ref h0, .int p1] (gP D cy sz (((w0 cy h0 h1 (a3 160) r0_2 h2 r0_4 s0) ++ (wWa cy h1 a3) ++ (w5 cy h2 a2 s2)) ++ ((wF cy a3 y3 s3) ++ (wK cy L4 c4))))) ((fun A : Nat → Prop => gQi D cy A out (((w0 cy h0 h1 (a3 160) r0_2 h2 r0_4 s0) ++ (wWa cy h1 a3) ++ (w5 cy h2 a2 s2)) ++ ((wF cy a3 y3 s3) ++ (wK cy L4 c4)))) (va_A (((w0 cy h0 h1 (a3 160) r0_2 h2 r0_4 s0) ++ (wWa cy h1 a3) ++ (w5 cy h2 a2 s2)) ++ ((wF cy a3 y3 s3) ++ (wK cy L4 c4))) sz)) 0 0 (va_A (((w0 cy h0 h1 (a3 160) r0_2 h2 r0_4 s0) ++ (wWa cy h1 a3) ++ (w5 cy h2 a2 s2)) ++ ((wF cy a3 y3 s3) ++ (wK cy L4 c4))) sz) := by
  refine g_met (cc := cX0_stepsOf) (maxL := 4) (ret := (some .int)) (fun A : Nat → Prop => gQi D cy A out (((w0 cy h0 h1 (a3 160) r0_2 h2 r0_4 s0) ++ (wWa cy h1 a3) ++ (w5 cy h2 a2 s2)) ++ ((wF cy a3 y3 s3) ++ (wK cy L4 c4)))) (by decide +kernel) rfl (Nat.le_of_ble_eq_true rfl) ?_
  intro p e s m below meth c A C hA hK hP hD ls hl
  obtain ⟨hx, hb, hr, hml, hown, hts, hlk⟩ := id C
  have hown : s.vm.findClass RX0 = some m.cls := hown
  have hS : va_S A s.heap s.heap [] := va_S.rf
  have hl : lv_has ls 4 [(0, .ref h0), (1, .int p1)] := hl
  unfold f_X0_stepsOf at hf
  refine lv_iconst (v := 0) hx hb dX0_stepsOf_0 (by decide) ?_
  refine lv_istore_n (lv' := [(2, .int 0), (0, .ref h0), (1, .int p1)]) hx hb dX0_stepsOf_1 rfl hl (by decide) rfl (fun ls hl => ?_)
  refine lv_iconst (v := 0) hx hb dX0_stepsOf_2 (by decide) ?_
  refine lv_istore_n (lv' := [(3, .int 0), (2, .int 0), (0, .ref h0), (1, .int p1)]) hx hb dX0_stepsOf_3 rfl hl (by decide) rfl (fun ls hl => ?_)
  exact b_X0_stepsOf_L4 l D cy h0 r0_2 r0_4 s0 h1 h2 a2 s2 a3 y3 s3 L4 c4 fu out C hA hK fu p1 0 0 hf _ _ ls hP hD hS (lv_sub hl [2, 3, 1, 0] rfl)
def f_X0_stepBehind_L13  (fu : Nat) (s0 : St) (s2 : St) (s3 : FSt) (L4 : List Nat) (c4 : Nat → Nat × (Nat → Int32)) : Nat → Int32 → Int32 → Int32 → Int32 → Option (Int32)
  | 0, _, _, _, _ => none
  | n_13 + 1, x2, x3, x4, x5 => if x5 ≤ 0 then (some 0) else ((f_X9_share fu x5 x3 x4).bind (fun q_23 => if x2 < q_23 then (f_X0_stepBehind_L13 fu s0 s2 s3 L4 c4 n_13 x2 x3 x4 (x5 + (-1))) else (some x5)))
set_option maxHeartbeats 4000000 in
set_option maxRecDepth 100000 in
theorem b_X0_stepBehind_L13 {p : Program} {e : Env} {s : State} {m : MethodId} {args : Array Value} {below : List Frame} {meth : Method} {c : Code} {A : Nat → Prop} (l : Launch) (D : va_G) (cy : Nat → ClassId) (adK adV : Nat → Nat) (h0 : Nat) (r0_2 : Nat) (r0_4 : Nat) (s0 : St) (h1 : Nat) (h2 : Nat) (a2 : Nat → Nat) (s2 : St)  (a3 : Nat → Nat) (y3 : Nat → Nat) (s3 : FSt)  (L4 : List Nat) (c4 : Nat → Nat × (Nat → Int32)) (fu : Nat) (out : Int32) (C : gC p s m args meth c (WS yX0_stepBehind cX0_stepBehind 6 (some .int)) cX0_stepBehind 6 (some .int) RX0) (hA : ∀ q : Nat, s.heap.size ≤ q → A q) (hE : gE adK adV A s s.heap) (hK : va_K D vwCl (TY cy) s)  :
    ∀ (n_13 : Nat), ∀ (x2 : Int32) (x3 : Int32) (x4 : Int32) (x5 : Int32), f_X0_stepBehind_L13 fu s0 s2 s3 L4 c4 n_13 x2 x3 x4 x5 = some out → ∀ (H : Heap) (locs : List Loc) (ls : Array Slot), va_P D vwCl (((w0 cy h0 h1 (a3 160) r0_2 h2 r0_4 s0) ++ (wWa cy h1 a3) ++ (w5 cy h2 a2 s2)) ++ ((wF cy a3 y3 s3) ++ (wK cy L4 c4))) H → va_D A (((w0 cy h0 h1 (a3 160) r0_2 h2 r0_4 s0) ++ (wWa cy h1 a3) ++ (w5 cy h2 a2 s2)) ++ ((wF cy a3 y3 s3) ++ (wK cy L4 c4))) → va_S A s.heap H locs → lv_has ls 6 [(2, .int x2), (3, .int x3), (4, .int x4), (5, .int x5)] → W p l e ({ frames := 4, cells := 0, slots := 0, locals := 88 } : Room) s m args below meth c H locs 0 0 (MQ below (gQi D cy A out (((w0 cy h0 h1 (a3 160) r0_2 h2 r0_4 s0) ++ (wWa cy h1 a3) ++ (w5 cy h2 a2 s2)) ++ ((wF cy a3 y3 s3) ++ (wK cy L4 c4)))) args s 0 0 A) (F0 m 13 ls []) := by
  obtain ⟨hx, hb, hr, hml, hown, hts, hlk⟩ := id C
  have hown : s.vm.findClass RX0 = some m.cls := hown
  intro n_13
  induction n_13 with
  | zero => intro x2 x3 x4 x5 hf; exact op_no hf
  | succ n_13 ih_13 =>
    intro x2 x3 x4 x5 hf H locs ls hP hD hS hl
    rw [f_X0_stepBehind_L13] at hf
    refine lv_iload hx hb dX0_stepBehind_13 (lv_at hl 3 rfl) ?_
    refine lv_if_le (tgt := 39) hx hb dX0_stepBehind_15 (by decide) (fun c_15 => ?_) (fun c_15 => ?_)
    · have hf := op_pos c_15 hf
      refine lv_iconst (v := 0) hx hb dX0_stepBehind_39 (by decide) ?_
      rw [← Option.some.inj hf]
      exact g_iret hx hb hr hlk hK hP hD hS dX0_stepBehind_40
    · have hf := op_neg c_15 hf
      refine lv_iload hx hb dX0_stepBehind_18 (lv_at hl 3 rfl) ?_
      refine lv_iload_n hx hb dX0_stepBehind_20 rfl (lv_at hl 1 rfl) ?_
      refine lv_iload hx hb dX0_stepBehind_21 (lv_at hl 2 rfl) ?_
      obtain ⟨q_23, hc_23, hf⟩ := op_bind hf
      refine g_callNiTM (As := [.int x5, .int x3, .int x4]) (rest := []) (w2 := (w0 cy h0 h1 (a3 160) r0_2 h2 r0_4 s0) ++ (wWa cy h1 a3) ++ (w5 cy h2 a2 s2)) (ms := [w0 cy h0 h1 (a3 160) r0_2 h2 r0_4 s0, wWa cy h1 a3, w5 cy h2 a2 s2]) (mc := []) (m1 := []) (m2 := [w0 cy h0 h1 (a3 160) r0_2 h2 r0_4 s0, wWa cy h1 a3, w5 cy h2 a2 s2]) (nm := 3) ⟨hx, hb, hml, hown, hts⟩ (c_X9_share l D cy _ fu x5 x3 x4 _ hc_23) ⟨va_cnB 3 hts (gi_W cd_X9_share) rfl rfl rfl hE.2.2.1.2.1 (hts _ (List.mem_cons_of_mem _ in_RX9)) hdX9_share ⟨Nat.le_of_ble_eq_true rfl, Nat.le_of_ble_eq_true rfl⟩, hts _ (List.mem_cons_of_mem _ sm_X9_share), trivial⟩ rfl hl.1 rfl (Nat.le_of_ble_eq_true rfl) dX0_stepBehind_23 hK hP hD hS hA [] [0, 1, 2] [0, 1, 2] (by simp only [List.flatten_cons, List.flatten_nil, List.append_nil, List.append_assoc]) (by simp only [List.flatten_cons, List.flatten_nil, List.append_nil, List.append_assoc]) (by simp only [List.flatten_cons, List.flatten_nil, List.append_nil, List.append_assoc]) (by simp only [List.flatten_cons, List.flatten_nil, List.append_nil, List.append_assoc]) rfl rfl (by decide) rfl rfl (by decide) (fun H locs hP hD hS => ?_)
      refine lv_iload_n hx hb dX0_stepBehind_26 rfl (lv_at hl 0 rfl) ?_
      refine lv_icmp_gt (tgt := 33) hx hb dX0_stepBehind_27 (by decide) (fun c_27 => ?_) (fun c_27 => ?_)
      · have hf := op_pos c_27 hf
        refine lv_iinc (v := x5 + (-1)) (lv' := [(5, .int (x5 + (-1))), (2, .int x2), (3, .int x3), (4, .int x4)]) hx hb dX0_stepBehind_33 hl (k := 3) rfl rfl (by decide) rfl (fun ls hl => ?_)
        refine lv_goto (tgt := 13) hx hb dX0_stepBehind_36 (by decide) ?_
        exact ih_13 x2 x3 x4 (x5 + (-1)) hf _ _ ls hP hD hS (lv_sub hl [1, 2, 3, 0] rfl)
      · have hf := op_neg c_27 hf
        refine lv_iload hx hb dX0_stepBehind_30 (lv_at hl 3 rfl) ?_
        rw [← Option.some.inj hf]
        exact g_iret hx hb hr hlk hK hP hD hS dX0_stepBehind_32
def f_X0_stepBehind (fu : Nat) (s0 : St) (s2 : St) (s3 : FSt) (L4 : List Nat) (c4 : Nat → Nat × (Nat → Int32))  (p1 : Int32) (p2 : Int32) (p3 : Int32) : Option (Int32) := (f_X0_stepsOf fu s0 s2 s3 L4 c4 p1).bind (fun q_2 => f_X0_stepBehind_L13 fu s0 s2 s3 L4 c4 fu p2 p3 q_2 (q_2 - 1))
theorem hdX0_stepBehind : yX0_stepBehind.cls = RX0 ∧ yX0_stepBehind.cls ≠ "java/lang/invoke/MethodHandle" ∧ yX0_stepBehind.cls ≠ "java/lang/invoke/VarHandle" ∧ (parseMethodDescriptor yX0_stepBehind.desc).map (fun d => d.parameters.length) = some 3 := by decide +kernel
set_option maxHeartbeats 4000000 in
set_option maxRecDepth 100000 in
theorem c_X0_stepBehind (l : Launch) (D : va_G) (cy : Nat → ClassId) (adK adV : Nat → Nat) (h0 : Nat) (r0_2 : Nat) (r0_4 : Nat) (s0 : St) (h1 : Nat) (h2 : Nat) (a2 : Nat → Nat) (s2 : St)  (a3 : Nat → Nat) (y3 : Nat → Nat) (s3 : FSt)  (L4 : List Nat) (c4 : Nat → Nat × (Nat → Int32)) (sz fu : Nat) (p1 : Int32) (p2 : Int32) (p3 : Int32) (out : Int32) (hf : f_X0_stepBehind fu s0 s2 s3 L4 c4 p1 p2 p3 = some out) :
    Met l yX0_stepBehind (WS yX0_stepBehind cX0_stepBehind 6 (some .int)) ({ frames := 4, cells := 0, slots := 0, locals := 88 } : Room) (va_Pc [.ref h0, .int p1, .int p2, .int p3] (gPE D cy adK adV sz (((w0 cy h0 h1 (a3 160) r0_2 h2 r0_4 s0) ++ (wWa cy h1 a3) ++ (w5 cy h2 a2 s2)) ++ ((wF cy a3 y3 s3) ++ (wK cy L4 c4))))) ((fun A : Nat → Prop => gQi D cy A out (((w0 cy h0 h1 (a3 160) r0_2 h2 r0_4 s0) ++ (wWa cy h1 a3) ++ (w5 cy h2 a2 s2)) ++ ((wF cy a3 y3 s3) ++ (wK cy L4 c4)))) (va_A (((w0 cy h0 h1 (a3 160) r0_2 h2 r0_4 s0) ++ (wWa cy h1 a3) ++ (w5 cy h2 a2 s2)) ++ ((wF cy a3 y3 s3) ++ (wK cy L4 c4))) sz)) 0 0 (va_A (((w0 cy h0 h1 (a3 160) r0_2 h2 r0_4 s0) ++ (wWa cy h1 a3) ++ (w5 cy h2 a2 s2)) ++ ((wF cy a3 y3 s3) ++ (wK cy L4 c4))) sz) := by
  refine g_metE (cc := cX0_stepBehind) (maxL := 6) (ret := (some .int)) (fun A : Nat → Prop => gQi D cy A out (((w0 cy h0 h1 (a3 160) r0_2 h2 r0_4 s0) ++ (wWa cy h1 a3) ++ (w5 cy h2 a2 s2)) ++ ((wF cy a3 y3 s3) ++ (wK cy L4 c4)))) (by decide +kernel) rfl (Nat.le_of_ble_eq_true rfl) ?_
  intro p e s m below meth c A C hA hE hK hP hD ls hl
  obtain ⟨hx, hb, hr, hml, hown, hts, hlk⟩ := id C
  have hown : s.vm.findClass RX0 = some m.cls := hown
  have hS : va_S A s.heap s.heap [] := va_S.rf
  have hl : lv_has ls 6 [(0, .ref h0), (1, .int p1), (2, .int p2), (3, .int p3)] := hl
  unfold f_X0_stepBehind at hf
  refine lv_aload_n hx hb dX0_stepBehind_0 rfl (lv_at hl 0 rfl) ?_
  refine lv_iload_n hx hb dX0_stepBehind_1 rfl (lv_at hl 1 rfl) ?_
  obtain ⟨q_2, hc_2, hf⟩ := op_bind hf
  refine g_callViUM (As := [.int p1]) (rest := []) (w2 := (w0 cy h0 h1 (a3 160) r0_2 h2 r0_4 s0) ++ (wWa cy h1 a3) ++ (w5 cy h2 a2 s2)) (tl1 := (wF cy a3 y3 s3) ++ (wK cy L4 c4)) (ms := [w0 cy h0 h1 (a3 160) r0_2 h2 r0_4 s0, wWa cy h1 a3, w5 cy h2 a2 s2]) (mc := [w0 cy h0 h1 (a3 160) r0_2 h2 r0_4 s0, wWa cy h1 a3, w5 cy h2 a2 s2]) (m1 := [w0 cy h0 h1 (a3 160) r0_2 h2 r0_4 s0, wWa cy h1 a3, w5 cy h2 a2 s2]) (m2 := [w0 cy h0 h1 (a3 160) r0_2 h2 r0_4 s0, wWa cy h1 a3, w5 cy h2 a2 s2]) (nm := 3) ⟨hx, hb, hml, hown, hts⟩ (c_X0_stepsOf l D cy h0 r0_2 r0_4 s0 h1 h2 a2 s2 a3 y3 s3 L4 c4 _ fu p1 _ hc_2) (cwV 1 hts (gi_V ml_RX0_98 im_X0_stepsOf se_X0_stepsOf in_RX0 cd_X0_stepsOf) rfl rfl rfl hdX0_stepsOf ⟨Nat.le_of_ble_eq_true rfl, Nat.le_of_ble_eq_true rfl⟩) (va_recv hK hP (ci := 0) (q0 := 0) rfl rfl) rfl hl.1 rfl (Nat.le_of_ble_eq_true rfl) dX0_stepBehind_2 hK hP hD hS hA [0, 1, 2] [] [0, 1, 2] (by simp only [List.flatten_cons, List.flatten_nil, List.append_nil, List.append_assoc]) (by simp only [List.flatten_cons, List.flatten_nil, List.append_nil, List.append_assoc]) (by simp only [List.flatten_cons, List.flatten_nil, List.append_nil, List.append_assoc]) (by simp only [List.flatten_cons, List.flatten_nil, List.append_nil, List.append_assoc]) rfl rfl (by decide) rfl rfl (by decide) (fun H locs hP hD hS => ?_)
  refine lv_istore (lv' := [(4, .int q_2), (0, .ref h0), (1, .int p1), (2, .int p2), (3, .int p3)]) hx hb dX0_stepBehind_5 hl (by decide) rfl (fun ls hl => ?_)
  refine lv_iload hx hb dX0_stepBehind_7 (lv_at hl 0 rfl) ?_
  refine lv_iconst (v := 1) hx hb dX0_stepBehind_9 (by decide) ?_
  refine lv_isub hx hb dX0_stepBehind_10 ?_
  refine lv_istore (lv' := [(5, .int (q_2 - 1)), (4, .int q_2), (0, .ref h0), (1, .int p1), (2, .int p2), (3, .int p3)]) hx hb dX0_stepBehind_11 hl (by decide) rfl (fun ls hl => ?_)
  exact b_X0_stepBehind_L13 l D cy adK adV h0 r0_2 r0_4 s0 h1 h2 a2 s2 a3 y3 s3 L4 c4 fu out C hA hE hK fu p2 p3 q_2 (q_2 - 1) hf _ _ ls hP hD hS (lv_sub hl [4, 5, 1, 0] rfl)
def f_X0_pageInStep (fu : Nat) (s0 : St) (s2 : St) (s3 : FSt) (L4 : List Nat) (c4 : Nat → Nat × (Nat → Int32))  (p1 : Int32) (p2 : Int32) (p3 : Int32) : Option (Int32) := (f_X0_wordingOf fu s0 s2 p1 p2).bind (fun q_4 => if ltb q_4 161 = true then ((f_X0_stepsOf fu s0 s2 s3 L4 c4 p1).bind (fun q_12 => (f_X9_share fu p3 ((s3.1 q_4).1 4) q_12).bind (fun q_15 => some q_15))) else none)
theorem hdX0_pageInStep : yX0_pageInStep.cls = RX0 ∧ yX0_pageInStep.cls ≠ "java/lang/invoke/MethodHandle" ∧ yX0_pageInStep.cls ≠ "java/lang/invoke/VarHandle" ∧ (parseMethodDescriptor yX0_pageInStep.desc).map (fun d => d.parameters.length) = some 3 := by decide +kernel
set_option maxHeartbeats 4000000 in
set_option maxRecDepth 100000 in
theorem c_X0_pageInStep (l : Launch) (D : va_G) (cy : Nat → ClassId) (adK adV : Nat → Nat) (h0 : Nat) (r0_2 : Nat) (r0_4 : Nat) (s0 : St) (h1 : Nat) (h2 : Nat) (a2 : Nat → Nat) (s2 : St)  (a3 : Nat → Nat) (y3 : Nat → Nat) (s3 : FSt)  (L4 : List Nat) (c4 : Nat → Nat × (Nat → Int32)) (sz fu : Nat) (p1 : Int32) (p2 : Int32) (p3 : Int32) (out : Int32) (hf : f_X0_pageInStep fu s0 s2 s3 L4 c4 p1 p2 p3 = some out) :
    Met l yX0_pageInStep (WS yX0_pageInStep cX0_pageInStep 4 (some .int)) ({ frames := 4, cells := 0, slots := 0, locals := 88 } : Room) (va_Pc [.ref h0, .int p1, .int p2, .int p3] (gPE D cy adK adV sz (((w0 cy h0 h1 (a3 160) r0_2 h2 r0_4 s0) ++ (wWa cy h1 a3) ++ (w5 cy h2 a2 s2)) ++ ((wF cy a3 y3 s3) ++ (wK cy L4 c4))))) ((fun A : Nat → Prop => gQi D cy A out (((w0 cy h0 h1 (a3 160) r0_2 h2 r0_4 s0) ++ (wWa cy h1 a3) ++ (w5 cy h2 a2 s2)) ++ ((wF cy a3 y3 s3) ++ (wK cy L4 c4)))) (va_A (((w0 cy h0 h1 (a3 160) r0_2 h2 r0_4 s0) ++ (wWa cy h1 a3) ++ (w5 cy h2 a2 s2)) ++ ((wF cy a3 y3 s3) ++ (wK cy L4 c4))) sz)) 0 0 (va_A (((w0 cy h0 h1 (a3 160) r0_2 h2 r0_4 s0) ++ (wWa cy h1 a3) ++ (w5 cy h2 a2 s2)) ++ ((wF cy a3 y3 s3) ++ (wK cy L4 c4))) sz) := by
  refine g_metE (cc := cX0_pageInStep) (maxL := 4) (ret := (some .int)) (fun A : Nat → Prop => gQi D cy A out (((w0 cy h0 h1 (a3 160) r0_2 h2 r0_4 s0) ++ (wWa cy h1 a3) ++ (w5 cy h2 a2 s2)) ++ ((wF cy a3 y3 s3) ++ (wK cy L4 c4)))) (by decide +kernel) rfl (Nat.le_of_ble_eq_true rfl) ?_
  intro p e s m below meth c A C hA hE hK hP hD ls hl
  obtain ⟨hx, hb, hr, hml, hown, hts, hlk⟩ := id C
  have hown : s.vm.findClass RX0 = some m.cls := hown
  have hS : va_S A s.heap s.heap [] := va_S.rf
  have hl : lv_has ls 4 [(0, .ref h0), (1, .int p1), (2, .int p2), (3, .int p3)] := hl
  have hk_90 := hts _ (List.mem_cons_of_mem _ fl_RX0_90)
  unfold f_X0_pageInStep at hf
  refine lv_iload_n hx hb dX0_pageInStep_0 rfl (lv_at hl 3 rfl) ?_
  refine lv_aload_n hx hb dX0_pageInStep_1 rfl (lv_at hl 0 rfl) ?_
  refine lv_iload_n hx hb dX0_pageInStep_2 rfl (lv_at hl 1 rfl) ?_
  refine lv_iload_n hx hb dX0_pageInStep_3 rfl (lv_at hl 2 rfl) ?_
  obtain ⟨q_4, hc_4, hf⟩ := op_bind hf
  refine g_callVrTM (As := [.int p1, .int p2]) (rest := [.int p3]) (w2 := (w0 cy h0 h1 (a3 160) r0_2 h2 r0_4 s0) ++ (wWa cy h1 a3) ++ (w5 cy h2 a2 s2)) (ms := [w0 cy h0 h1 (a3 160) r0_2 h2 r0_4 s0, wWa cy h1 a3, w5 cy h2 a2 s2]) (mc := [w0 cy h0 h1 (a3 160) r0_2 h2 r0_4 s0, wWa cy h1 a3, w5 cy h2 a2 s2]) (m1 := [w0 cy h0 h1 (a3 160) r0_2 h2 r0_4 s0, wWa cy h1 a3, w5 cy h2 a2 s2]) (m2 := [w0 cy h0 h1 (a3 160) r0_2 h2 r0_4 s0, wWa cy h1 a3, w5 cy h2 a2 s2]) (nm := 3) ⟨hx, hb, hml, hown, hts⟩ (c_X0_wordingOf l D cy h0 r0_2 r0_4 s0 h1 a3 h2 a2 s2 _ fu p1 p2 _ hc_4) (cwV 2 hts (gi_V ml_RX0_52 im_X0_wordingOf se_X0_wordingOf in_RX0 cd_X0_wordingOf) rfl rfl rfl hdX0_wordingOf ⟨Nat.le_of_ble_eq_true rfl, Nat.le_of_ble_eq_true rfl⟩) (va_recv hK hP (ci := 0) (q0 := 0) rfl rfl) rfl hl.1 rfl (Nat.le_of_ble_eq_true rfl) dX0_pageInStep_4 hK hP hD hS hA [0, 1, 2] [] [0, 1, 2] (by simp only [List.flatten_cons, List.flatten_nil, List.append_nil, List.append_assoc]) (by simp only [List.flatten_cons, List.flatten_nil, List.append_nil, List.append_assoc]) (by simp only [List.flatten_cons, List.flatten_nil, List.append_nil, List.append_assoc]) (by simp only [List.flatten_cons, List.flatten_nil, List.append_nil, List.append_assoc]) rfl rfl (by decide) rfl rfl (by decide) (fun H locs hP hD hS => ?_)
  obtain ⟨hg_7, hf⟩ := op_if hf
  obtain ⟨k9, hk9⟩ := fam_at cy a3 y3 s3 (wK cy L4 c4) ((w0 cy h0 h1 (a3 160) r0_2 h2 r0_4 s0) ++ (wWa cy h1 a3) ++ (w5 cy h2 a2 s2)) (ltb_lt hg_7)
  refine va_get (ci := 7) (v := .int ((s3.1 q_4).1 4)) (C := RX7) (T := TX7) (N := 7) hx hb hts (fun w h => List.mem_cons_of_mem _ (inX7 w h)) hown hK hP k9 hk9 rfl 4 (by decide) hk_90 (fun _ h9 => h9) rfl dX0_pageInStep_7 ?_
  refine lv_aload_n hx hb dX0_pageInStep_10 rfl (lv_at hl 0 rfl) ?_
  refine lv_iload_n hx hb dX0_pageInStep_11 rfl (lv_at hl 1 rfl) ?_
  obtain ⟨q_12, hc_12, hf⟩ := op_bind hf
  refine g_callViUM (As := [.int p1]) (rest := [.int ((s3.1 q_4).1 4), .int p3]) (w2 := (w0 cy h0 h1 (a3 160) r0_2 h2 r0_4 s0) ++ (wWa cy h1 a3) ++ (w5 cy h2 a2 s2)) (tl1 := (wF cy a3 y3 s3) ++ (wK cy L4 c4)) (ms := [w0 cy h0 h1 (a3 160) r0_2 h2 r0_4 s0, wWa cy h1 a3, w5 cy h2 a2 s2]) (mc := [w0 cy h0 h1 (a3 160) r0_2 h2 r0_4 s0, wWa cy h1 a3, w5 cy h2 a2 s2]) (m1 := [w0 cy h0 h1 (a3 160) r0_2 h2 r0_4 s0, wWa cy h1 a3, w5 cy h2 a2 s2]) (m2 := [w0 cy h0 h1 (a3 160) r0_2 h2 r0_4 s0, wWa cy h1 a3, w5 cy h2 a2 s2]) (nm := 3) ⟨hx, hb, hml, hown, hts⟩ (c_X0_stepsOf l D cy h0 r0_2 r0_4 s0 h1 h2 a2 s2 a3 y3 s3 L4 c4 _ fu p1 _ hc_12) (cwV 1 hts (gi_V ml_RX0_98 im_X0_stepsOf se_X0_stepsOf in_RX0 cd_X0_stepsOf) rfl rfl rfl hdX0_stepsOf ⟨Nat.le_of_ble_eq_true rfl, Nat.le_of_ble_eq_true rfl⟩) (va_recv hK hP (ci := 0) (q0 := 0) rfl rfl) rfl hl.1 rfl (Nat.le_of_ble_eq_true rfl) dX0_pageInStep_12 hK hP hD hS hA [0, 1, 2] [] [0, 1, 2] (by simp only [List.flatten_cons, List.flatten_nil, List.append_nil, List.append_assoc]) (by simp only [List.flatten_cons, List.flatten_nil, List.append_nil, List.append_assoc]) (by simp only [List.flatten_cons, List.flatten_nil, List.append_nil, List.append_assoc]) (by simp only [List.flatten_cons, List.flatten_nil, List.append_nil, List.append_assoc]) rfl rfl (by decide) rfl rfl (by decide) (fun H locs hP hD hS => ?_)
  obtain ⟨q_15, hc_15, hf⟩ := op_bind hf
  refine g_callNiTM (As := [.int p3, .int ((s3.1 q_4).1 4), .int q_12]) (rest := []) (w2 := (w0 cy h0 h1 (a3 160) r0_2 h2 r0_4 s0) ++ (wWa cy h1 a3) ++ (w5 cy h2 a2 s2)) (ms := [w0 cy h0 h1 (a3 160) r0_2 h2 r0_4 s0, wWa cy h1 a3, w5 cy h2 a2 s2]) (mc := []) (m1 := []) (m2 := [w0 cy h0 h1 (a3 160) r0_2 h2 r0_4 s0, wWa cy h1 a3, w5 cy h2 a2 s2]) (nm := 3) ⟨hx, hb, hml, hown, hts⟩ (c_X9_share l D cy _ fu p3 ((s3.1 q_4).1 4) q_12 _ hc_15) ⟨va_cnB 3 hts (gi_W cd_X9_share) rfl rfl rfl hE.2.2.1.2.1 (hts _ (List.mem_cons_of_mem _ in_RX9)) hdX9_share ⟨Nat.le_of_ble_eq_true rfl, Nat.le_of_ble_eq_true rfl⟩, hts _ (List.mem_cons_of_mem _ sm_X9_share), trivial⟩ rfl hl.1 rfl (Nat.le_of_ble_eq_true rfl) dX0_pageInStep_15 hK hP hD hS hA [] [0, 1, 2] [0, 1, 2] (by simp only [List.flatten_cons, List.flatten_nil, List.append_nil, List.append_assoc]) (by simp only [List.flatten_cons, List.flatten_nil, List.append_nil, List.append_assoc]) (by simp only [List.flatten_cons, List.flatten_nil, List.append_nil, List.append_assoc]) (by simp only [List.flatten_cons, List.flatten_nil, List.append_nil, List.append_assoc]) rfl rfl (by decide) rfl rfl (by decide) (fun H locs hP hD hS => ?_)
  rw [← Option.some.inj hf]
  exact g_iret hx hb hr hlk hK hP hD hS dX0_pageInStep_18
def f_X0_barsOfPage_L6  (fu : Nat)  : Nat → Int32 → Int32 → Int32 → Int32 → Int32 → Int32 → Option (Int32)
  | 0, _, _, _, _, _, _ => none
  | n_6 + 1, x0, x1, x2, x3, x4, x5 => if x2 ≤ x5 then (some x4) else ((f_X9_share fu x5 x1 x2).bind (fun q_16 => if q_16 = x0 then ((f_X9_share fu (x5 + 1) x3 x2).bind (fun q_31 => (f_X9_share fu x5 x3 x2).bind (fun q_38 => f_X0_barsOfPage_L6 fu n_6 x0 x1 x2 x3 (x4 + (q_31 - q_38)) (x5 + 1)))) else (f_X0_barsOfPage_L6 fu n_6 x0 x1 x2 x3 x4 (x5 + 1))))
set_option maxHeartbeats 4000000 in
set_option maxRecDepth 100000 in
theorem b_X0_barsOfPage_L6 {p : Program} {e : Env} {s : State} {m : MethodId} {args : Array Value} {below : List Frame} {meth : Method} {c : Code} {A : Nat → Prop} (l : Launch) (D : va_G) (cy : Nat → ClassId) (adK adV : Nat → Nat)  (fu : Nat) (out : Int32) (C : gC p s m args meth c (WS yX0_barsOfPage cX0_barsOfPage 6 (some .int)) cX0_barsOfPage 6 (some .int) RX0) (hA : ∀ q : Nat, s.heap.size ≤ q → A q) (hE : gE adK adV A s s.heap) (hK : va_K D vwCl (TY cy) s)  :
    ∀ (n_6 : Nat), ∀ (x0 : Int32) (x1 : Int32) (x2 : Int32) (x3 : Int32) (x4 : Int32) (x5 : Int32), f_X0_barsOfPage_L6 fu n_6 x0 x1 x2 x3 x4 x5 = some out → ∀ (H : Heap) (locs : List Loc) (ls : Array Slot), va_P D vwCl ([] : va_W) H → va_D A ([] : va_W) → va_S A s.heap H locs → lv_has ls 6 [(0, .int x0), (1, .int x1), (2, .int x2), (3, .int x3), (4, .int x4), (5, .int x5)] → W p l e ({ frames := 1, cells := 0, slots := 0, locals := 22 } : Room) s m args below meth c H locs 0 0 (MQ below (gQi D cy A out ([] : va_W)) args s 0 0 A) (F0 m 6 ls []) := by
  obtain ⟨hx, hb, hr, hml, hown, hts, hlk⟩ := id C
  have hown : s.vm.findClass RX0 = some m.cls := hown
  intro n_6
  induction n_6 with
  | zero => intro x0 x1 x2 x3 x4 x5 hf; exact op_no hf
  | succ n_6 ih_6 =>
    intro x0 x1 x2 x3 x4 x5 hf H locs ls hP hD hS hl
    rw [f_X0_barsOfPage_L6] at hf
    refine lv_iload hx hb dX0_barsOfPage_6 (lv_at hl 5 rfl) ?_
    refine lv_iload_n hx hb dX0_barsOfPage_8 rfl (lv_at hl 2 rfl) ?_
    refine lv_icmp_ge (tgt := 51) hx hb dX0_barsOfPage_9 (by decide) (fun c_9 => ?_) (fun c_9 => ?_)
    · have hf := op_pos c_9 hf
      refine lv_iload hx hb dX0_barsOfPage_51 (lv_at hl 4 rfl) ?_
      rw [← Option.some.inj hf]
      exact g_iret hx hb hr hlk hK hP hD hS dX0_barsOfPage_53
    · have hf := op_neg c_9 hf
      refine lv_iload hx hb dX0_barsOfPage_12 (lv_at hl 5 rfl) ?_
      refine lv_iload_n hx hb dX0_barsOfPage_14 rfl (lv_at hl 1 rfl) ?_
      refine lv_iload_n hx hb dX0_barsOfPage_15 rfl (lv_at hl 2 rfl) ?_
      obtain ⟨q_16, hc_16, hf⟩ := op_bind hf
      refine g_callNi (As := [.int x5, .int x1, .int x2]) (rest := []) (w2 := ([] : va_W)) ⟨hx, hb, hml, hown, hts⟩ (c_X9_share l D cy _ fu x5 x1 x2 _ hc_16) ⟨va_cnB 3 hts (gi_W cd_X9_share) rfl rfl rfl hE.2.2.1.2.1 (hts _ (List.mem_cons_of_mem _ in_RX9)) hdX9_share ⟨Nat.le_of_ble_eq_true rfl, Nat.le_of_ble_eq_true rfl⟩, hts _ (List.mem_cons_of_mem _ sm_X9_share), trivial⟩ rfl hl.1 rfl (Nat.le_of_ble_eq_true rfl) dX0_barsOfPage_16 hK hP hD hS hA [] [] [] rfl rfl rfl rfl (by decide) rfl rfl (fun H locs hP hD hS => ?_)
      refine lv_iload_n hx hb dX0_barsOfPage_19 rfl (lv_at hl 0 rfl) ?_
      refine lv_icmp_ne (tgt := 45) hx hb dX0_barsOfPage_20 (by decide) (fun c_20 => ?_) (fun c_20 => ?_)
      · have hf := op_neg c_20 hf
        refine lv_iinc (v := x5 + 1) (lv' := [(5, .int (x5 + 1)), (0, .int x0), (1, .int x1), (2, .int x2), (3, .int x3), (4, .int x4)]) hx hb dX0_barsOfPage_45 hl (k := 5) rfl rfl (by decide) rfl (fun ls hl => ?_)
        refine lv_goto (tgt := 6) hx hb dX0_barsOfPage_48 (by decide) ?_
        exact ih_6 x0 x1 x2 x3 x4 (x5 + 1) hf _ _ ls hP hD hS (lv_sub hl [1, 2, 3, 4, 5, 0] rfl)
      · have hf := op_pos c_20 hf
        refine lv_iload hx hb dX0_barsOfPage_23 (lv_at hl 4 rfl) ?_
        refine lv_iload hx hb dX0_barsOfPage_25 (lv_at hl 5 rfl) ?_
        refine lv_iconst (v := 1) hx hb dX0_barsOfPage_27 (by decide) ?_
        refine lv_iadd hx hb dX0_barsOfPage_28 ?_
        refine lv_iload_n hx hb dX0_barsOfPage_29 rfl (lv_at hl 3 rfl) ?_
        refine lv_iload_n hx hb dX0_barsOfPage_30 rfl (lv_at hl 2 rfl) ?_
        obtain ⟨q_31, hc_31, hf⟩ := op_bind hf
        refine g_callNi (As := [.int (x5 + 1), .int x3, .int x2]) (rest := [.int x4]) (w2 := ([] : va_W)) ⟨hx, hb, hml, hown, hts⟩ (c_X9_share l D cy _ fu (x5 + 1) x3 x2 _ hc_31) ⟨va_cnB 3 hts (gi_W cd_X9_share) rfl rfl rfl hE.2.2.1.2.1 (hts _ (List.mem_cons_of_mem _ in_RX9)) hdX9_share ⟨Nat.le_of_ble_eq_true rfl, Nat.le_of_ble_eq_true rfl⟩, hts _ (List.mem_cons_of_mem _ sm_X9_share), trivial⟩ rfl hl.1 rfl (Nat.le_of_ble_eq_true rfl) dX0_barsOfPage_31 hK hP hD hS hA [] [] [] rfl rfl rfl rfl (by decide) rfl rfl (fun H locs hP hD hS => ?_)
        refine lv_iload hx hb dX0_barsOfPage_34 (lv_at hl 5 rfl) ?_
        refine lv_iload_n hx hb dX0_barsOfPage_36 rfl (lv_at hl 3 rfl) ?_
        refine lv_iload_n hx hb dX0_barsOfPage_37 rfl (lv_at hl 2 rfl) ?_
        obtain ⟨q_38, hc_38, hf⟩ := op_bind hf
        refine g_callNi (As := [.int x5, .int x3, .int x2]) (rest := [.int q_31, .int x4]) (w2 := ([] : va_W)) ⟨hx, hb, hml, hown, hts⟩ (c_X9_share l D cy _ fu x5 x3 x2 _ hc_38) ⟨va_cnB 3 hts (gi_W cd_X9_share) rfl rfl rfl hE.2.2.1.2.1 (hts _ (List.mem_cons_of_mem _ in_RX9)) hdX9_share ⟨Nat.le_of_ble_eq_true rfl, Nat.le_of_ble_eq_true rfl⟩, hts _ (List.mem_cons_of_mem _ sm_X9_share), trivial⟩ rfl hl.1 rfl (Nat.le_of_ble_eq_true rfl) dX0_barsOfPage_38 hK hP hD hS hA [] [] [] rfl rfl rfl rfl (by decide) rfl rfl (fun H locs hP hD hS => ?_)
        refine lv_isub hx hb dX0_barsOfPage_41 ?_
        refine lv_iadd hx hb dX0_barsOfPage_42 ?_
        refine lv_istore (lv' := [(4, .int (x4 + (q_31 - q_38))), (0, .int x0), (1, .int x1), (2, .int x2), (3, .int x3), (5, .int x5)]) hx hb dX0_barsOfPage_43 hl (by decide) rfl (fun ls hl => ?_)
        refine lv_iinc (v := x5 + 1) (lv' := [(5, .int (x5 + 1)), (4, .int (x4 + (q_31 - q_38))), (0, .int x0), (1, .int x1), (2, .int x2), (3, .int x3)]) hx hb dX0_barsOfPage_45 hl (k := 5) rfl rfl (by decide) rfl (fun ls hl => ?_)
        refine lv_goto (tgt := 6) hx hb dX0_barsOfPage_48 (by decide) ?_
        exact ih_6 x0 x1 x2 x3 (x4 + (q_31 - q_38)) (x5 + 1) hf _ _ ls hP hD hS (lv_sub hl [2, 3, 4, 5, 1, 0] rfl)
def f_X0_barsOfPage (fu : Nat)   (p0 : Int32) (p1 : Int32) (p2 : Int32) (p3 : Int32) : Option (Int32) := f_X0_barsOfPage_L6 fu fu p0 p1 p2 p3 0 0
theorem hdX0_barsOfPage : yX0_barsOfPage.cls ≠ "java/lang/invoke/MethodHandle" ∧ yX0_barsOfPage.cls ≠ "java/lang/invoke/VarHandle" ∧ (parseMethodDescriptor yX0_barsOfPage.desc).map (fun d => d.parameters.length) = some 4 := by decide +kernel
set_option maxHeartbeats 4000000 in
set_option maxRecDepth 100000 in
theorem c_X0_barsOfPage (l : Launch) (D : va_G) (cy : Nat → ClassId) (adK adV : Nat → Nat)  (sz fu : Nat) (p0 : Int32) (p1 : Int32) (p2 : Int32) (p3 : Int32) (out : Int32) (hf : f_X0_barsOfPage fu p0 p1 p2 p3 = some out) :
    Met l yX0_barsOfPage (WS yX0_barsOfPage cX0_barsOfPage 6 (some .int)) ({ frames := 1, cells := 0, slots := 0, locals := 22 } : Room) (va_Pc [.int p0, .int p1, .int p2, .int p3] (gPE D cy adK adV sz ([] : va_W))) ((fun A : Nat → Prop => gQi D cy A out ([] : va_W)) (va_A ([] : va_W) sz)) 0 0 (va_A ([] : va_W) sz) := by
  refine g_metE (cc := cX0_barsOfPage) (maxL := 6) (ret := (some .int)) (fun A : Nat → Prop => gQi D cy A out ([] : va_W)) (by decide +kernel) rfl (Nat.le_of_ble_eq_true rfl) ?_
  intro p e s m below meth c A C hA hE hK hP hD ls hl
  obtain ⟨hx, hb, hr, hml, hown, hts, hlk⟩ := id C
  have hown : s.vm.findClass RX0 = some m.cls := hown
  have hS : va_S A s.heap s.heap [] := va_S.rf
  have hl : lv_has ls 6 [(0, .int p0), (1, .int p1), (2, .int p2), (3, .int p3)] := hl
  unfold f_X0_barsOfPage at hf
  refine lv_iconst (v := 0) hx hb dX0_barsOfPage_0 (by decide) ?_
  refine lv_istore (lv' := [(4, .int 0), (0, .int p0), (1, .int p1), (2, .int p2), (3, .int p3)]) hx hb dX0_barsOfPage_1 hl (by decide) rfl (fun ls hl => ?_)
  refine lv_iconst (v := 0) hx hb dX0_barsOfPage_3 (by decide) ?_
  refine lv_istore (lv' := [(5, .int 0), (4, .int 0), (0, .int p0), (1, .int p1), (2, .int p2), (3, .int p3)]) hx hb dX0_barsOfPage_4 hl (by decide) rfl (fun ls hl => ?_)
  exact b_X0_barsOfPage_L6 l D cy adK adV fu out C hA hE hK fu p0 p1 p2 p3 0 0 hf _ _ ls hP hD hS (lv_sub hl [2, 3, 4, 5, 1, 0] rfl)
def f_X0_shortOf_L47 (k_12 : Int32 → Int32 → Int32 → Int32 → Int32 → Option (Int32)) (fu : Nat) (s0 : St) (s2 : St) (s3 : FSt) (L4 : List Nat) (c4 : Nat → Nat × (Nat → Int32)) : Nat → Int32 → Int32 → Int32 → Int32 → Int32 → Nat → Int32 → Int32 → Option (Int32)
  | 0, _, _, _, _, _, _, _, _ => none
  | n_47 + 1, x1, x2, x3, x4, x5, z6, x7, x8 => if ltb z6 161 = true then (if ((s3.1 z6).1 4) ≤ x8 then (k_12 x1 x2 x3 x4 (x5 + 1)) else (if ltb z6 161 = true then ((f_X7_signsOf fu (s3.1 z6) x8).bind (fun q_62 => (f_X9_share fu 1 ((q_62 + x7) - 1) x7).bind (fun q_72 => (f_X5_beatsOfBar fu s2).bind (fun q_81 => if ltb z6 161 = true then ((f_X0_barsOfPage fu x8 ((s3.1 z6).1 4) x3 x2).bind (fun q_93 => f_X0_shortOf_L47 k_12 fu s0 s2 s3 L4 c4 n_47 x1 x2 x3 (if x4 < (q_72 - (q_81 * q_93)) then (q_72 - (q_81 * q_93)) else x4) x5 z6 x7 (x8 + 1))) else none)))) else none)) else none
set_option maxHeartbeats 4000000 in
set_option maxRecDepth 100000 in
theorem b_X0_shortOf_L47 {p : Program} {e : Env} {s : State} {m : MethodId} {args : Array Value} {below : List Frame} {meth : Method} {c : Code} {A : Nat → Prop} (l : Launch) (D : va_G) (cy : Nat → ClassId) (adK adV : Nat → Nat) (h0 : Nat) (r0_2 : Nat) (r0_4 : Nat) (s0 : St) (h1 : Nat) (h2 : Nat) (a2 : Nat → Nat) (s2 : St)  (a3 : Nat → Nat) (y3 : Nat → Nat) (s3 : FSt)  (L4 : List Nat) (c4 : Nat → Nat × (Nat → Int32)) (fu : Nat) (out : Int32) (C : gC p s m args meth c (WS yX0_shortOf cX0_shortOf 11 (some .int)) cX0_shortOf 11 (some .int) RX0) (hA : ∀ q : Nat, s.heap.size ≤ q → A q) (hE : gE adK adV A s s.heap) (hK : va_K D vwCl (TY cy) s) (k_12 : Int32 → Int32 → Int32 → Int32 → Int32 → Option (Int32)) (hk_12 : ∀ (x1 : Int32) (x2 : Int32) (x3 : Int32) (x4 : Int32) (x5 : Int32), k_12 x1 x2 x3 x4 x5 = some out → ∀ (H : Heap) (locs : List Loc) (ls : Array Slot), va_P D vwCl (((w0 cy h0 h1 (a3 160) r0_2 h2 r0_4 s0) ++ (wWa cy h1 a3) ++ (w5 cy h2 a2 s2)) ++ ((wF cy a3 y3 s3) ++ (wK cy L4 c4))) H → va_D A (((w0 cy h0 h1 (a3 160) r0_2 h2 r0_4 s0) ++ (wWa cy h1 a3) ++ (w5 cy h2 a2 s2)) ++ ((wF cy a3 y3 s3) ++ (wK cy L4 c4))) → va_S A s.heap H locs → lv_has ls 11 [(0, .ref h0), (1, .int x1), (2, .int x2), (3, .int x3), (4, .int x4), (5, .int x5)] → W p l e ({ frames := 4, cells := 0, slots := 0, locals := 88 } : Room) s m args below meth c H locs 0 0 (MQ below (gQi D cy A out (((w0 cy h0 h1 (a3 160) r0_2 h2 r0_4 s0) ++ (wWa cy h1 a3) ++ (w5 cy h2 a2 s2)) ++ ((wF cy a3 y3 s3) ++ (wK cy L4 c4)))) args s 0 0 A) (F0 m 12 ls [])) :
    ∀ (n_47 : Nat), ∀ (x1 : Int32) (x2 : Int32) (x3 : Int32) (x4 : Int32) (x5 : Int32) (z6 : Nat) (x7 : Int32) (x8 : Int32), f_X0_shortOf_L47 k_12 fu s0 s2 s3 L4 c4 n_47 x1 x2 x3 x4 x5 z6 x7 x8 = some out → ∀ (H : Heap) (locs : List Loc) (ls : Array Slot), va_P D vwCl (((w0 cy h0 h1 (a3 160) r0_2 h2 r0_4 s0) ++ (wWa cy h1 a3) ++ (w5 cy h2 a2 s2)) ++ ((wF cy a3 y3 s3) ++ (wK cy L4 c4))) H → va_D A (((w0 cy h0 h1 (a3 160) r0_2 h2 r0_4 s0) ++ (wWa cy h1 a3) ++ (w5 cy h2 a2 s2)) ++ ((wF cy a3 y3 s3) ++ (wK cy L4 c4))) → va_S A s.heap H locs → lv_has ls 11 [(0, .ref h0), (1, .int x1), (2, .int x2), (3, .int x3), (4, .int x4), (5, .int x5), (6, .ref (a3 z6)), (7, .int x7), (8, .int x8)] → W p l e ({ frames := 4, cells := 0, slots := 0, locals := 88 } : Room) s m args below meth c H locs 0 0 (MQ below (gQi D cy A out (((w0 cy h0 h1 (a3 160) r0_2 h2 r0_4 s0) ++ (wWa cy h1 a3) ++ (w5 cy h2 a2 s2)) ++ ((wF cy a3 y3 s3) ++ (wK cy L4 c4)))) args s 0 0 A) (F0 m 47 ls []) := by
  obtain ⟨hx, hb, hr, hml, hown, hts, hlk⟩ := id C
  have hown : s.vm.findClass RX0 = some m.cls := hown
  have hk_90 := hts _ (List.mem_cons_of_mem _ fl_RX0_90)
  have hk_24 := hts _ (List.mem_cons_of_mem _ fl_RX0_24)
  have hml_93 := hts _ (List.mem_cons_of_mem _ ml_RX0_93)
  have hms_max := hts _ (List.mem_cons_of_mem _ sm_max)
  have hmi_max := hts _ (List.mem_cons_of_mem _ in_Math)
  have hmc_max := hts _ (List.mem_cons_of_mem _ cd_max)
  intro n_47
  induction n_47 with
  | zero => intro x1 x2 x3 x4 x5 z6 x7 x8 hf; exact op_no hf
  | succ n_47 ih_47 =>
    intro x1 x2 x3 x4 x5 z6 x7 x8 hf H locs ls hP hD hS hl
    rw [f_X0_shortOf_L47] at hf
    refine lv_iload hx hb dX0_shortOf_47 (lv_at hl 8 rfl) ?_
    refine lv_aload hx hb dX0_shortOf_49 (lv_at hl 6 rfl) ?_
    obtain ⟨hg_51, hf⟩ := op_if hf
    obtain ⟨k9, hk9⟩ := fam_at cy a3 y3 s3 (wK cy L4 c4) ((w0 cy h0 h1 (a3 160) r0_2 h2 r0_4 s0) ++ (wWa cy h1 a3) ++ (w5 cy h2 a2 s2)) (ltb_lt hg_51)
    refine va_get (ci := 7) (v := .int ((s3.1 z6).1 4)) (C := RX7) (T := TX7) (N := 7) hx hb hts (fun w h => List.mem_cons_of_mem _ (inX7 w h)) hown hK hP k9 hk9 rfl 4 (by decide) hk_90 (fun _ h9 => h9) rfl dX0_shortOf_51 ?_
    refine lv_icmp_ge (tgt := 117) hx hb dX0_shortOf_54 (by decide) (fun c_54 => ?_) (fun c_54 => ?_)
    · have hf := op_pos c_54 hf
      refine lv_iinc (v := x5 + 1) (lv' := [(5, .int (x5 + 1)), (0, .ref h0), (1, .int x1), (2, .int x2), (3, .int x3), (4, .int x4), (6, .ref (a3 z6)), (7, .int x7), (8, .int x8)]) hx hb dX0_shortOf_117 hl (k := 5) rfl rfl (by decide) rfl (fun ls hl => ?_)
      refine lv_goto (tgt := 12) hx hb dX0_shortOf_120 (by decide) ?_
      exact hk_12 x1 x2 x3 x4 (x5 + 1) hf _ _ ls hP hD hS (lv_sub hl [1, 2, 3, 4, 5, 0] rfl)
    · have hf := op_neg c_54 hf
      refine lv_iconst (v := 1) hx hb dX0_shortOf_57 (by decide) ?_
      refine lv_aload hx hb dX0_shortOf_58 (lv_at hl 6 rfl) ?_
      refine lv_iload hx hb dX0_shortOf_60 (lv_at hl 8 rfl) ?_
      obtain ⟨hj_62, hf⟩ := op_if hf
      obtain ⟨q_62, hc_62, hf⟩ := op_bind hf
      have hP := va_P_perm (foc7 cy a3 y3 s3 (wK cy L4 c4) ((w0 cy h0 h1 (a3 160) r0_2 h2 r0_4 s0) ++ (wWa cy h1 a3) ++ (w5 cy h2 a2 s2)) (ltb_lt hj_62)) hP
      have hD := va_D_perm (foc7 cy a3 y3 s3 (wK cy L4 c4) ((w0 cy h0 h1 (a3 160) r0_2 h2 r0_4 s0) ++ (wWa cy h1 a3) ++ (w5 cy h2 a2 s2)) (ltb_lt hj_62)) hD
      refine g_callViTM (As := [.int x8]) (rest := [.int 1]) (w2 := (w0 cy h0 h1 (a3 160) r0_2 h2 r0_4 s0) ++ (wWa cy h1 a3) ++ (w5 cy h2 a2 s2) ++ (w7 cy (a3 z6) (s3.2 z6) (fun _ => y3 z6) (s3.1 z6))) (ms := [w0 cy h0 h1 (a3 160) r0_2 h2 r0_4 s0, wWa cy h1 a3, w5 cy h2 a2 s2, w7 cy (a3 z6) (s3.2 z6) (fun _ => y3 z6) (s3.1 z6)]) (mc := [w7 cy (a3 z6) (s3.2 z6) (fun _ => y3 z6) (s3.1 z6)]) (m1 := [w7 cy (a3 z6) (s3.2 z6) (fun _ => y3 z6) (s3.1 z6)]) (m2 := [w0 cy h0 h1 (a3 160) r0_2 h2 r0_4 s0, wWa cy h1 a3, w5 cy h2 a2 s2, w7 cy (a3 z6) (s3.2 z6) (fun _ => y3 z6) (s3.1 z6)]) (nm := 4) ⟨hx, hb, hml, hown, hts⟩ (c_X7_signsOf l D cy (a3 z6) (s3.2 z6) (fun _ => y3 z6) (s3.1 z6) _ fu x8 _ hc_62) (cwV 1 hts (gi_V ml_RX0_108 im_X7_signsOf se_X7_signsOf in_RX7 cd_X7_signsOf) rfl rfl rfl hdX7_signsOf ⟨Nat.le_of_ble_eq_true rfl, Nat.le_of_ble_eq_true rfl⟩) (va_recv hK hP (ci := 7) (q0 := 11) rfl rfl) rfl hl.1 rfl (Nat.le_of_ble_eq_true rfl) dX0_shortOf_62 hK hP hD hS hA [3] [0, 1, 2] [0, 1, 2, 3] (by simp only [List.flatten_cons, List.flatten_nil, List.append_nil, List.append_assoc]) (by simp only [List.flatten_cons, List.flatten_nil, List.append_nil, List.append_assoc]) (by simp only [List.flatten_cons, List.flatten_nil, List.append_nil, List.append_assoc]) (by simp only [List.flatten_cons, List.flatten_nil, List.append_nil, List.append_assoc]) rfl rfl (by decide) rfl rfl (by decide) (fun H locs hP hD hS => ?_)
      have hP := va_P_perm (foc7 cy a3 y3 s3 (wK cy L4 c4) ((w0 cy h0 h1 (a3 160) r0_2 h2 r0_4 s0) ++ (wWa cy h1 a3) ++ (w5 cy h2 a2 s2)) (ltb_lt hj_62)).symm hP
      have hD := va_D_perm (foc7 cy a3 y3 s3 (wK cy L4 c4) ((w0 cy h0 h1 (a3 160) r0_2 h2 r0_4 s0) ++ (wWa cy h1 a3) ++ (w5 cy h2 a2 s2)) (ltb_lt hj_62)).symm hD
      refine lv_iload hx hb dX0_shortOf_65 (lv_at hl 7 rfl) ?_
      refine lv_iadd hx hb dX0_shortOf_67 ?_
      refine lv_iconst (v := 1) hx hb dX0_shortOf_68 (by decide) ?_
      refine lv_isub hx hb dX0_shortOf_69 ?_
      refine lv_iload hx hb dX0_shortOf_70 (lv_at hl 7 rfl) ?_
      obtain ⟨q_72, hc_72, hf⟩ := op_bind hf
      refine g_callNiTM (As := [.int 1, .int ((q_62 + x7) - 1), .int x7]) (rest := []) (w2 := (w0 cy h0 h1 (a3 160) r0_2 h2 r0_4 s0) ++ (wWa cy h1 a3) ++ (w5 cy h2 a2 s2)) (ms := [w0 cy h0 h1 (a3 160) r0_2 h2 r0_4 s0, wWa cy h1 a3, w5 cy h2 a2 s2]) (mc := []) (m1 := []) (m2 := [w0 cy h0 h1 (a3 160) r0_2 h2 r0_4 s0, wWa cy h1 a3, w5 cy h2 a2 s2]) (nm := 3) ⟨hx, hb, hml, hown, hts⟩ (c_X9_share l D cy _ fu 1 ((q_62 + x7) - 1) x7 _ hc_72) ⟨va_cnB 3 hts (gi_W cd_X9_share) rfl rfl rfl hE.2.2.1.2.1 (hts _ (List.mem_cons_of_mem _ in_RX9)) hdX9_share ⟨Nat.le_of_ble_eq_true rfl, Nat.le_of_ble_eq_true rfl⟩, hts _ (List.mem_cons_of_mem _ sm_X9_share), trivial⟩ rfl hl.1 rfl (Nat.le_of_ble_eq_true rfl) dX0_shortOf_72 hK hP hD hS hA [] [0, 1, 2] [0, 1, 2] (by simp only [List.flatten_cons, List.flatten_nil, List.append_nil, List.append_assoc]) (by simp only [List.flatten_cons, List.flatten_nil, List.append_nil, List.append_assoc]) (by simp only [List.flatten_cons, List.flatten_nil, List.append_nil, List.append_assoc]) (by simp only [List.flatten_cons, List.flatten_nil, List.append_nil, List.append_assoc]) rfl rfl (by decide) rfl rfl (by decide) (fun H locs hP hD hS => ?_)
      refine lv_istore (lv' := [(9, .int q_72), (0, .ref h0), (1, .int x1), (2, .int x2), (3, .int x3), (4, .int x4), (5, .int x5), (6, .ref (a3 z6)), (7, .int x7), (8, .int x8)]) hx hb dX0_shortOf_75 hl (by decide) rfl (fun ls hl => ?_)
      refine lv_aload_n hx hb dX0_shortOf_77 rfl (lv_at hl 1 rfl) ?_
      refine va_get (ci := 0) (v := .ref h2) (C := RX0) (T := TX0) (N := 5) hx hb hts (fun w h => List.mem_cons_of_mem _ (inX0 w h)) hown hK hP 0 rfl rfl 3 (by decide) hk_24 (fun _ h9 => h9) rfl dX0_shortOf_78 ?_
      obtain ⟨q_81, hc_81, hf⟩ := op_bind hf
      refine g_callViTM (As := []) (rest := []) (w2 := (w0 cy h0 h1 (a3 160) r0_2 h2 r0_4 s0) ++ (wWa cy h1 a3) ++ (w5 cy h2 a2 s2)) (ms := [w0 cy h0 h1 (a3 160) r0_2 h2 r0_4 s0, wWa cy h1 a3, w5 cy h2 a2 s2]) (mc := [w5 cy h2 a2 s2]) (m1 := [w5 cy h2 a2 s2]) (m2 := [w0 cy h0 h1 (a3 160) r0_2 h2 r0_4 s0, wWa cy h1 a3, w5 cy h2 a2 s2]) (nm := 3) ⟨hx, hb, hml, hown, hts⟩ (c_X5_beatsOfBar l D cy h2 a2 s2 _ fu _ hc_81) (cwV 0 hts (gi_V ml_RX0_111 im_X5_beatsOfBar se_X5_beatsOfBar in_RX5 cd_X5_beatsOfBar) rfl rfl rfl hdX5_beatsOfBar ⟨Nat.le_of_ble_eq_true rfl, Nat.le_of_ble_eq_true rfl⟩) (va_recv hK hP (ci := 5) (q0 := 2) rfl rfl) rfl hl.1 rfl (Nat.le_of_ble_eq_true rfl) dX0_shortOf_81 hK hP hD hS hA [2] [0, 1] [0, 1, 2] (by simp only [List.flatten_cons, List.flatten_nil, List.append_nil, List.append_assoc]) (by simp only [List.flatten_cons, List.flatten_nil, List.append_nil, List.append_assoc]) (by simp only [List.flatten_cons, List.flatten_nil, List.append_nil, List.append_assoc]) (by simp only [List.flatten_cons, List.flatten_nil, List.append_nil, List.append_assoc]) rfl rfl (by decide) rfl rfl (by decide) (fun H locs hP hD hS => ?_)
      refine lv_iload hx hb dX0_shortOf_84 (lv_at hl 9 rfl) ?_
      refine lv_aload hx hb dX0_shortOf_86 (lv_at hl 7 rfl) ?_
      obtain ⟨hg_88, hf⟩ := op_if hf
      obtain ⟨k9, hk9⟩ := fam_at cy a3 y3 s3 (wK cy L4 c4) ((w0 cy h0 h1 (a3 160) r0_2 h2 r0_4 s0) ++ (wWa cy h1 a3) ++ (w5 cy h2 a2 s2)) (ltb_lt hg_88)
      refine va_get (ci := 7) (v := .int ((s3.1 z6).1 4)) (C := RX7) (T := TX7) (N := 7) hx hb hts (fun w h => List.mem_cons_of_mem _ (inX7 w h)) hown hK hP k9 hk9 rfl 4 (by decide) hk_90 (fun _ h9 => h9) rfl dX0_shortOf_88 ?_
      refine lv_iload_n hx hb dX0_shortOf_91 rfl (lv_at hl 4 rfl) ?_
      refine lv_iload_n hx hb dX0_shortOf_92 rfl (lv_at hl 3 rfl) ?_
      obtain ⟨q_93, hc_93, hf⟩ := op_bind hf
      refine g_callSiTME (As := [.int x8, .int ((s3.1 z6).1 4), .int x3, .int x2]) (rest := [.int q_81]) (w2 := (w0 cy h0 h1 (a3 160) r0_2 h2 r0_4 s0) ++ (wWa cy h1 a3) ++ (w5 cy h2 a2 s2)) (ms := [w0 cy h0 h1 (a3 160) r0_2 h2 r0_4 s0, wWa cy h1 a3, w5 cy h2 a2 s2]) (mc := []) (m1 := []) (m2 := [w0 cy h0 h1 (a3 160) r0_2 h2 r0_4 s0, wWa cy h1 a3, w5 cy h2 a2 s2]) (nm := 3) ⟨hx, hb, hml, hown, hts⟩ (c_X0_barsOfPage l D cy adK adV _ fu x8 ((s3.1 z6).1 4) x3 x2 _ hc_93) (va_cwS 4 hts (gi_S ml_RX0_115 sm_X0_barsOfPage in_RX0 cd_X0_barsOfPage) rfl rfl rfl hdX0_barsOfPage ⟨Nat.le_of_ble_eq_true rfl, Nat.le_of_ble_eq_true rfl⟩) rfl hl.1 rfl (Nat.le_of_ble_eq_true rfl) dX0_shortOf_93 hE hK hP hD hS hA [] [0, 1, 2] [0, 1, 2] (by simp only [List.flatten_cons, List.flatten_nil, List.append_nil, List.append_assoc]) (by simp only [List.flatten_cons, List.flatten_nil, List.append_nil, List.append_assoc]) (by simp only [List.flatten_cons, List.flatten_nil, List.append_nil, List.append_assoc]) (by simp only [List.flatten_cons, List.flatten_nil, List.append_nil, List.append_assoc]) rfl rfl (by decide) rfl rfl (by decide) (fun H locs hP hD hS => ?_)
      refine lv_imul hx hb dX0_shortOf_96 ?_
      refine lv_istore (lv' := [(10, .int (q_81 * q_93)), (9, .int q_72), (0, .ref h0), (1, .int x1), (2, .int x2), (3, .int x3), (4, .int x4), (5, .int x5), (6, .ref (a3 z6)), (7, .int x7), (8, .int x8)]) hx hb dX0_shortOf_97 hl (by decide) rfl (fun ls hl => ?_)
      refine lv_iload hx hb dX0_shortOf_99 (lv_at hl 6 rfl) ?_
      refine lv_iload hx hb dX0_shortOf_101 (lv_at hl 1 rfl) ?_
      refine lv_iload hx hb dX0_shortOf_103 (lv_at hl 0 rfl) ?_
      refine lv_isub hx hb dX0_shortOf_105 ?_
      refine va_mmax hx hb (hml.trans hl.1.symm) hown hml_93 hms_max hmi_max hmc_max (Nat.le_of_ble_eq_true rfl) (Nat.le_of_ble_eq_true rfl) (Nat.zero_le _) (Nat.zero_le _) dX0_shortOf_106 ?_
      refine lv_istore (lv' := [(4, .int (if x4 < (q_72 - (q_81 * q_93)) then (q_72 - (q_81 * q_93)) else x4)), (10, .int (q_81 * q_93)), (9, .int q_72), (0, .ref h0), (1, .int x1), (2, .int x2), (3, .int x3), (5, .int x5), (6, .ref (a3 z6)), (7, .int x7), (8, .int x8)]) hx hb dX0_shortOf_109 hl (by decide) rfl (fun ls hl => ?_)
      refine lv_iinc (v := x8 + 1) (lv' := [(8, .int (x8 + 1)), (4, .int (if x4 < (q_72 - (q_81 * q_93)) then (q_72 - (q_81 * q_93)) else x4)), (10, .int (q_81 * q_93)), (9, .int q_72), (0, .ref h0), (1, .int x1), (2, .int x2), (3, .int x3), (5, .int x5), (6, .ref (a3 z6)), (7, .int x7)]) hx hb dX0_shortOf_111 hl (k := 10) rfl rfl (by decide) rfl (fun ls hl => ?_)
      refine lv_goto (tgt := 47) hx hb dX0_shortOf_114 (by decide) ?_
      exact ih_47 x1 x2 x3 (if x4 < (q_72 - (q_81 * q_93)) then (q_72 - (q_81 * q_93)) else x4) x5 z6 x7 (x8 + 1) hf _ _ ls hP hD hS (lv_sub hl [4, 5, 6, 7, 1, 8, 9, 10, 0] rfl)
def f_X0_shortOf_L12  (fu : Nat) (s0 : St) (s2 : St) (s3 : FSt) (L4 : List Nat) (c4 : Nat → Nat × (Nat → Int32)) : Nat → Int32 → Int32 → Int32 → Int32 → Int32 → Option (Int32)
  | 0, _, _, _, _, _ => none
  | n_12 + 1, x1, x2, x3, x4, x5 => if (s2.1 0) ≤ x5 then (some x4) else ((f_X0_wordingOf fu s0 s2 x1 x5).bind (fun q_28 => (f_X5_speedOf fu s2 x5).bind (fun q_39 => f_X0_shortOf_L47 (f_X0_shortOf_L12 fu s0 s2 s3 L4 c4 n_12) fu s0 s2 s3 L4 c4 fu x1 x2 x3 x4 x5 q_28 q_39 0)))
set_option maxHeartbeats 4000000 in
set_option maxRecDepth 100000 in
theorem b_X0_shortOf_L12 {p : Program} {e : Env} {s : State} {m : MethodId} {args : Array Value} {below : List Frame} {meth : Method} {c : Code} {A : Nat → Prop} (l : Launch) (D : va_G) (cy : Nat → ClassId) (adK adV : Nat → Nat) (h0 : Nat) (r0_2 : Nat) (r0_4 : Nat) (s0 : St) (h1 : Nat) (h2 : Nat) (a2 : Nat → Nat) (s2 : St)  (a3 : Nat → Nat) (y3 : Nat → Nat) (s3 : FSt)  (L4 : List Nat) (c4 : Nat → Nat × (Nat → Int32)) (fu : Nat) (out : Int32) (C : gC p s m args meth c (WS yX0_shortOf cX0_shortOf 11 (some .int)) cX0_shortOf 11 (some .int) RX0) (hA : ∀ q : Nat, s.heap.size ≤ q → A q) (hE : gE adK adV A s s.heap) (hK : va_K D vwCl (TY cy) s)  :
    ∀ (n_12 : Nat), ∀ (x1 : Int32) (x2 : Int32) (x3 : Int32) (x4 : Int32) (x5 : Int32), f_X0_shortOf_L12 fu s0 s2 s3 L4 c4 n_12 x1 x2 x3 x4 x5 = some out → ∀ (H : Heap) (locs : List Loc) (ls : Array Slot), va_P D vwCl (((w0 cy h0 h1 (a3 160) r0_2 h2 r0_4 s0) ++ (wWa cy h1 a3) ++ (w5 cy h2 a2 s2)) ++ ((wF cy a3 y3 s3) ++ (wK cy L4 c4))) H → va_D A (((w0 cy h0 h1 (a3 160) r0_2 h2 r0_4 s0) ++ (wWa cy h1 a3) ++ (w5 cy h2 a2 s2)) ++ ((wF cy a3 y3 s3) ++ (wK cy L4 c4))) → va_S A s.heap H locs → lv_has ls 11 [(0, .ref h0), (1, .int x1), (2, .int x2), (3, .int x3), (4, .int x4), (5, .int x5)] → W p l e ({ frames := 4, cells := 0, slots := 0, locals := 88 } : Room) s m args below meth c H locs 0 0 (MQ below (gQi D cy A out (((w0 cy h0 h1 (a3 160) r0_2 h2 r0_4 s0) ++ (wWa cy h1 a3) ++ (w5 cy h2 a2 s2)) ++ ((wF cy a3 y3 s3) ++ (wK cy L4 c4)))) args s 0 0 A) (F0 m 12 ls []) := by
  obtain ⟨hx, hb, hr, hml, hown, hts, hlk⟩ := id C
  have hown : s.vm.findClass RX0 = some m.cls := hown
  have hk_24 := hts _ (List.mem_cons_of_mem _ fl_RX0_24)
  have hk_45 := hts _ (List.mem_cons_of_mem _ fl_RX0_45)
  intro n_12
  induction n_12 with
  | zero => intro x1 x2 x3 x4 x5 hf; exact op_no hf
  | succ n_12 ih_12 =>
    intro x1 x2 x3 x4 x5 hf H locs ls hP hD hS hl
    rw [f_X0_shortOf_L12] at hf
    refine lv_iload hx hb dX0_shortOf_12 (lv_at hl 5 rfl) ?_
    refine lv_aload_n hx hb dX0_shortOf_14 rfl (lv_at hl 0 rfl) ?_
    refine va_get (ci := 0) (v := .ref h2) (C := RX0) (T := TX0) (N := 5) hx hb hts (fun w h => List.mem_cons_of_mem _ (inX0 w h)) hown hK hP 0 rfl rfl 3 (by decide) hk_24 (fun _ h9 => h9) rfl dX0_shortOf_15 ?_
    refine va_get (ci := 5) (v := .int (s2.1 0)) (C := RX5) (T := TX5) (N := 13) hx hb hts (fun w h => List.mem_cons_of_mem _ (inX5 w h)) hown hK hP 2 rfl rfl 0 (by decide) hk_45 (fun _ h9 => h9) rfl dX0_shortOf_18 ?_
    refine lv_icmp_ge (tgt := 123) hx hb dX0_shortOf_21 (by decide) (fun c_21 => ?_) (fun c_21 => ?_)
    · have hf := op_pos c_21 hf
      refine lv_iload hx hb dX0_shortOf_123 (lv_at hl 4 rfl) ?_
      rw [← Option.some.inj hf]
      exact g_iret hx hb hr hlk hK hP hD hS dX0_shortOf_125
    · have hf := op_neg c_21 hf
      refine lv_aload_n hx hb dX0_shortOf_24 rfl (lv_at hl 0 rfl) ?_
      refine lv_iload_n hx hb dX0_shortOf_25 rfl (lv_at hl 1 rfl) ?_
      refine lv_iload hx hb dX0_shortOf_26 (lv_at hl 5 rfl) ?_
      obtain ⟨q_28, hc_28, hf⟩ := op_bind hf
      refine g_callVrTM (As := [.int x1, .int x5]) (rest := []) (w2 := (w0 cy h0 h1 (a3 160) r0_2 h2 r0_4 s0) ++ (wWa cy h1 a3) ++ (w5 cy h2 a2 s2)) (ms := [w0 cy h0 h1 (a3 160) r0_2 h2 r0_4 s0, wWa cy h1 a3, w5 cy h2 a2 s2]) (mc := [w0 cy h0 h1 (a3 160) r0_2 h2 r0_4 s0, wWa cy h1 a3, w5 cy h2 a2 s2]) (m1 := [w0 cy h0 h1 (a3 160) r0_2 h2 r0_4 s0, wWa cy h1 a3, w5 cy h2 a2 s2]) (m2 := [w0 cy h0 h1 (a3 160) r0_2 h2 r0_4 s0, wWa cy h1 a3, w5 cy h2 a2 s2]) (nm := 3) ⟨hx, hb, hml, hown, hts⟩ (c_X0_wordingOf l D cy h0 r0_2 r0_4 s0 h1 a3 h2 a2 s2 _ fu x1 x5 _ hc_28) (cwV 2 hts (gi_V ml_RX0_52 im_X0_wordingOf se_X0_wordingOf in_RX0 cd_X0_wordingOf) rfl rfl rfl hdX0_wordingOf ⟨Nat.le_of_ble_eq_true rfl, Nat.le_of_ble_eq_true rfl⟩) (va_recv hK hP (ci := 0) (q0 := 0) rfl rfl) rfl hl.1 rfl (Nat.le_of_ble_eq_true rfl) dX0_shortOf_28 hK hP hD hS hA [0, 1, 2] [] [0, 1, 2] (by simp only [List.flatten_cons, List.flatten_nil, List.append_nil, List.append_assoc]) (by simp only [List.flatten_cons, List.flatten_nil, List.append_nil, List.append_assoc]) (by simp only [List.flatten_cons, List.flatten_nil, List.append_nil, List.append_assoc]) (by simp only [List.flatten_cons, List.flatten_nil, List.append_nil, List.append_assoc]) rfl rfl (by decide) rfl rfl (by decide) (fun H locs hP hD hS => ?_)
      refine lv_astore (lv' := [(6, .ref (a3 q_28)), (0, .ref h0), (1, .int x1), (2, .int x2), (3, .int x3), (4, .int x4), (5, .int x5)]) hx hb dX0_shortOf_31 hl (by decide) rfl (fun ls hl => ?_)
      refine lv_aload_n hx hb dX0_shortOf_33 rfl (lv_at hl 1 rfl) ?_
      refine va_get (ci := 0) (v := .ref h2) (C := RX0) (T := TX0) (N := 5) hx hb hts (fun w h => List.mem_cons_of_mem _ (inX0 w h)) hown hK hP 0 rfl rfl 3 (by decide) hk_24 (fun _ h9 => h9) rfl dX0_shortOf_34 ?_
      refine lv_iload hx hb dX0_shortOf_37 (lv_at hl 6 rfl) ?_
      obtain ⟨q_39, hc_39, hf⟩ := op_bind hf
      refine g_callViTM (As := [.int x5]) (rest := []) (w2 := (w0 cy h0 h1 (a3 160) r0_2 h2 r0_4 s0) ++ (wWa cy h1 a3) ++ (w5 cy h2 a2 s2)) (ms := [w0 cy h0 h1 (a3 160) r0_2 h2 r0_4 s0, wWa cy h1 a3, w5 cy h2 a2 s2]) (mc := [w5 cy h2 a2 s2]) (m1 := [w5 cy h2 a2 s2]) (m2 := [w0 cy h0 h1 (a3 160) r0_2 h2 r0_4 s0, wWa cy h1 a3, w5 cy h2 a2 s2]) (nm := 3) ⟨hx, hb, hml, hown, hts⟩ (c_X5_speedOf l D cy h2 a2 s2 _ fu x5 _ hc_39) (cwV 1 hts (gi_V ml_RX0_105 im_X5_speedOf se_X5_speedOf in_RX5 cd_X5_speedOf) rfl rfl rfl hdX5_speedOf ⟨Nat.le_of_ble_eq_true rfl, Nat.le_of_ble_eq_true rfl⟩) (va_recv hK hP (ci := 5) (q0 := 2) rfl rfl) rfl hl.1 rfl (Nat.le_of_ble_eq_true rfl) dX0_shortOf_39 hK hP hD hS hA [2] [0, 1] [0, 1, 2] (by simp only [List.flatten_cons, List.flatten_nil, List.append_nil, List.append_assoc]) (by simp only [List.flatten_cons, List.flatten_nil, List.append_nil, List.append_assoc]) (by simp only [List.flatten_cons, List.flatten_nil, List.append_nil, List.append_assoc]) (by simp only [List.flatten_cons, List.flatten_nil, List.append_nil, List.append_assoc]) rfl rfl (by decide) rfl rfl (by decide) (fun H locs hP hD hS => ?_)
      refine lv_istore (lv' := [(7, .int q_39), (6, .ref (a3 q_28)), (0, .ref h0), (1, .int x1), (2, .int x2), (3, .int x3), (4, .int x4), (5, .int x5)]) hx hb dX0_shortOf_42 hl (by decide) rfl (fun ls hl => ?_)
      refine lv_iconst (v := 0) hx hb dX0_shortOf_44 (by decide) ?_
      refine lv_istore (lv' := [(8, .int 0), (7, .int q_39), (6, .ref (a3 q_28)), (0, .ref h0), (1, .int x1), (2, .int x2), (3, .int x3), (4, .int x4), (5, .int x5)]) hx hb dX0_shortOf_45 hl (by decide) rfl (fun ls hl => ?_)
      exact b_X0_shortOf_L47 l D cy adK adV h0 r0_2 r0_4 s0 h1 h2 a2 s2 a3 y3 s3 L4 c4 fu out C hA hE hK (f_X0_shortOf_L12 fu s0 s2 s3 L4 c4 n_12) ih_12 fu x1 x2 x3 x4 x5 q_28 q_39 0 hf _ _ ls hP hD hS (lv_sub hl [3, 4, 5, 6, 7, 8, 2, 1, 0] rfl)
def f_X0_shortOf (fu : Nat) (s0 : St) (s2 : St) (s3 : FSt) (L4 : List Nat) (c4 : Nat → Nat × (Nat → Int32))  (p1 : Int32) (p2 : Int32) : Option (Int32) := (f_X0_stepsOf fu s0 s2 s3 L4 c4 p1).bind (fun q_2 => f_X0_shortOf_L12 fu s0 s2 s3 L4 c4 fu p1 p2 q_2 0 0)
theorem hdX0_shortOf : yX0_shortOf.cls = RX0 ∧ yX0_shortOf.cls ≠ "java/lang/invoke/MethodHandle" ∧ yX0_shortOf.cls ≠ "java/lang/invoke/VarHandle" ∧ (parseMethodDescriptor yX0_shortOf.desc).map (fun d => d.parameters.length) = some 2 := by decide +kernel
set_option maxHeartbeats 4000000 in
set_option maxRecDepth 100000 in
theorem c_X0_shortOf (l : Launch) (D : va_G) (cy : Nat → ClassId) (adK adV : Nat → Nat) (h0 : Nat) (r0_2 : Nat) (r0_4 : Nat) (s0 : St) (h1 : Nat) (h2 : Nat) (a2 : Nat → Nat) (s2 : St)  (a3 : Nat → Nat) (y3 : Nat → Nat) (s3 : FSt)  (L4 : List Nat) (c4 : Nat → Nat × (Nat → Int32)) (sz fu : Nat) (p1 : Int32) (p2 : Int32) (out : Int32) (hf : f_X0_shortOf fu s0 s2 s3 L4 c4 p1 p2 = some out) :
    Met l yX0_shortOf (WS yX0_shortOf cX0_shortOf 11 (some .int)) ({ frames := 4, cells := 0, slots := 0, locals := 88 } : Room) (va_Pc [.ref h0, .int p1, .int p2] (gPE D cy adK adV sz (((w0 cy h0 h1 (a3 160) r0_2 h2 r0_4 s0) ++ (wWa cy h1 a3) ++ (w5 cy h2 a2 s2)) ++ ((wF cy a3 y3 s3) ++ (wK cy L4 c4))))) ((fun A : Nat → Prop => gQi D cy A out (((w0 cy h0 h1 (a3 160) r0_2 h2 r0_4 s0) ++ (wWa cy h1 a3) ++ (w5 cy h2 a2 s2)) ++ ((wF cy a3 y3 s3) ++ (wK cy L4 c4)))) (va_A (((w0 cy h0 h1 (a3 160) r0_2 h2 r0_4 s0) ++ (wWa cy h1 a3) ++ (w5 cy h2 a2 s2)) ++ ((wF cy a3 y3 s3) ++ (wK cy L4 c4))) sz)) 0 0 (va_A (((w0 cy h0 h1 (a3 160) r0_2 h2 r0_4 s0) ++ (wWa cy h1 a3) ++ (w5 cy h2 a2 s2)) ++ ((wF cy a3 y3 s3) ++ (wK cy L4 c4))) sz) := by
  refine g_metE (cc := cX0_shortOf) (maxL := 11) (ret := (some .int)) (fun A : Nat → Prop => gQi D cy A out (((w0 cy h0 h1 (a3 160) r0_2 h2 r0_4 s0) ++ (wWa cy h1 a3) ++ (w5 cy h2 a2 s2)) ++ ((wF cy a3 y3 s3) ++ (wK cy L4 c4)))) (by decide +kernel) rfl (Nat.le_of_ble_eq_true rfl) ?_
  intro p e s m below meth c A C hA hE hK hP hD ls hl
  obtain ⟨hx, hb, hr, hml, hown, hts, hlk⟩ := id C
  have hown : s.vm.findClass RX0 = some m.cls := hown
  have hS : va_S A s.heap s.heap [] := va_S.rf
  have hl : lv_has ls 11 [(0, .ref h0), (1, .int p1), (2, .int p2)] := hl
  unfold f_X0_shortOf at hf
  refine lv_aload_n hx hb dX0_shortOf_0 rfl (lv_at hl 0 rfl) ?_
  refine lv_iload_n hx hb dX0_shortOf_1 rfl (lv_at hl 1 rfl) ?_
  obtain ⟨q_2, hc_2, hf⟩ := op_bind hf
  refine g_callViUM (As := [.int p1]) (rest := []) (w2 := (w0 cy h0 h1 (a3 160) r0_2 h2 r0_4 s0) ++ (wWa cy h1 a3) ++ (w5 cy h2 a2 s2)) (tl1 := (wF cy a3 y3 s3) ++ (wK cy L4 c4)) (ms := [w0 cy h0 h1 (a3 160) r0_2 h2 r0_4 s0, wWa cy h1 a3, w5 cy h2 a2 s2]) (mc := [w0 cy h0 h1 (a3 160) r0_2 h2 r0_4 s0, wWa cy h1 a3, w5 cy h2 a2 s2]) (m1 := [w0 cy h0 h1 (a3 160) r0_2 h2 r0_4 s0, wWa cy h1 a3, w5 cy h2 a2 s2]) (m2 := [w0 cy h0 h1 (a3 160) r0_2 h2 r0_4 s0, wWa cy h1 a3, w5 cy h2 a2 s2]) (nm := 3) ⟨hx, hb, hml, hown, hts⟩ (c_X0_stepsOf l D cy h0 r0_2 r0_4 s0 h1 h2 a2 s2 a3 y3 s3 L4 c4 _ fu p1 _ hc_2) (cwV 1 hts (gi_V ml_RX0_98 im_X0_stepsOf se_X0_stepsOf in_RX0 cd_X0_stepsOf) rfl rfl rfl hdX0_stepsOf ⟨Nat.le_of_ble_eq_true rfl, Nat.le_of_ble_eq_true rfl⟩) (va_recv hK hP (ci := 0) (q0 := 0) rfl rfl) rfl hl.1 rfl (Nat.le_of_ble_eq_true rfl) dX0_shortOf_2 hK hP hD hS hA [0, 1, 2] [] [0, 1, 2] (by simp only [List.flatten_cons, List.flatten_nil, List.append_nil, List.append_assoc]) (by simp only [List.flatten_cons, List.flatten_nil, List.append_nil, List.append_assoc]) (by simp only [List.flatten_cons, List.flatten_nil, List.append_nil, List.append_assoc]) (by simp only [List.flatten_cons, List.flatten_nil, List.append_nil, List.append_assoc]) rfl rfl (by decide) rfl rfl (by decide) (fun H locs hP hD hS => ?_)
  refine lv_istore_n (lv' := [(3, .int q_2), (0, .ref h0), (1, .int p1), (2, .int p2)]) hx hb dX0_shortOf_5 rfl hl (by decide) rfl (fun ls hl => ?_)
  refine lv_iconst (v := 0) hx hb dX0_shortOf_6 (by decide) ?_
  refine lv_istore (lv' := [(4, .int 0), (3, .int q_2), (0, .ref h0), (1, .int p1), (2, .int p2)]) hx hb dX0_shortOf_7 hl (by decide) rfl (fun ls hl => ?_)
  refine lv_iconst (v := 0) hx hb dX0_shortOf_9 (by decide) ?_
  refine lv_istore (lv' := [(5, .int 0), (4, .int 0), (3, .int q_2), (0, .ref h0), (1, .int p1), (2, .int p2)]) hx hb dX0_shortOf_10 hl (by decide) rfl (fun ls hl => ?_)
  exact b_X0_shortOf_L12 l D cy adK adV h0 r0_2 r0_4 s0 h1 h2 a2 s2 a3 y3 s3 L4 c4 fu out C hA hE hK fu p1 p2 q_2 0 0 hf _ _ ls hP hD hS (lv_sub hl [3, 4, 5, 2, 1, 0] rfl)
